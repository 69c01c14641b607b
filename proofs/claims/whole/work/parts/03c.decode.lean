theorem dX8_put_60 : decode cX8_put 60 = .ok (.getfield 44, 3) := by decide +kernel
theorem dX8_put_63 : decode cX8_put 63 = .ok (.iload_n 1, 1) := by decide +kernel
theorem dX8_put_64 : decode cX8_put 64 = .ok (.iload_n 2, 1) := by decide +kernel
theorem dX8_put_65 : decode cX8_put 65 = .ok (.iastore, 1) := by decide +kernel
theorem dX8_put_66 : decode cX8_put 66 = .ok (.iload 4, 2) := by decide +kernel
theorem dX8_put_68 : decode cX8_put 68 = .ok (.ireturn, 1) := by decide +kernel
theorem dX8_fill_0 : decode cX8_fill 0 = .ok (.aload_n 0, 1) := by decide +kernel
theorem dX8_fill_1 : decode cX8_fill 1 = .ok (.iload_n 1, 1) := by decide +kernel
theorem dX8_fill_2 : decode cX8_fill 2 = .ok (.invokevirtual 147, 3) := by decide +kernel
theorem dX8_fill_5 : decode cX8_fill 5 = .ok (.ifCond .eq 19, 3) := by decide +kernel
theorem dX8_fill_8 : decode cX8_fill 8 = .ok (.iload_n 2, 1) := by decide +kernel
theorem dX8_fill_9 : decode cX8_fill 9 = .ok (.i2l, 1) := by decide +kernel
theorem dX8_fill_10 : decode cX8_fill 10 = .ok (.lconst 0, 1) := by decide +kernel
theorem dX8_fill_11 : decode cX8_fill 11 = .ok (.aload_n 0, 1) := by decide +kernel
theorem dX8_fill_12 : decode cX8_fill 12 = .ok (.getfield 41, 3) := by decide +kernel
theorem dX8_fill_15 : decode cX8_fill 15 = .ok (.iload_n 1, 1) := by decide +kernel
theorem dX8_fill_16 : decode cX8_fill 16 = .ok (.iaload, 1) := by decide +kernel
theorem dX8_fill_17 : decode cX8_fill 17 = .ok (.i2l, 1) := by decide +kernel
theorem dX8_fill_18 : decode cX8_fill 18 = .ok (.invokestatic 110, 3) := by decide +kernel
theorem dX8_fill_21 : decode cX8_fill 21 = .ok (.ifCond .ne 6, 3) := by decide +kernel
theorem dX8_fill_24 : decode cX8_fill 24 = .ok (.bipush (-2), 2) := by decide +kernel
theorem dX8_fill_26 : decode cX8_fill 26 = .ok (.ireturn, 1) := by decide +kernel
theorem dX8_fill_27 : decode cX8_fill 27 = .ok (.aload_n 0, 1) := by decide +kernel
theorem dX8_fill_28 : decode cX8_fill 28 = .ok (.getfield 47, 3) := by decide +kernel
theorem dX8_fill_31 : decode cX8_fill 31 = .ok (.iload_n 1, 1) := by decide +kernel
theorem dX8_fill_32 : decode cX8_fill 32 = .ok (.iaload, 1) := by decide +kernel
theorem dX8_fill_33 : decode cX8_fill 33 = .ok (.istore_n 3, 1) := by decide +kernel
theorem dX8_fill_34 : decode cX8_fill 34 = .ok (.aload_n 0, 1) := by decide +kernel
theorem dX8_fill_35 : decode cX8_fill 35 = .ok (.getfield 47, 3) := by decide +kernel
theorem dX8_fill_38 : decode cX8_fill 38 = .ok (.iload_n 1, 1) := by decide +kernel
theorem dX8_fill_39 : decode cX8_fill 39 = .ok (.iload_n 2, 1) := by decide +kernel
theorem dX8_fill_40 : decode cX8_fill 40 = .ok (.iastore, 1) := by decide +kernel
theorem dX8_fill_41 : decode cX8_fill 41 = .ok (.iload_n 3, 1) := by decide +kernel
theorem dX8_fill_42 : decode cX8_fill 42 = .ok (.ireturn, 1) := by decide +kernel
theorem dX8_told_0 : decode cX8_told 0 = .ok (.iload_n 2, 1) := by decide +kernel
theorem dX8_told_1 : decode cX8_told 1 = .ok (.i2l, 1) := by decide +kernel
theorem dX8_told_2 : decode cX8_told 2 = .ok (.lconst 0, 1) := by decide +kernel
theorem dX8_told_3 : decode cX8_told 3 = .ok (.ldc2_w 121, 3) := by decide +kernel
theorem dX8_told_6 : decode cX8_told 6 = .ok (.invokestatic 110, 3) := by decide +kernel
theorem dX8_told_9 : decode cX8_told 9 = .ok (.ifCond .eq 27, 3) := by decide +kernel
theorem dX8_told_12 : decode cX8_told 12 = .ok (.iload_n 2, 1) := by decide +kernel
theorem dX8_told_13 : decode cX8_told 13 = .ok (.iconst 4, 1) := by decide +kernel
theorem dX8_told_14 : decode cX8_told 14 = .ok (.if_icmp .ge 14, 3) := by decide +kernel
theorem dX8_told_17 : decode cX8_told 17 = .ok (.aload_n 0, 1) := by decide +kernel
theorem dX8_told_18 : decode cX8_told 18 = .ok (.iload_n 1, 1) := by decide +kernel
theorem dX8_told_19 : decode cX8_told 19 = .ok (.invokevirtual 127, 3) := by decide +kernel
theorem dX8_told_22 : decode cX8_told 22 = .ok (.ifCond .eq 14, 3) := by decide +kernel
theorem dX8_told_25 : decode cX8_told 25 = .ok (.goto 14, 3) := by decide +kernel
theorem dX8_told_28 : decode cX8_told 28 = .ok (.aload_n 0, 1) := by decide +kernel
theorem dX8_told_29 : decode cX8_told 29 = .ok (.iload_n 1, 1) := by decide +kernel
theorem dX8_told_30 : decode cX8_told 30 = .ok (.invokevirtual 147, 3) := by decide +kernel
theorem dX8_told_33 : decode cX8_told 33 = .ok (.ifCond .ne 6, 3) := by decide +kernel
theorem dX8_told_36 : decode cX8_told 36 = .ok (.bipush (-100), 2) := by decide +kernel
theorem dX8_told_38 : decode cX8_told 38 = .ok (.ireturn, 1) := by decide +kernel
theorem dX8_told_39 : decode cX8_told 39 = .ok (.iload_n 2, 1) := by decide +kernel
theorem dX8_told_40 : decode cX8_told 40 = .ok (.iconst 4, 1) := by decide +kernel
theorem dX8_told_41 : decode cX8_told 41 = .ok (.if_icmp .ge 51, 3) := by decide +kernel
theorem dX8_told_44 : decode cX8_told 44 = .ok (.iload_n 2, 1) := by decide +kernel
theorem dX8_told_45 : decode cX8_told 45 = .ok (.ifCond .ne 12, 3) := by decide +kernel
theorem dX8_told_48 : decode cX8_told 48 = .ok (.aload_n 0, 1) := by decide +kernel
theorem dX8_told_49 : decode cX8_told 49 = .ok (.getfield 29, 3) := by decide +kernel
theorem dX8_told_52 : decode cX8_told 52 = .ok (.iload_n 1, 1) := by decide +kernel
theorem dX8_told_53 : decode cX8_told 53 = .ok (.iaload, 1) := by decide +kernel
theorem dX8_told_54 : decode cX8_told 54 = .ok (.goto 37, 3) := by decide +kernel
theorem dX8_told_57 : decode cX8_told 57 = .ok (.iload_n 2, 1) := by decide +kernel
theorem dX8_told_58 : decode cX8_told 58 = .ok (.iconst 1, 1) := by decide +kernel
theorem dX8_told_59 : decode cX8_told 59 = .ok (.if_icmp .ne 12, 3) := by decide +kernel
theorem dX8_told_62 : decode cX8_told 62 = .ok (.aload_n 0, 1) := by decide +kernel
theorem dX8_told_63 : decode cX8_told 63 = .ok (.getfield 32, 3) := by decide +kernel
theorem dX8_told_66 : decode cX8_told 66 = .ok (.iload_n 1, 1) := by decide +kernel
theorem dX8_told_67 : decode cX8_told 67 = .ok (.iaload, 1) := by decide +kernel
theorem dX8_told_68 : decode cX8_told 68 = .ok (.goto 23, 3) := by decide +kernel
theorem dX8_told_71 : decode cX8_told 71 = .ok (.iload_n 2, 1) := by decide +kernel
theorem dX8_told_72 : decode cX8_told 72 = .ok (.iconst 2, 1) := by decide +kernel
theorem dX8_told_73 : decode cX8_told 73 = .ok (.if_icmp .ne 12, 3) := by decide +kernel
theorem dX8_told_76 : decode cX8_told 76 = .ok (.aload_n 0, 1) := by decide +kernel
theorem dX8_told_77 : decode cX8_told 77 = .ok (.getfield 35, 3) := by decide +kernel
theorem dX8_told_80 : decode cX8_told 80 = .ok (.iload_n 1, 1) := by decide +kernel
theorem dX8_told_81 : decode cX8_told 81 = .ok (.iaload, 1) := by decide +kernel
theorem dX8_told_82 : decode cX8_told 82 = .ok (.goto 9, 3) := by decide +kernel
theorem dX8_told_85 : decode cX8_told 85 = .ok (.aload_n 0, 1) := by decide +kernel
theorem dX8_told_86 : decode cX8_told 86 = .ok (.getfield 38, 3) := by decide +kernel
theorem dX8_told_89 : decode cX8_told 89 = .ok (.iload_n 1, 1) := by decide +kernel
theorem dX8_told_90 : decode cX8_told 90 = .ok (.iaload, 1) := by decide +kernel
theorem dX8_told_91 : decode cX8_told 91 = .ok (.ireturn, 1) := by decide +kernel
theorem dX8_told_92 : decode cX8_told 92 = .ok (.iload_n 2, 1) := by decide +kernel
theorem dX8_told_93 : decode cX8_told 93 = .ok (.iconst 4, 1) := by decide +kernel
theorem dX8_told_94 : decode cX8_told 94 = .ok (.if_icmp .ne 12, 3) := by decide +kernel
theorem dX8_told_97 : decode cX8_told 97 = .ok (.aload_n 0, 1) := by decide +kernel
theorem dX8_told_98 : decode cX8_told 98 = .ok (.getfield 41, 3) := by decide +kernel
theorem dX8_told_101 : decode cX8_told 101 = .ok (.iload_n 1, 1) := by decide +kernel
theorem dX8_told_102 : decode cX8_told 102 = .ok (.iaload, 1) := by decide +kernel
theorem dX8_told_103 : decode cX8_told 103 = .ok (.goto 23, 3) := by decide +kernel
theorem dX8_told_106 : decode cX8_told 106 = .ok (.iload_n 2, 1) := by decide +kernel
theorem dX8_told_107 : decode cX8_told 107 = .ok (.iconst 5, 1) := by decide +kernel
theorem dX8_told_108 : decode cX8_told 108 = .ok (.if_icmp .ne 12, 3) := by decide +kernel
theorem dX8_told_111 : decode cX8_told 111 = .ok (.aload_n 0, 1) := by decide +kernel
theorem dX8_told_112 : decode cX8_told 112 = .ok (.getfield 44, 3) := by decide +kernel
theorem dX8_told_115 : decode cX8_told 115 = .ok (.iload_n 1, 1) := by decide +kernel
theorem dX8_told_116 : decode cX8_told 116 = .ok (.iaload, 1) := by decide +kernel
theorem dX8_told_117 : decode cX8_told 117 = .ok (.goto 9, 3) := by decide +kernel
theorem dX8_told_120 : decode cX8_told 120 = .ok (.aload_n 0, 1) := by decide +kernel
theorem dX8_told_121 : decode cX8_told 121 = .ok (.getfield 47, 3) := by decide +kernel
theorem dX8_told_124 : decode cX8_told 124 = .ok (.iload_n 1, 1) := by decide +kernel
theorem dX8_told_125 : decode cX8_told 125 = .ok (.iaload, 1) := by decide +kernel
theorem dX8_told_126 : decode cX8_told 126 = .ok (.ireturn, 1) := by decide +kernel
theorem dX8_feed_0 : decode cX8_feed 0 = .ok (.iload_n 1, 1) := by decide +kernel
theorem dX8_feed_1 : decode cX8_feed 1 = .ok (.i2l, 1) := by decide +kernel
theorem dX8_feed_2 : decode cX8_feed 2 = .ok (.lconst 0, 1) := by decide +kernel
theorem dX8_feed_3 : decode cX8_feed 3 = .ok (.ldc2_w 154, 3) := by decide +kernel
theorem dX8_feed_6 : decode cX8_feed 6 = .ok (.invokestatic 110, 3) := by decide +kernel
theorem dX8_feed_9 : decode cX8_feed 9 = .ok (.ifCond .ne 6, 3) := by decide +kernel
theorem dX8_feed_12 : decode cX8_feed 12 = .ok (.bipush (-2), 2) := by decide +kernel
theorem dX8_feed_14 : decode cX8_feed 14 = .ok (.ireturn, 1) := by decide +kernel
theorem dX8_feed_15 : decode cX8_feed 15 = .ok (.aload_n 0, 1) := by decide +kernel
theorem dX8_feed_16 : decode cX8_feed 16 = .ok (.getfield 156, 3) := by decide +kernel
theorem dX8_feed_19 : decode cX8_feed 19 = .ok (.sipush 160, 3) := by decide +kernel
theorem dX8_feed_22 : decode cX8_feed 22 = .ok (.if_icmp .ne 6, 3) := by decide +kernel
theorem dX8_feed_25 : decode cX8_feed 25 = .ok (.bipush (-4), 2) := by decide +kernel
theorem dX8_feed_27 : decode cX8_feed 27 = .ok (.ireturn, 1) := by decide +kernel
theorem dX8_feed_28 : decode cX8_feed 28 = .ok (.aload_n 0, 1) := by decide +kernel
theorem dX8_feed_29 : decode cX8_feed 29 = .ok (.getfield 20, 3) := by decide +kernel
theorem dX8_feed_32 : decode cX8_feed 32 = .ok (.aload_n 0, 1) := by decide +kernel
theorem dX8_feed_33 : decode cX8_feed 33 = .ok (.getfield 156, 3) := by decide +kernel
theorem dX8_feed_36 : decode cX8_feed 36 = .ok (.iload_n 1, 1) := by decide +kernel
theorem dX8_feed_37 : decode cX8_feed 37 = .ok (.iastore, 1) := by decide +kernel
theorem dX8_feed_38 : decode cX8_feed 38 = .ok (.aload_n 0, 1) := by decide +kernel
theorem dX8_feed_39 : decode cX8_feed 39 = .ok (.dup, 1) := by decide +kernel
theorem dX8_feed_40 : decode cX8_feed 40 = .ok (.getfield 156, 3) := by decide +kernel
theorem dX8_feed_43 : decode cX8_feed 43 = .ok (.iconst 1, 1) := by decide +kernel
theorem dX8_feed_44 : decode cX8_feed 44 = .ok (.iadd, 1) := by decide +kernel
theorem dX8_feed_45 : decode cX8_feed 45 = .ok (.putfield 156, 3) := by decide +kernel
theorem dX8_feed_48 : decode cX8_feed 48 = .ok (.aload_n 0, 1) := by decide +kernel
theorem dX8_feed_49 : decode cX8_feed 49 = .ok (.getfield 156, 3) := by decide +kernel
theorem dX8_feed_52 : decode cX8_feed 52 = .ok (.ireturn, 1) := by decide +kernel
theorem dX8_byteAt_0 : decode cX8_byteAt 0 = .ok (.iload_n 1, 1) := by decide +kernel
theorem dX8_byteAt_1 : decode cX8_byteAt 1 = .ok (.aload_n 0, 1) := by decide +kernel
theorem dX8_byteAt_2 : decode cX8_byteAt 2 = .ok (.getfield 159, 3) := by decide +kernel
theorem dX8_byteAt_5 : decode cX8_byteAt 5 = .ok (.if_icmp .ge 17, 3) := by decide +kernel
theorem dX8_byteAt_8 : decode cX8_byteAt 8 = .ok (.aload_n 0, 1) := by decide +kernel
theorem dX8_byteAt_9 : decode cX8_byteAt 9 = .ok (.getfield 13, 3) := by decide +kernel
theorem dX8_byteAt_12 : decode cX8_byteAt 12 = .ok (.aload_n 0, 1) := by decide +kernel
theorem dX8_byteAt_13 : decode cX8_byteAt 13 = .ok (.getfield 162, 3) := by decide +kernel
theorem dX8_byteAt_16 : decode cX8_byteAt 16 = .ok (.iload_n 1, 1) := by decide +kernel
theorem dX8_byteAt_17 : decode cX8_byteAt 17 = .ok (.iadd, 1) := by decide +kernel
theorem dX8_byteAt_18 : decode cX8_byteAt 18 = .ok (.iaload, 1) := by decide +kernel
theorem dX8_byteAt_19 : decode cX8_byteAt 19 = .ok (.goto 4, 3) := by decide +kernel
theorem dX8_byteAt_22 : decode cX8_byteAt 22 = .ok (.iconst (-1), 1) := by decide +kernel
theorem dX8_byteAt_23 : decode cX8_byteAt 23 = .ok (.ireturn, 1) := by decide +kernel
theorem dX8_next_0 : decode cX8_next 0 = .ok (.aload_n 0, 1) := by decide +kernel
theorem dX8_next_1 : decode cX8_next 1 = .ok (.aload_n 0, 1) := by decide +kernel
theorem dX8_next_2 : decode cX8_next 2 = .ok (.getfield 165, 3) := by decide +kernel
theorem dX8_next_5 : decode cX8_next 5 = .ok (.invokevirtual 168, 3) := by decide +kernel
theorem dX8_next_8 : decode cX8_next 8 = .ok (.bipush 32, 2) := by decide +kernel
theorem dX8_next_10 : decode cX8_next 10 = .ok (.if_icmp .eq 16, 3) := by decide +kernel
theorem dX8_next_13 : decode cX8_next 13 = .ok (.aload_n 0, 1) := by decide +kernel
theorem dX8_next_14 : decode cX8_next 14 = .ok (.aload_n 0, 1) := by decide +kernel
theorem dX8_next_15 : decode cX8_next 15 = .ok (.getfield 165, 3) := by decide +kernel
theorem dX8_next_18 : decode cX8_next 18 = .ok (.invokevirtual 168, 3) := by decide +kernel
theorem dX8_next_21 : decode cX8_next 21 = .ok (.bipush 10, 2) := by decide +kernel
theorem dX8_next_23 : decode cX8_next 23 = .ok (.if_icmp .ne 16, 3) := by decide +kernel
theorem dX8_next_26 : decode cX8_next 26 = .ok (.aload_n 0, 1) := by decide +kernel
theorem dX8_next_27 : decode cX8_next 27 = .ok (.dup, 1) := by decide +kernel
theorem dX8_next_28 : decode cX8_next 28 = .ok (.getfield 165, 3) := by decide +kernel
theorem dX8_next_31 : decode cX8_next 31 = .ok (.iconst 1, 1) := by decide +kernel
theorem dX8_next_32 : decode cX8_next 32 = .ok (.iadd, 1) := by decide +kernel
theorem dX8_next_33 : decode cX8_next 33 = .ok (.putfield 165, 3) := by decide +kernel
theorem dX8_next_36 : decode cX8_next 36 = .ok (.goto (-36), 3) := by decide +kernel
theorem dX8_next_39 : decode cX8_next 39 = .ok (.aload_n 0, 1) := by decide +kernel
theorem dX8_next_40 : decode cX8_next 40 = .ok (.aload_n 0, 1) := by decide +kernel
theorem dX8_next_41 : decode cX8_next 41 = .ok (.getfield 165, 3) := by decide +kernel
theorem dX8_next_44 : decode cX8_next 44 = .ok (.putfield 171, 3) := by decide +kernel
theorem dX8_next_47 : decode cX8_next 47 = .ok (.aload_n 0, 1) := by decide +kernel
theorem dX8_next_48 : decode cX8_next 48 = .ok (.aload_n 0, 1) := by decide +kernel
theorem dX8_next_49 : decode cX8_next 49 = .ok (.getfield 165, 3) := by decide +kernel
theorem dX8_next_52 : decode cX8_next 52 = .ok (.invokevirtual 168, 3) := by decide +kernel
theorem dX8_next_55 : decode cX8_next 55 = .ok (.istore_n 1, 1) := by decide +kernel
theorem dX8_next_56 : decode cX8_next 56 = .ok (.aload_n 0, 1) := by decide +kernel
theorem dX8_next_57 : decode cX8_next 57 = .ok (.iconst 4, 1) := by decide +kernel
theorem dX8_next_58 : decode cX8_next 58 = .ok (.putfield 174, 3) := by decide +kernel
theorem dX8_next_61 : decode cX8_next 61 = .ok (.iload_n 1, 1) := by decide +kernel
theorem dX8_next_62 : decode cX8_next 62 = .ok (.ifCond .ge 19, 3) := by decide +kernel
theorem dX8_next_65 : decode cX8_next 65 = .ok (.aload_n 0, 1) := by decide +kernel
theorem dX8_next_66 : decode cX8_next 66 = .ok (.iconst 0, 1) := by decide +kernel
theorem dX8_next_67 : decode cX8_next 67 = .ok (.putfield 174, 3) := by decide +kernel
theorem dX8_next_70 : decode cX8_next 70 = .ok (.aload_n 0, 1) := by decide +kernel
theorem dX8_next_71 : decode cX8_next 71 = .ok (.aload_n 0, 1) := by decide +kernel
theorem dX8_next_72 : decode cX8_next 72 = .ok (.getfield 159, 3) := by decide +kernel
theorem dX8_next_75 : decode cX8_next 75 = .ok (.putfield 171, 3) := by decide +kernel
theorem dX8_next_78 : decode cX8_next 78 = .ok (.goto 243, 3) := by decide +kernel
theorem dX8_next_81 : decode cX8_next 81 = .ok (.iload_n 1, 1) := by decide +kernel
theorem dX8_next_82 : decode cX8_next 82 = .ok (.i2l, 1) := by decide +kernel
theorem dX8_next_83 : decode cX8_next 83 = .ok (.ldc2_w 177, 3) := by decide +kernel
theorem dX8_next_86 : decode cX8_next 86 = .ok (.ldc2_w 179, 3) := by decide +kernel
theorem dX8_next_89 : decode cX8_next 89 = .ok (.invokestatic 110, 3) := by decide +kernel
theorem dX8_next_92 : decode cX8_next 92 = .ok (.ifCond .eq 42, 3) := by decide +kernel
theorem dX8_next_95 : decode cX8_next 95 = .ok (.aload_n 0, 1) := by decide +kernel
theorem dX8_next_96 : decode cX8_next 96 = .ok (.iconst 1, 1) := by decide +kernel
theorem dX8_next_97 : decode cX8_next 97 = .ok (.putfield 174, 3) := by decide +kernel
theorem dX8_next_100 : decode cX8_next 100 = .ok (.aload_n 0, 1) := by decide +kernel
theorem dX8_next_101 : decode cX8_next 101 = .ok (.aload_n 0, 1) := by decide +kernel
theorem dX8_next_102 : decode cX8_next 102 = .ok (.getfield 165, 3) := by decide +kernel
theorem dX8_next_105 : decode cX8_next 105 = .ok (.invokevirtual 168, 3) := by decide +kernel
theorem dX8_next_108 : decode cX8_next 108 = .ok (.i2l, 1) := by decide +kernel
theorem dX8_next_109 : decode cX8_next 109 = .ok (.ldc2_w 177, 3) := by decide +kernel
theorem dX8_next_112 : decode cX8_next 112 = .ok (.ldc2_w 179, 3) := by decide +kernel
theorem dX8_next_115 : decode cX8_next 115 = .ok (.invokestatic 110, 3) := by decide +kernel
theorem dX8_next_118 : decode cX8_next 118 = .ok (.ifCond .eq 203, 3) := by decide +kernel
theorem dX8_next_121 : decode cX8_next 121 = .ok (.aload_n 0, 1) := by decide +kernel
theorem dX8_next_122 : decode cX8_next 122 = .ok (.dup, 1) := by decide +kernel
theorem dX8_next_123 : decode cX8_next 123 = .ok (.getfield 165, 3) := by decide +kernel
theorem dX8_next_126 : decode cX8_next 126 = .ok (.iconst 1, 1) := by decide +kernel
theorem dX8_next_127 : decode cX8_next 127 = .ok (.iadd, 1) := by decide +kernel
theorem dX8_next_128 : decode cX8_next 128 = .ok (.putfield 165, 3) := by decide +kernel
theorem dX8_next_131 : decode cX8_next 131 = .ok (.goto (-31), 3) := by decide +kernel
theorem dX8_next_134 : decode cX8_next 134 = .ok (.iload_n 1, 1) := by decide +kernel
theorem dX8_next_135 : decode cX8_next 135 = .ok (.i2l, 1) := by decide +kernel
theorem dX8_next_136 : decode cX8_next 136 = .ok (.ldc2_w 181, 3) := by decide +kernel
theorem dX8_next_139 : decode cX8_next 139 = .ok (.ldc2_w 183, 3) := by decide +kernel
theorem dX8_next_142 : decode cX8_next 142 = .ok (.invokestatic 110, 3) := by decide +kernel
theorem dX8_next_145 : decode cX8_next 145 = .ok (.ifCond .eq 107, 3) := by decide +kernel
theorem dX8_next_148 : decode cX8_next 148 = .ok (.aload_n 0, 1) := by decide +kernel
theorem dX8_next_149 : decode cX8_next 149 = .ok (.iconst 2, 1) := by decide +kernel
theorem dX8_next_150 : decode cX8_next 150 = .ok (.putfield 174, 3) := by decide +kernel
theorem dX8_next_153 : decode cX8_next 153 = .ok (.aload_n 0, 1) := by decide +kernel
theorem dX8_next_154 : decode cX8_next 154 = .ok (.lconst 0, 1) := by decide +kernel
theorem dX8_next_155 : decode cX8_next 155 = .ok (.putfield 185, 3) := by decide +kernel
theorem dX8_next_158 : decode cX8_next 158 = .ok (.iconst 0, 1) := by decide +kernel
theorem dX8_next_159 : decode cX8_next 159 = .ok (.istore_n 2, 1) := by decide +kernel
theorem dX8_next_160 : decode cX8_next 160 = .ok (.aload_n 0, 1) := by decide +kernel
theorem dX8_next_161 : decode cX8_next 161 = .ok (.aload_n 0, 1) := by decide +kernel
theorem dX8_next_162 : decode cX8_next 162 = .ok (.getfield 165, 3) := by decide +kernel
theorem dX8_next_165 : decode cX8_next 165 = .ok (.invokevirtual 168, 3) := by decide +kernel
theorem dX8_next_168 : decode cX8_next 168 = .ok (.i2l, 1) := by decide +kernel
theorem dX8_next_169 : decode cX8_next 169 = .ok (.ldc2_w 181, 3) := by decide +kernel
theorem dX8_next_172 : decode cX8_next 172 = .ok (.ldc2_w 183, 3) := by decide +kernel
theorem dX8_next_175 : decode cX8_next 175 = .ok (.invokestatic 110, 3) := by decide +kernel
theorem dX8_next_178 : decode cX8_next 178 = .ok (.ifCond .eq 57, 3) := by decide +kernel
theorem dX8_next_181 : decode cX8_next 181 = .ok (.aload_n 0, 1) := by decide +kernel
theorem dX8_next_182 : decode cX8_next 182 = .ok (.iload_n 2, 1) := by decide +kernel
theorem dX8_next_183 : decode cX8_next 183 = .ok (.iconst 4, 1) := by decide +kernel
theorem dX8_next_184 : decode cX8_next 184 = .ok (.if_icmp .ge 28, 3) := by decide +kernel
theorem dX8_next_187 : decode cX8_next 187 = .ok (.ldc2_w 189, 3) := by decide +kernel
theorem dX8_next_190 : decode cX8_next 190 = .ok (.aload_n 0, 1) := by decide +kernel
theorem dX8_next_191 : decode cX8_next 191 = .ok (.getfield 185, 3) := by decide +kernel
theorem dX8_next_194 : decode cX8_next 194 = .ok (.lmul, 1) := by decide +kernel
theorem dX8_next_195 : decode cX8_next 195 = .ok (.aload_n 0, 1) := by decide +kernel
theorem dX8_next_196 : decode cX8_next 196 = .ok (.aload_n 0, 1) := by decide +kernel
theorem dX8_next_197 : decode cX8_next 197 = .ok (.getfield 165, 3) := by decide +kernel
theorem dX8_next_200 : decode cX8_next 200 = .ok (.invokevirtual 168, 3) := by decide +kernel
theorem dX8_next_203 : decode cX8_next 203 = .ok (.i2l, 1) := by decide +kernel
theorem dX8_next_204 : decode cX8_next 204 = .ok (.ladd, 1) := by decide +kernel
theorem dX8_next_205 : decode cX8_next 205 = .ok (.ldc2_w 181, 3) := by decide +kernel
theorem dX8_next_208 : decode cX8_next 208 = .ok (.lsub, 1) := by decide +kernel
theorem dX8_next_209 : decode cX8_next 209 = .ok (.goto 7, 3) := by decide +kernel
theorem dX8_next_212 : decode cX8_next 212 = .ok (.aload_n 0, 1) := by decide +kernel
theorem dX8_next_213 : decode cX8_next 213 = .ok (.getfield 185, 3) := by decide +kernel
theorem dX8_next_216 : decode cX8_next 216 = .ok (.putfield 185, 3) := by decide +kernel
theorem dX8_next_219 : decode cX8_next 219 = .ok (.iinc 2 1, 3) := by decide +kernel
theorem dX8_next_222 : decode cX8_next 222 = .ok (.aload_n 0, 1) := by decide +kernel
theorem dX8_next_223 : decode cX8_next 223 = .ok (.dup, 1) := by decide +kernel
theorem dX8_next_224 : decode cX8_next 224 = .ok (.getfield 165, 3) := by decide +kernel
theorem dX8_next_227 : decode cX8_next 227 = .ok (.iconst 1, 1) := by decide +kernel
theorem dX8_next_228 : decode cX8_next 228 = .ok (.iadd, 1) := by decide +kernel
theorem dX8_next_229 : decode cX8_next 229 = .ok (.putfield 165, 3) := by decide +kernel
theorem dX8_next_232 : decode cX8_next 232 = .ok (.goto (-72), 3) := by decide +kernel
theorem dX8_next_235 : decode cX8_next 235 = .ok (.aload_n 0, 1) := by decide +kernel
theorem dX8_next_236 : decode cX8_next 236 = .ok (.iload_n 2, 1) := by decide +kernel
theorem dX8_next_237 : decode cX8_next 237 = .ok (.iconst 4, 1) := by decide +kernel
theorem dX8_next_238 : decode cX8_next 238 = .ok (.if_icmp .le 7, 3) := by decide +kernel
theorem dX8_next_241 : decode cX8_next 241 = .ok (.iconst 4, 1) := by decide +kernel
theorem dX8_next_242 : decode cX8_next 242 = .ok (.goto 4, 3) := by decide +kernel
theorem dX8_next_245 : decode cX8_next 245 = .ok (.iconst 2, 1) := by decide +kernel
theorem dX8_next_246 : decode cX8_next 246 = .ok (.putfield 174, 3) := by decide +kernel
theorem dX8_next_249 : decode cX8_next 249 = .ok (.goto 72, 3) := by decide +kernel
theorem dX8_next_252 : decode cX8_next 252 = .ok (.iload_n 1, 1) := by decide +kernel
theorem dX8_next_253 : decode cX8_next 253 = .ok (.bipush 40, 2) := by decide +kernel
theorem dX8_next_255 : decode cX8_next 255 = .ok (.if_icmp .eq 45, 3) := by decide +kernel
theorem dX8_next_258 : decode cX8_next 258 = .ok (.iload_n 1, 1) := by decide +kernel
theorem dX8_next_259 : decode cX8_next 259 = .ok (.bipush 41, 2) := by decide +kernel
theorem dX8_next_261 : decode cX8_next 261 = .ok (.if_icmp .eq 39, 3) := by decide +kernel
theorem dX8_next_264 : decode cX8_next 264 = .ok (.iload_n 1, 1) := by decide +kernel
theorem dX8_next_265 : decode cX8_next 265 = .ok (.bipush 59, 2) := by decide +kernel
theorem dX8_next_267 : decode cX8_next 267 = .ok (.if_icmp .eq 33, 3) := by decide +kernel
theorem dX8_next_270 : decode cX8_next 270 = .ok (.iload_n 1, 1) := by decide +kernel
theorem dX8_next_271 : decode cX8_next 271 = .ok (.bipush 43, 2) := by decide +kernel
theorem dX8_next_273 : decode cX8_next 273 = .ok (.if_icmp .eq 27, 3) := by decide +kernel
theorem dX8_next_276 : decode cX8_next 276 = .ok (.iload_n 1, 1) := by decide +kernel
theorem dX8_next_277 : decode cX8_next 277 = .ok (.bipush 45, 2) := by decide +kernel
theorem dX8_next_279 : decode cX8_next 279 = .ok (.if_icmp .eq 21, 3) := by decide +kernel
theorem dX8_next_282 : decode cX8_next 282 = .ok (.iload_n 1, 1) := by decide +kernel
theorem dX8_next_283 : decode cX8_next 283 = .ok (.bipush 42, 2) := by decide +kernel
theorem dX8_next_285 : decode cX8_next 285 = .ok (.if_icmp .eq 15, 3) := by decide +kernel
theorem dX8_next_288 : decode cX8_next 288 = .ok (.iload_n 1, 1) := by decide +kernel
theorem dX8_next_289 : decode cX8_next 289 = .ok (.bipush 60, 2) := by decide +kernel
theorem dX8_next_291 : decode cX8_next 291 = .ok (.if_icmp .eq 9, 3) := by decide +kernel
theorem dX8_next_294 : decode cX8_next 294 = .ok (.iload_n 1, 1) := by decide +kernel
theorem dX8_next_295 : decode cX8_next 295 = .ok (.bipush 61, 2) := by decide +kernel
theorem dX8_next_297 : decode cX8_next 297 = .ok (.if_icmp .ne 24, 3) := by decide +kernel
theorem dX8_next_300 : decode cX8_next 300 = .ok (.aload_n 0, 1) := by decide +kernel
theorem dX8_next_301 : decode cX8_next 301 = .ok (.iconst 3, 1) := by decide +kernel
theorem dX8_next_302 : decode cX8_next 302 = .ok (.putfield 174, 3) := by decide +kernel
theorem dX8_next_305 : decode cX8_next 305 = .ok (.aload_n 0, 1) := by decide +kernel
theorem dX8_next_306 : decode cX8_next 306 = .ok (.iload_n 1, 1) := by decide +kernel
theorem dX8_next_307 : decode cX8_next 307 = .ok (.i2l, 1) := by decide +kernel
theorem dX8_next_308 : decode cX8_next 308 = .ok (.putfield 185, 3) := by decide +kernel
theorem dX8_next_311 : decode cX8_next 311 = .ok (.aload_n 0, 1) := by decide +kernel
theorem dX8_next_312 : decode cX8_next 312 = .ok (.dup, 1) := by decide +kernel
theorem dX8_next_313 : decode cX8_next 313 = .ok (.getfield 165, 3) := by decide +kernel
theorem dX8_next_316 : decode cX8_next 316 = .ok (.iconst 1, 1) := by decide +kernel
theorem dX8_next_317 : decode cX8_next 317 = .ok (.iadd, 1) := by decide +kernel
theorem dX8_next_318 : decode cX8_next 318 = .ok (.putfield 165, 3) := by decide +kernel
theorem dX8_next_321 : decode cX8_next 321 = .ok (.return_, 1) := by decide +kernel
theorem dX8_fail_0 : decode cX8_fail 0 = .ok (.aload_n 0, 1) := by decide +kernel
theorem dX8_fail_1 : decode cX8_fail 1 = .ok (.getfield 191, 3) := by decide +kernel
theorem dX8_fail_4 : decode cX8_fail 4 = .ok (.ifCond .ne 16, 3) := by decide +kernel
theorem dX8_fail_7 : decode cX8_fail 7 = .ok (.aload_n 0, 1) := by decide +kernel
theorem dX8_fail_8 : decode cX8_fail 8 = .ok (.iconst 1, 1) := by decide +kernel
theorem dX8_fail_9 : decode cX8_fail 9 = .ok (.putfield 191, 3) := by decide +kernel
theorem dX8_fail_12 : decode cX8_fail 12 = .ok (.aload_n 0, 1) := by decide +kernel
theorem dX8_fail_13 : decode cX8_fail 13 = .ok (.aload_n 0, 1) := by decide +kernel
theorem dX8_fail_14 : decode cX8_fail 14 = .ok (.getfield 171, 3) := by decide +kernel
theorem dX8_fail_17 : decode cX8_fail 17 = .ok (.putfield 195, 3) := by decide +kernel
theorem dX8_fail_20 : decode cX8_fail 20 = .ok (.return_, 1) := by decide +kernel
theorem dX8_isLetter_0 : decode cX8_isLetter 0 = .ok (.aload_n 0, 1) := by decide +kernel
theorem dX8_isLetter_1 : decode cX8_isLetter 1 = .ok (.getfield 171, 3) := by decide +kernel
theorem dX8_isLetter_4 : decode cX8_isLetter 4 = .ok (.iload_n 1, 1) := by decide +kernel
theorem dX8_isLetter_5 : decode cX8_isLetter 5 = .ok (.iadd, 1) := by decide +kernel
theorem dX8_isLetter_6 : decode cX8_isLetter 6 = .ok (.aload_n 0, 1) := by decide +kernel
theorem dX8_isLetter_7 : decode cX8_isLetter 7 = .ok (.getfield 165, 3) := by decide +kernel
theorem dX8_isLetter_10 : decode cX8_isLetter 10 = .ok (.if_icmp .ge 25, 3) := by decide +kernel
theorem dX8_isLetter_13 : decode cX8_isLetter 13 = .ok (.aload_n 0, 1) := by decide +kernel
theorem dX8_isLetter_14 : decode cX8_isLetter 14 = .ok (.aload_n 0, 1) := by decide +kernel
theorem dX8_isLetter_15 : decode cX8_isLetter 15 = .ok (.getfield 171, 3) := by decide +kernel
theorem dX8_isLetter_18 : decode cX8_isLetter 18 = .ok (.iload_n 1, 1) := by decide +kernel
theorem dX8_isLetter_19 : decode cX8_isLetter 19 = .ok (.iadd, 1) := by decide +kernel
theorem dX8_isLetter_20 : decode cX8_isLetter 20 = .ok (.invokevirtual 168, 3) := by decide +kernel
theorem dX8_isLetter_23 : decode cX8_isLetter 23 = .ok (.iload_n 2, 1) := by decide +kernel
theorem dX8_isLetter_24 : decode cX8_isLetter 24 = .ok (.if_icmp .ne 7, 3) := by decide +kernel
theorem dX8_isLetter_27 : decode cX8_isLetter 27 = .ok (.iconst 1, 1) := by decide +kernel
theorem dX8_isLetter_28 : decode cX8_isLetter 28 = .ok (.goto 16, 3) := by decide +kernel
theorem dX8_isLetter_31 : decode cX8_isLetter 31 = .ok (.iconst 0, 1) := by decide +kernel
theorem dX8_isLetter_32 : decode cX8_isLetter 32 = .ok (.goto 12, 3) := by decide +kernel
theorem dX8_isLetter_35 : decode cX8_isLetter 35 = .ok (.iload_n 2, 1) := by decide +kernel
theorem dX8_isLetter_36 : decode cX8_isLetter 36 = .ok (.ifCond .ne 7, 3) := by decide +kernel
theorem dX8_isLetter_39 : decode cX8_isLetter 39 = .ok (.iconst 1, 1) := by decide +kernel
theorem dX8_isLetter_40 : decode cX8_isLetter 40 = .ok (.goto 4, 3) := by decide +kernel
theorem dX8_isLetter_43 : decode cX8_isLetter 43 = .ok (.iconst 0, 1) := by decide +kernel
theorem dX8_isLetter_44 : decode cX8_isLetter 44 = .ok (.ireturn, 1) := by decide +kernel
theorem dX8_isWord_0 : decode cX8_isWord 0 = .ok (.aload_n 0, 1) := by decide +kernel
theorem dX8_isWord_1 : decode cX8_isWord 1 = .ok (.getfield 191, 3) := by decide +kernel
theorem dX8_isWord_4 : decode cX8_isWord 4 = .ok (.ifCond .ne 108, 3) := by decide +kernel
theorem dX8_isWord_7 : decode cX8_isWord 7 = .ok (.aload_n 0, 1) := by decide +kernel
theorem dX8_isWord_8 : decode cX8_isWord 8 = .ok (.getfield 174, 3) := by decide +kernel
theorem dX8_isWord_11 : decode cX8_isWord 11 = .ok (.iconst 1, 1) := by decide +kernel
theorem dX8_isWord_12 : decode cX8_isWord 12 = .ok (.if_icmp .ne 100, 3) := by decide +kernel
theorem dX8_isWord_15 : decode cX8_isWord 15 = .ok (.aload_n 0, 1) := by decide +kernel
theorem dX8_isWord_16 : decode cX8_isWord 16 = .ok (.getfield 165, 3) := by decide +kernel
theorem dX8_isWord_19 : decode cX8_isWord 19 = .ok (.aload_n 0, 1) := by decide +kernel
theorem dX8_isWord_20 : decode cX8_isWord 20 = .ok (.getfield 171, 3) := by decide +kernel
theorem dX8_isWord_23 : decode cX8_isWord 23 = .ok (.bipush 8, 2) := by decide +kernel
theorem dX8_isWord_25 : decode cX8_isWord 25 = .ok (.iadd, 1) := by decide +kernel
theorem dX8_isWord_26 : decode cX8_isWord 26 = .ok (.if_icmp .gt 86, 3) := by decide +kernel
theorem dX8_isWord_29 : decode cX8_isWord 29 = .ok (.aload_n 0, 1) := by decide +kernel
theorem dX8_isWord_30 : decode cX8_isWord 30 = .ok (.iconst 0, 1) := by decide +kernel
theorem dX8_isWord_31 : decode cX8_isWord 31 = .ok (.iload_n 1, 1) := by decide +kernel
theorem dX8_isWord_32 : decode cX8_isWord 32 = .ok (.invokevirtual 198, 3) := by decide +kernel
theorem dX8_isWord_35 : decode cX8_isWord 35 = .ok (.ifCond .eq 77, 3) := by decide +kernel
theorem dX8_isWord_38 : decode cX8_isWord 38 = .ok (.aload_n 0, 1) := by decide +kernel
theorem dX8_isWord_39 : decode cX8_isWord 39 = .ok (.iconst 1, 1) := by decide +kernel
theorem dX8_isWord_40 : decode cX8_isWord 40 = .ok (.iload_n 2, 1) := by decide +kernel
theorem dX8_isWord_41 : decode cX8_isWord 41 = .ok (.invokevirtual 198, 3) := by decide +kernel
theorem dX8_isWord_44 : decode cX8_isWord 44 = .ok (.ifCond .eq 68, 3) := by decide +kernel
theorem dX8_isWord_47 : decode cX8_isWord 47 = .ok (.aload_n 0, 1) := by decide +kernel
theorem dX8_isWord_48 : decode cX8_isWord 48 = .ok (.iconst 2, 1) := by decide +kernel
theorem dX8_isWord_49 : decode cX8_isWord 49 = .ok (.iload_n 3, 1) := by decide +kernel
theorem dX8_isWord_50 : decode cX8_isWord 50 = .ok (.invokevirtual 198, 3) := by decide +kernel
theorem dX8_isWord_53 : decode cX8_isWord 53 = .ok (.ifCond .eq 59, 3) := by decide +kernel
theorem dX8_isWord_56 : decode cX8_isWord 56 = .ok (.aload_n 0, 1) := by decide +kernel
theorem dX8_isWord_57 : decode cX8_isWord 57 = .ok (.iconst 3, 1) := by decide +kernel
theorem dX8_isWord_58 : decode cX8_isWord 58 = .ok (.iload 4, 2) := by decide +kernel
theorem dX8_isWord_60 : decode cX8_isWord 60 = .ok (.invokevirtual 198, 3) := by decide +kernel
theorem dX8_isWord_63 : decode cX8_isWord 63 = .ok (.ifCond .eq 49, 3) := by decide +kernel
theorem dX8_isWord_66 : decode cX8_isWord 66 = .ok (.aload_n 0, 1) := by decide +kernel
theorem dX8_isWord_67 : decode cX8_isWord 67 = .ok (.iconst 4, 1) := by decide +kernel
theorem dX8_isWord_68 : decode cX8_isWord 68 = .ok (.iload 5, 2) := by decide +kernel
theorem dX8_isWord_70 : decode cX8_isWord 70 = .ok (.invokevirtual 198, 3) := by decide +kernel
theorem dX8_isWord_73 : decode cX8_isWord 73 = .ok (.ifCond .eq 39, 3) := by decide +kernel
theorem dX8_isWord_76 : decode cX8_isWord 76 = .ok (.aload_n 0, 1) := by decide +kernel
theorem dX8_isWord_77 : decode cX8_isWord 77 = .ok (.iconst 5, 1) := by decide +kernel
theorem dX8_isWord_78 : decode cX8_isWord 78 = .ok (.iload 6, 2) := by decide +kernel
theorem dX8_isWord_80 : decode cX8_isWord 80 = .ok (.invokevirtual 198, 3) := by decide +kernel
theorem dX8_isWord_83 : decode cX8_isWord 83 = .ok (.ifCond .eq 29, 3) := by decide +kernel
theorem dX8_isWord_86 : decode cX8_isWord 86 = .ok (.aload_n 0, 1) := by decide +kernel
theorem dX8_isWord_87 : decode cX8_isWord 87 = .ok (.bipush 6, 2) := by decide +kernel
theorem dX8_isWord_89 : decode cX8_isWord 89 = .ok (.iload 7, 2) := by decide +kernel
theorem dX8_isWord_91 : decode cX8_isWord 91 = .ok (.invokevirtual 198, 3) := by decide +kernel
theorem dX8_isWord_94 : decode cX8_isWord 94 = .ok (.ifCond .eq 18, 3) := by decide +kernel
theorem dX8_isWord_97 : decode cX8_isWord 97 = .ok (.aload_n 0, 1) := by decide +kernel
theorem dX8_isWord_98 : decode cX8_isWord 98 = .ok (.bipush 7, 2) := by decide +kernel
theorem dX8_isWord_100 : decode cX8_isWord 100 = .ok (.iload 8, 2) := by decide +kernel
theorem dX8_isWord_102 : decode cX8_isWord 102 = .ok (.invokevirtual 198, 3) := by decide +kernel
theorem dX8_isWord_105 : decode cX8_isWord 105 = .ok (.ifCond .eq 7, 3) := by decide +kernel
theorem dX8_isWord_108 : decode cX8_isWord 108 = .ok (.iconst 1, 1) := by decide +kernel
theorem dX8_isWord_109 : decode cX8_isWord 109 = .ok (.goto 4, 3) := by decide +kernel
theorem dX8_isWord_112 : decode cX8_isWord 112 = .ok (.iconst 0, 1) := by decide +kernel
theorem dX8_isWord_113 : decode cX8_isWord 113 = .ok (.ireturn, 1) := by decide +kernel
theorem dX8_isSign_0 : decode cX8_isSign 0 = .ok (.aload_n 0, 1) := by decide +kernel
theorem dX8_isSign_1 : decode cX8_isSign 1 = .ok (.getfield 191, 3) := by decide +kernel
theorem dX8_isSign_4 : decode cX8_isSign 4 = .ok (.ifCond .ne 25, 3) := by decide +kernel
theorem dX8_isSign_7 : decode cX8_isSign 7 = .ok (.aload_n 0, 1) := by decide +kernel
theorem dX8_isSign_8 : decode cX8_isSign 8 = .ok (.getfield 174, 3) := by decide +kernel
theorem dX8_isSign_11 : decode cX8_isSign 11 = .ok (.iconst 3, 1) := by decide +kernel
theorem dX8_isSign_12 : decode cX8_isSign 12 = .ok (.if_icmp .ne 17, 3) := by decide +kernel
theorem dX8_isSign_15 : decode cX8_isSign 15 = .ok (.aload_n 0, 1) := by decide +kernel
theorem dX8_isSign_16 : decode cX8_isSign 16 = .ok (.getfield 185, 3) := by decide +kernel
theorem dX8_isSign_19 : decode cX8_isSign 19 = .ok (.iload_n 1, 1) := by decide +kernel
theorem dX8_isSign_20 : decode cX8_isSign 20 = .ok (.i2l, 1) := by decide +kernel
theorem dX8_isSign_21 : decode cX8_isSign 21 = .ok (.lcmp, 1) := by decide +kernel
theorem dX8_isSign_22 : decode cX8_isSign 22 = .ok (.ifCond .ne 7, 3) := by decide +kernel
theorem dX8_isSign_25 : decode cX8_isSign 25 = .ok (.iconst 1, 1) := by decide +kernel
theorem dX8_isSign_26 : decode cX8_isSign 26 = .ok (.goto 4, 3) := by decide +kernel
theorem dX8_isSign_29 : decode cX8_isSign 29 = .ok (.iconst 0, 1) := by decide +kernel
theorem dX8_isSign_30 : decode cX8_isSign 30 = .ok (.ireturn, 1) := by decide +kernel
theorem dX8_opens_0 : decode cX8_opens 0 = .ok (.aload_n 0, 1) := by decide +kernel
theorem dX8_opens_1 : decode cX8_opens 1 = .ok (.getfield 202, 3) := by decide +kernel
theorem dX8_opens_4 : decode cX8_opens 4 = .ok (.iconst 5, 1) := by decide +kernel
theorem dX8_opens_5 : decode cX8_opens 5 = .ok (.if_icmp .ne 9, 3) := by decide +kernel
theorem dX8_opens_8 : decode cX8_opens 8 = .ok (.aload_n 0, 1) := by decide +kernel
theorem dX8_opens_9 : decode cX8_opens 9 = .ok (.invokevirtual 205, 3) := by decide +kernel
theorem dX8_opens_12 : decode cX8_opens 12 = .ok (.iconst 0, 1) := by decide +kernel
theorem dX8_opens_13 : decode cX8_opens 13 = .ok (.ireturn, 1) := by decide +kernel
theorem dX8_opens_14 : decode cX8_opens 14 = .ok (.aload_n 0, 1) := by decide +kernel
theorem dX8_opens_15 : decode cX8_opens 15 = .ok (.dup, 1) := by decide +kernel
theorem dX8_opens_16 : decode cX8_opens 16 = .ok (.getfield 202, 3) := by decide +kernel
theorem dX8_opens_19 : decode cX8_opens 19 = .ok (.iconst 1, 1) := by decide +kernel
theorem dX8_opens_20 : decode cX8_opens 20 = .ok (.iadd, 1) := by decide +kernel
theorem dX8_opens_21 : decode cX8_opens 21 = .ok (.putfield 202, 3) := by decide +kernel
theorem dX8_opens_24 : decode cX8_opens 24 = .ok (.aload_n 0, 1) := by decide +kernel
theorem dX8_opens_25 : decode cX8_opens 25 = .ok (.invokevirtual 208, 3) := by decide +kernel
theorem dX8_opens_28 : decode cX8_opens 28 = .ok (.iconst 1, 1) := by decide +kernel
theorem dX8_opens_29 : decode cX8_opens 29 = .ok (.ireturn, 1) := by decide +kernel
theorem dX8_name_0 : decode cX8_name 0 = .ok (.aload_n 0, 1) := by decide +kernel
theorem dX8_name_1 : decode cX8_name 1 = .ok (.bipush 114, 2) := by decide +kernel
theorem dX8_name_3 : decode cX8_name 3 = .ok (.bipush 97, 2) := by decide +kernel
theorem dX8_name_5 : decode cX8_name 5 = .ok (.bipush 105, 2) := by decide +kernel
theorem dX8_name_7 : decode cX8_name 7 = .ok (.bipush 110, 2) := by decide +kernel
theorem dX8_name_9 : decode cX8_name 9 = .ok (.iconst 0, 1) := by decide +kernel
theorem dX8_name_10 : decode cX8_name 10 = .ok (.iconst 0, 1) := by decide +kernel
theorem dX8_name_11 : decode cX8_name 11 = .ok (.iconst 0, 1) := by decide +kernel
theorem dX8_name_12 : decode cX8_name 12 = .ok (.iconst 0, 1) := by decide +kernel
theorem dX8_name_13 : decode cX8_name 13 = .ok (.invokevirtual 211, 3) := by decide +kernel
theorem dX8_name_16 : decode cX8_name 16 = .ok (.ifCond .eq 8, 3) := by decide +kernel
theorem dX8_name_19 : decode cX8_name 19 = .ok (.aload_n 0, 1) := by decide +kernel
theorem dX8_name_20 : decode cX8_name 20 = .ok (.getfield 215, 3) := by decide +kernel
theorem dX8_name_23 : decode cX8_name 23 = .ok (.ireturn, 1) := by decide +kernel
theorem dX8_name_24 : decode cX8_name 24 = .ok (.aload_n 0, 1) := by decide +kernel
theorem dX8_name_25 : decode cX8_name 25 = .ok (.bipush 104, 2) := by decide +kernel
theorem dX8_name_27 : decode cX8_name 27 = .ok (.bipush 111, 2) := by decide +kernel
theorem dX8_name_29 : decode cX8_name 29 = .ok (.bipush 117, 2) := by decide +kernel
theorem dX8_name_31 : decode cX8_name 31 = .ok (.bipush 114, 2) := by decide +kernel
theorem dX8_name_33 : decode cX8_name 33 = .ok (.iconst 0, 1) := by decide +kernel
theorem dX8_name_34 : decode cX8_name 34 = .ok (.iconst 0, 1) := by decide +kernel
theorem dX8_name_35 : decode cX8_name 35 = .ok (.iconst 0, 1) := by decide +kernel
theorem dX8_name_36 : decode cX8_name 36 = .ok (.iconst 0, 1) := by decide +kernel
theorem dX8_name_37 : decode cX8_name 37 = .ok (.invokevirtual 211, 3) := by decide +kernel
theorem dX8_name_40 : decode cX8_name 40 = .ok (.ifCond .eq 8, 3) := by decide +kernel
theorem dX8_name_43 : decode cX8_name 43 = .ok (.aload_n 0, 1) := by decide +kernel
theorem dX8_name_44 : decode cX8_name 44 = .ok (.getfield 218, 3) := by decide +kernel
theorem dX8_name_47 : decode cX8_name 47 = .ok (.ireturn, 1) := by decide +kernel
theorem dX8_name_48 : decode cX8_name 48 = .ok (.aload_n 0, 1) := by decide +kernel
theorem dX8_name_49 : decode cX8_name 49 = .ok (.bipush 112, 2) := by decide +kernel
theorem dX8_name_51 : decode cX8_name 51 = .ok (.bipush 108, 2) := by decide +kernel
theorem dX8_name_53 : decode cX8_name 53 = .ok (.bipush 97, 2) := by decide +kernel
theorem dX8_name_55 : decode cX8_name 55 = .ok (.bipush 99, 2) := by decide +kernel
theorem dX8_name_57 : decode cX8_name 57 = .ok (.bipush 101, 2) := by decide +kernel
theorem dX8_name_59 : decode cX8_name 59 = .ok (.iconst 0, 1) := by decide +kernel
theorem dX8_name_60 : decode cX8_name 60 = .ok (.iconst 0, 1) := by decide +kernel
theorem dX8_name_61 : decode cX8_name 61 = .ok (.iconst 0, 1) := by decide +kernel
theorem dX8_name_62 : decode cX8_name 62 = .ok (.invokevirtual 211, 3) := by decide +kernel
theorem dX8_name_65 : decode cX8_name 65 = .ok (.ifCond .eq 8, 3) := by decide +kernel
theorem dX8_name_68 : decode cX8_name 68 = .ok (.aload_n 0, 1) := by decide +kernel
theorem dX8_name_69 : decode cX8_name 69 = .ok (.getfield 221, 3) := by decide +kernel
theorem dX8_name_72 : decode cX8_name 72 = .ok (.ireturn, 1) := by decide +kernel
theorem dX8_name_73 : decode cX8_name 73 = .ok (.aload_n 0, 1) := by decide +kernel
theorem dX8_name_74 : decode cX8_name 74 = .ok (.bipush 114, 2) := by decide +kernel
theorem dX8_name_76 : decode cX8_name 76 = .ok (.bipush 97, 2) := by decide +kernel
theorem dX8_name_78 : decode cX8_name 78 = .ok (.bipush 116, 2) := by decide +kernel
theorem dX8_name_80 : decode cX8_name 80 = .ok (.bipush 101, 2) := by decide +kernel
theorem dX8_name_82 : decode cX8_name 82 = .ok (.iconst 0, 1) := by decide +kernel
theorem dX8_name_83 : decode cX8_name 83 = .ok (.iconst 0, 1) := by decide +kernel
theorem dX8_name_84 : decode cX8_name 84 = .ok (.iconst 0, 1) := by decide +kernel
theorem dX8_name_85 : decode cX8_name 85 = .ok (.iconst 0, 1) := by decide +kernel
theorem dX8_name_86 : decode cX8_name 86 = .ok (.invokevirtual 211, 3) := by decide +kernel
theorem dX8_name_89 : decode cX8_name 89 = .ok (.ifCond .eq 8, 3) := by decide +kernel
theorem dX8_name_92 : decode cX8_name 92 = .ok (.aload_n 0, 1) := by decide +kernel
theorem dX8_name_93 : decode cX8_name 93 = .ok (.getfield 224, 3) := by decide +kernel
theorem dX8_name_96 : decode cX8_name 96 = .ok (.ireturn, 1) := by decide +kernel
theorem dX8_name_97 : decode cX8_name 97 = .ok (.aload_n 0, 1) := by decide +kernel
theorem dX8_name_98 : decode cX8_name 98 = .ok (.bipush 115, 2) := by decide +kernel
theorem dX8_name_100 : decode cX8_name 100 = .ok (.bipush 105, 2) := by decide +kernel
theorem dX8_name_102 : decode cX8_name 102 = .ok (.bipush 122, 2) := by decide +kernel
theorem dX8_name_104 : decode cX8_name 104 = .ok (.bipush 101, 2) := by decide +kernel
theorem dX8_name_106 : decode cX8_name 106 = .ok (.iconst 0, 1) := by decide +kernel
theorem dX8_name_107 : decode cX8_name 107 = .ok (.iconst 0, 1) := by decide +kernel
theorem dX8_name_108 : decode cX8_name 108 = .ok (.iconst 0, 1) := by decide +kernel
theorem dX8_name_109 : decode cX8_name 109 = .ok (.iconst 0, 1) := by decide +kernel
theorem dX8_name_110 : decode cX8_name 110 = .ok (.invokevirtual 211, 3) := by decide +kernel
theorem dX8_name_113 : decode cX8_name 113 = .ok (.ifCond .eq 8, 3) := by decide +kernel
theorem dX8_name_116 : decode cX8_name 116 = .ok (.aload_n 0, 1) := by decide +kernel
theorem dX8_name_117 : decode cX8_name 117 = .ok (.getfield 227, 3) := by decide +kernel
theorem dX8_name_120 : decode cX8_name 120 = .ok (.ireturn, 1) := by decide +kernel
theorem dX8_name_121 : decode cX8_name 121 = .ok (.aload_n 0, 1) := by decide +kernel
theorem dX8_name_122 : decode cX8_name 122 = .ok (.bipush 103, 2) := by decide +kernel
theorem dX8_name_124 : decode cX8_name 124 = .ok (.bipush 111, 2) := by decide +kernel
theorem dX8_name_126 : decode cX8_name 126 = .ok (.bipush 110, 2) := by decide +kernel
theorem dX8_name_128 : decode cX8_name 128 = .ok (.bipush 101, 2) := by decide +kernel
theorem dX8_name_130 : decode cX8_name 130 = .ok (.iconst 0, 1) := by decide +kernel
theorem dX8_name_131 : decode cX8_name 131 = .ok (.iconst 0, 1) := by decide +kernel
theorem dX8_name_132 : decode cX8_name 132 = .ok (.iconst 0, 1) := by decide +kernel
theorem dX8_name_133 : decode cX8_name 133 = .ok (.iconst 0, 1) := by decide +kernel
theorem dX8_name_134 : decode cX8_name 134 = .ok (.invokevirtual 211, 3) := by decide +kernel
theorem dX8_name_137 : decode cX8_name 137 = .ok (.ifCond .eq 8, 3) := by decide +kernel
theorem dX8_name_140 : decode cX8_name 140 = .ok (.aload_n 0, 1) := by decide +kernel
theorem dX8_name_141 : decode cX8_name 141 = .ok (.getfield 230, 3) := by decide +kernel
theorem dX8_name_144 : decode cX8_name 144 = .ok (.ireturn, 1) := by decide +kernel
theorem dX8_name_145 : decode cX8_name 145 = .ok (.aload_n 0, 1) := by decide +kernel
theorem dX8_name_146 : decode cX8_name 146 = .ok (.invokevirtual 205, 3) := by decide +kernel
theorem dX8_name_149 : decode cX8_name 149 = .ok (.iconst 0, 1) := by decide +kernel
theorem dX8_name_150 : decode cX8_name 150 = .ok (.ireturn, 1) := by decide +kernel
theorem dX8_atom_0 : decode cX8_atom 0 = .ok (.iconst 0, 1) := by decide +kernel
theorem dX8_atom_1 : decode cX8_atom 1 = .ok (.istore_n 1, 1) := by decide +kernel
theorem dX8_atom_2 : decode cX8_atom 2 = .ok (.aload_n 0, 1) := by decide +kernel
theorem dX8_atom_3 : decode cX8_atom 3 = .ok (.bipush 45, 2) := by decide +kernel
theorem dX8_atom_5 : decode cX8_atom 5 = .ok (.invokevirtual 233, 3) := by decide +kernel
theorem dX8_atom_8 : decode cX8_atom 8 = .ok (.ifCond .eq 29, 3) := by decide +kernel
theorem dX8_atom_11 : decode cX8_atom 11 = .ok (.aload_n 0, 1) := by decide +kernel
theorem dX8_atom_12 : decode cX8_atom 12 = .ok (.invokevirtual 236, 3) := by decide +kernel
theorem dX8_atom_15 : decode cX8_atom 15 = .ok (.ifCond .eq 146, 3) := by decide +kernel
theorem dX8_atom_18 : decode cX8_atom 18 = .ok (.aload_n 0, 1) := by decide +kernel
theorem dX8_atom_19 : decode cX8_atom 19 = .ok (.invokevirtual 240, 3) := by decide +kernel
theorem dX8_atom_22 : decode cX8_atom 22 = .ok (.ineg, 1) := by decide +kernel
theorem dX8_atom_23 : decode cX8_atom 23 = .ok (.istore_n 1, 1) := by decide +kernel
theorem dX8_atom_24 : decode cX8_atom 24 = .ok (.aload_n 0, 1) := by decide +kernel
theorem dX8_atom_25 : decode cX8_atom 25 = .ok (.dup, 1) := by decide +kernel
theorem dX8_atom_26 : decode cX8_atom 26 = .ok (.getfield 202, 3) := by decide +kernel
theorem dX8_atom_29 : decode cX8_atom 29 = .ok (.iconst 1, 1) := by decide +kernel
theorem dX8_atom_30 : decode cX8_atom 30 = .ok (.isub, 1) := by decide +kernel
theorem dX8_atom_31 : decode cX8_atom 31 = .ok (.putfield 202, 3) := by decide +kernel
theorem dX8_atom_34 : decode cX8_atom 34 = .ok (.goto 127, 3) := by decide +kernel
theorem dX8_atom_37 : decode cX8_atom 37 = .ok (.aload_n 0, 1) := by decide +kernel
theorem dX8_atom_38 : decode cX8_atom 38 = .ok (.bipush 40, 2) := by decide +kernel
theorem dX8_atom_40 : decode cX8_atom 40 = .ok (.invokevirtual 233, 3) := by decide +kernel
theorem dX8_atom_43 : decode cX8_atom 43 = .ok (.ifCond .eq 52, 3) := by decide +kernel
theorem dX8_atom_46 : decode cX8_atom 46 = .ok (.aload_n 0, 1) := by decide +kernel
theorem dX8_atom_47 : decode cX8_atom 47 = .ok (.invokevirtual 236, 3) := by decide +kernel
theorem dX8_atom_50 : decode cX8_atom 50 = .ok (.ifCond .eq 111, 3) := by decide +kernel
theorem dX8_atom_53 : decode cX8_atom 53 = .ok (.aload_n 0, 1) := by decide +kernel
theorem dX8_atom_54 : decode cX8_atom 54 = .ok (.invokevirtual 244, 3) := by decide +kernel
theorem dX8_atom_57 : decode cX8_atom 57 = .ok (.istore_n 1, 1) := by decide +kernel
theorem dX8_atom_58 : decode cX8_atom 58 = .ok (.aload_n 0, 1) := by decide +kernel
theorem dX8_atom_59 : decode cX8_atom 59 = .ok (.bipush 41, 2) := by decide +kernel
theorem dX8_atom_61 : decode cX8_atom 61 = .ok (.invokevirtual 233, 3) := by decide +kernel
theorem dX8_atom_64 : decode cX8_atom 64 = .ok (.ifCond .ne 7, 3) := by decide +kernel
theorem dX8_atom_67 : decode cX8_atom 67 = .ok (.aload_n 0, 1) := by decide +kernel
theorem dX8_atom_68 : decode cX8_atom 68 = .ok (.invokevirtual 205, 3) := by decide +kernel
theorem dX8_atom_71 : decode cX8_atom 71 = .ok (.aload_n 0, 1) := by decide +kernel
theorem dX8_atom_72 : decode cX8_atom 72 = .ok (.dup, 1) := by decide +kernel
theorem dX8_atom_73 : decode cX8_atom 73 = .ok (.getfield 202, 3) := by decide +kernel
theorem dX8_atom_76 : decode cX8_atom 76 = .ok (.iconst 1, 1) := by decide +kernel
theorem dX8_atom_77 : decode cX8_atom 77 = .ok (.isub, 1) := by decide +kernel
theorem dX8_atom_78 : decode cX8_atom 78 = .ok (.putfield 202, 3) := by decide +kernel
theorem dX8_atom_81 : decode cX8_atom 81 = .ok (.aload_n 0, 1) := by decide +kernel
theorem dX8_atom_82 : decode cX8_atom 82 = .ok (.getfield 191, 3) := by decide +kernel
theorem dX8_atom_85 : decode cX8_atom 85 = .ok (.ifCond .ne 76, 3) := by decide +kernel
theorem dX8_atom_88 : decode cX8_atom 88 = .ok (.aload_n 0, 1) := by decide +kernel
theorem dX8_atom_89 : decode cX8_atom 89 = .ok (.invokevirtual 208, 3) := by decide +kernel
theorem dX8_atom_92 : decode cX8_atom 92 = .ok (.goto 69, 3) := by decide +kernel
theorem dX8_atom_95 : decode cX8_atom 95 = .ok (.aload_n 0, 1) := by decide +kernel
theorem dX8_atom_96 : decode cX8_atom 96 = .ok (.getfield 191, 3) := by decide +kernel
theorem dX8_atom_99 : decode cX8_atom 99 = .ok (.ifCond .ne 24, 3) := by decide +kernel
theorem dX8_atom_102 : decode cX8_atom 102 = .ok (.aload_n 0, 1) := by decide +kernel
theorem dX8_atom_103 : decode cX8_atom 103 = .ok (.getfield 174, 3) := by decide +kernel
theorem dX8_atom_106 : decode cX8_atom 106 = .ok (.iconst 2, 1) := by decide +kernel
theorem dX8_atom_107 : decode cX8_atom 107 = .ok (.if_icmp .ne 16, 3) := by decide +kernel
theorem dX8_atom_110 : decode cX8_atom 110 = .ok (.aload_n 0, 1) := by decide +kernel
theorem dX8_atom_111 : decode cX8_atom 111 = .ok (.getfield 185, 3) := by decide +kernel
theorem dX8_atom_114 : decode cX8_atom 114 = .ok (.l2i, 1) := by decide +kernel
theorem dX8_atom_115 : decode cX8_atom 115 = .ok (.istore_n 1, 1) := by decide +kernel
theorem dX8_atom_116 : decode cX8_atom 116 = .ok (.aload_n 0, 1) := by decide +kernel
theorem dX8_atom_117 : decode cX8_atom 117 = .ok (.invokevirtual 208, 3) := by decide +kernel
theorem dX8_atom_120 : decode cX8_atom 120 = .ok (.goto 41, 3) := by decide +kernel
theorem dX8_atom_123 : decode cX8_atom 123 = .ok (.aload_n 0, 1) := by decide +kernel
theorem dX8_atom_124 : decode cX8_atom 124 = .ok (.getfield 191, 3) := by decide +kernel
theorem dX8_atom_127 : decode cX8_atom 127 = .ok (.ifCond .ne 30, 3) := by decide +kernel
theorem dX8_atom_130 : decode cX8_atom 130 = .ok (.aload_n 0, 1) := by decide +kernel
theorem dX8_atom_131 : decode cX8_atom 131 = .ok (.getfield 174, 3) := by decide +kernel
theorem dX8_atom_134 : decode cX8_atom 134 = .ok (.iconst 1, 1) := by decide +kernel
theorem dX8_atom_135 : decode cX8_atom 135 = .ok (.if_icmp .ne 22, 3) := by decide +kernel
theorem dX8_atom_138 : decode cX8_atom 138 = .ok (.aload_n 0, 1) := by decide +kernel
theorem dX8_atom_139 : decode cX8_atom 139 = .ok (.invokevirtual 247, 3) := by decide +kernel
theorem dX8_atom_142 : decode cX8_atom 142 = .ok (.istore_n 1, 1) := by decide +kernel
theorem dX8_atom_143 : decode cX8_atom 143 = .ok (.aload_n 0, 1) := by decide +kernel
theorem dX8_atom_144 : decode cX8_atom 144 = .ok (.getfield 191, 3) := by decide +kernel
theorem dX8_atom_147 : decode cX8_atom 147 = .ok (.ifCond .ne 14, 3) := by decide +kernel
theorem dX8_atom_150 : decode cX8_atom 150 = .ok (.aload_n 0, 1) := by decide +kernel
theorem dX8_atom_151 : decode cX8_atom 151 = .ok (.invokevirtual 208, 3) := by decide +kernel
theorem dX8_atom_154 : decode cX8_atom 154 = .ok (.goto 7, 3) := by decide +kernel
theorem dX8_atom_157 : decode cX8_atom 157 = .ok (.aload_n 0, 1) := by decide +kernel
theorem dX8_atom_158 : decode cX8_atom 158 = .ok (.invokevirtual 205, 3) := by decide +kernel
theorem dX8_atom_161 : decode cX8_atom 161 = .ok (.iload_n 1, 1) := by decide +kernel
theorem dX8_atom_162 : decode cX8_atom 162 = .ok (.ireturn, 1) := by decide +kernel
theorem dX8_term_0 : decode cX8_term 0 = .ok (.aload_n 0, 1) := by decide +kernel
theorem dX8_term_1 : decode cX8_term 1 = .ok (.invokevirtual 240, 3) := by decide +kernel
theorem dX8_term_4 : decode cX8_term 4 = .ok (.istore_n 1, 1) := by decide +kernel
theorem dX8_term_5 : decode cX8_term 5 = .ok (.aload_n 0, 1) := by decide +kernel
theorem dX8_term_6 : decode cX8_term 6 = .ok (.bipush 42, 2) := by decide +kernel
theorem dX8_term_8 : decode cX8_term 8 = .ok (.invokevirtual 233, 3) := by decide +kernel
theorem dX8_term_11 : decode cX8_term 11 = .ok (.ifCond .eq 17, 3) := by decide +kernel
theorem dX8_term_14 : decode cX8_term 14 = .ok (.aload_n 0, 1) := by decide +kernel
theorem dX8_term_15 : decode cX8_term 15 = .ok (.invokevirtual 208, 3) := by decide +kernel
theorem dX8_term_18 : decode cX8_term 18 = .ok (.iload_n 1, 1) := by decide +kernel
theorem dX8_term_19 : decode cX8_term 19 = .ok (.aload_n 0, 1) := by decide +kernel
theorem dX8_term_20 : decode cX8_term 20 = .ok (.invokevirtual 240, 3) := by decide +kernel
theorem dX8_term_23 : decode cX8_term 23 = .ok (.imul, 1) := by decide +kernel
theorem dX8_term_24 : decode cX8_term 24 = .ok (.istore_n 1, 1) := by decide +kernel
theorem dX8_term_25 : decode cX8_term 25 = .ok (.goto (-20), 3) := by decide +kernel
theorem dX8_term_28 : decode cX8_term 28 = .ok (.iload_n 1, 1) := by decide +kernel
theorem dX8_term_29 : decode cX8_term 29 = .ok (.ireturn, 1) := by decide +kernel
theorem dX8_added_0 : decode cX8_added 0 = .ok (.aload_n 0, 1) := by decide +kernel
theorem dX8_added_1 : decode cX8_added 1 = .ok (.invokevirtual 250, 3) := by decide +kernel
theorem dX8_added_4 : decode cX8_added 4 = .ok (.istore_n 1, 1) := by decide +kernel
theorem dX8_added_5 : decode cX8_added 5 = .ok (.aload_n 0, 1) := by decide +kernel
theorem dX8_added_6 : decode cX8_added 6 = .ok (.bipush 43, 2) := by decide +kernel
theorem dX8_added_8 : decode cX8_added 8 = .ok (.invokevirtual 233, 3) := by decide +kernel
theorem dX8_added_11 : decode cX8_added 11 = .ok (.ifCond .ne 12, 3) := by decide +kernel
theorem dX8_added_14 : decode cX8_added 14 = .ok (.aload_n 0, 1) := by decide +kernel
theorem dX8_added_15 : decode cX8_added 15 = .ok (.bipush 45, 2) := by decide +kernel
theorem dX8_added_17 : decode cX8_added 17 = .ok (.invokevirtual 233, 3) := by decide +kernel
theorem dX8_added_20 : decode cX8_added 20 = .ok (.ifCond .eq 46, 3) := by decide +kernel
theorem dX8_added_23 : decode cX8_added 23 = .ok (.aload_n 0, 1) := by decide +kernel
theorem dX8_added_24 : decode cX8_added 24 = .ok (.getfield 185, 3) := by decide +kernel
theorem dX8_added_27 : decode cX8_added 27 = .ok (.ldc2_w 253, 3) := by decide +kernel
theorem dX8_added_30 : decode cX8_added 30 = .ok (.lcmp, 1) := by decide +kernel
theorem dX8_added_31 : decode cX8_added 31 = .ok (.ifCond .ne 7, 3) := by decide +kernel
theorem dX8_added_34 : decode cX8_added 34 = .ok (.iconst 1, 1) := by decide +kernel
theorem dX8_added_35 : decode cX8_added 35 = .ok (.goto 4, 3) := by decide +kernel
theorem dX8_added_38 : decode cX8_added 38 = .ok (.iconst 0, 1) := by decide +kernel
theorem dX8_added_39 : decode cX8_added 39 = .ok (.istore_n 2, 1) := by decide +kernel
theorem dX8_added_40 : decode cX8_added 40 = .ok (.aload_n 0, 1) := by decide +kernel
theorem dX8_added_41 : decode cX8_added 41 = .ok (.invokevirtual 208, 3) := by decide +kernel
theorem dX8_added_44 : decode cX8_added 44 = .ok (.aload_n 0, 1) := by decide +kernel
theorem dX8_added_45 : decode cX8_added 45 = .ok (.invokevirtual 250, 3) := by decide +kernel
theorem dX8_added_48 : decode cX8_added 48 = .ok (.istore_n 3, 1) := by decide +kernel
theorem dX8_added_49 : decode cX8_added 49 = .ok (.iload_n 2, 1) := by decide +kernel
theorem dX8_added_50 : decode cX8_added 50 = .ok (.ifCond .eq 9, 3) := by decide +kernel
theorem dX8_added_53 : decode cX8_added 53 = .ok (.iload_n 1, 1) := by decide +kernel
theorem dX8_added_54 : decode cX8_added 54 = .ok (.iload_n 3, 1) := by decide +kernel
theorem dX8_added_55 : decode cX8_added 55 = .ok (.iadd, 1) := by decide +kernel
theorem dX8_added_56 : decode cX8_added 56 = .ok (.goto 6, 3) := by decide +kernel
theorem dX8_added_59 : decode cX8_added 59 = .ok (.iload_n 1, 1) := by decide +kernel
theorem dX8_added_60 : decode cX8_added 60 = .ok (.iload_n 3, 1) := by decide +kernel
theorem dX8_added_61 : decode cX8_added 61 = .ok (.isub, 1) := by decide +kernel
theorem dX8_added_62 : decode cX8_added 62 = .ok (.istore_n 1, 1) := by decide +kernel
theorem dX8_added_63 : decode cX8_added 63 = .ok (.goto (-58), 3) := by decide +kernel
theorem dX8_added_66 : decode cX8_added 66 = .ok (.iload_n 1, 1) := by decide +kernel
theorem dX8_added_67 : decode cX8_added 67 = .ok (.ireturn, 1) := by decide +kernel
theorem dX8_not_0 : decode cX8_not 0 = .ok (.aload_n 0, 1) := by decide +kernel
theorem dX8_not_1 : decode cX8_not 1 = .ok (.bipush 110, 2) := by decide +kernel
theorem dX8_not_3 : decode cX8_not 3 = .ok (.bipush 111, 2) := by decide +kernel
theorem dX8_not_5 : decode cX8_not 5 = .ok (.bipush 116, 2) := by decide +kernel
theorem dX8_not_7 : decode cX8_not 7 = .ok (.iconst 0, 1) := by decide +kernel
theorem dX8_not_8 : decode cX8_not 8 = .ok (.iconst 0, 1) := by decide +kernel
theorem dX8_not_9 : decode cX8_not 9 = .ok (.iconst 0, 1) := by decide +kernel
theorem dX8_not_10 : decode cX8_not 10 = .ok (.iconst 0, 1) := by decide +kernel
theorem dX8_not_11 : decode cX8_not 11 = .ok (.iconst 0, 1) := by decide +kernel
theorem dX8_not_12 : decode cX8_not 12 = .ok (.invokevirtual 211, 3) := by decide +kernel
theorem dX8_not_15 : decode cX8_not 15 = .ok (.ifCond .eq 37, 3) := by decide +kernel
theorem dX8_not_18 : decode cX8_not 18 = .ok (.aload_n 0, 1) := by decide +kernel
theorem dX8_not_19 : decode cX8_not 19 = .ok (.invokevirtual 236, 3) := by decide +kernel
theorem dX8_not_22 : decode cX8_not 22 = .ok (.ifCond .ne 5, 3) := by decide +kernel
theorem dX8_not_25 : decode cX8_not 25 = .ok (.iconst 0, 1) := by decide +kernel
theorem dX8_not_26 : decode cX8_not 26 = .ok (.ireturn, 1) := by decide +kernel
theorem dX8_not_27 : decode cX8_not 27 = .ok (.aload_n 0, 1) := by decide +kernel
theorem dX8_not_28 : decode cX8_not 28 = .ok (.invokevirtual 255, 3) := by decide +kernel
theorem dX8_not_31 : decode cX8_not 31 = .ok (.istore_n 1, 1) := by decide +kernel
theorem dX8_not_32 : decode cX8_not 32 = .ok (.aload_n 0, 1) := by decide +kernel
theorem dX8_not_33 : decode cX8_not 33 = .ok (.dup, 1) := by decide +kernel
theorem dX8_not_34 : decode cX8_not 34 = .ok (.getfield 202, 3) := by decide +kernel
theorem dX8_not_37 : decode cX8_not 37 = .ok (.iconst 1, 1) := by decide +kernel
theorem dX8_not_38 : decode cX8_not 38 = .ok (.isub, 1) := by decide +kernel
theorem dX8_not_39 : decode cX8_not 39 = .ok (.putfield 202, 3) := by decide +kernel
theorem dX8_not_42 : decode cX8_not 42 = .ok (.iload_n 1, 1) := by decide +kernel
theorem dX8_not_43 : decode cX8_not 43 = .ok (.ifCond .ne 7, 3) := by decide +kernel
theorem dX8_not_46 : decode cX8_not 46 = .ok (.iconst 1, 1) := by decide +kernel
theorem dX8_not_47 : decode cX8_not 47 = .ok (.goto 4, 3) := by decide +kernel
theorem dX8_not_50 : decode cX8_not 50 = .ok (.iconst 0, 1) := by decide +kernel
theorem dX8_not_51 : decode cX8_not 51 = .ok (.ireturn, 1) := by decide +kernel
theorem dX8_not_52 : decode cX8_not 52 = .ok (.aload_n 0, 1) := by decide +kernel
theorem dX8_not_53 : decode cX8_not 53 = .ok (.invokevirtual 258, 3) := by decide +kernel
theorem dX8_not_56 : decode cX8_not 56 = .ok (.istore_n 1, 1) := by decide +kernel
theorem dX8_not_57 : decode cX8_not 57 = .ok (.aload_n 0, 1) := by decide +kernel
theorem dX8_not_58 : decode cX8_not 58 = .ok (.bipush 60, 2) := by decide +kernel
theorem dX8_not_60 : decode cX8_not 60 = .ok (.invokevirtual 233, 3) := by decide +kernel
theorem dX8_not_63 : decode cX8_not 63 = .ok (.ifCond .ne 14, 3) := by decide +kernel
theorem dX8_not_66 : decode cX8_not 66 = .ok (.aload_n 0, 1) := by decide +kernel
theorem dX8_not_67 : decode cX8_not 67 = .ok (.bipush 61, 2) := by decide +kernel
theorem dX8_not_69 : decode cX8_not 69 = .ok (.invokevirtual 233, 3) := by decide +kernel
theorem dX8_not_72 : decode cX8_not 72 = .ok (.ifCond .ne 5, 3) := by decide +kernel
theorem dX8_not_75 : decode cX8_not 75 = .ok (.iload_n 1, 1) := by decide +kernel
theorem dX8_not_76 : decode cX8_not 76 = .ok (.ireturn, 1) := by decide +kernel
theorem dX8_not_77 : decode cX8_not 77 = .ok (.aload_n 0, 1) := by decide +kernel
theorem dX8_not_78 : decode cX8_not 78 = .ok (.getfield 185, 3) := by decide +kernel
theorem dX8_not_81 : decode cX8_not 81 = .ok (.ldc2_w 261, 3) := by decide +kernel
theorem dX8_not_84 : decode cX8_not 84 = .ok (.lcmp, 1) := by decide +kernel
theorem dX8_not_85 : decode cX8_not 85 = .ok (.ifCond .ne 7, 3) := by decide +kernel
theorem dX8_not_88 : decode cX8_not 88 = .ok (.iconst 1, 1) := by decide +kernel
theorem dX8_not_89 : decode cX8_not 89 = .ok (.goto 4, 3) := by decide +kernel
theorem dX8_not_92 : decode cX8_not 92 = .ok (.iconst 0, 1) := by decide +kernel
theorem dX8_not_93 : decode cX8_not 93 = .ok (.istore_n 2, 1) := by decide +kernel
theorem dX8_not_94 : decode cX8_not 94 = .ok (.aload_n 0, 1) := by decide +kernel
theorem dX8_not_95 : decode cX8_not 95 = .ok (.invokevirtual 208, 3) := by decide +kernel
theorem dX8_not_98 : decode cX8_not 98 = .ok (.aload_n 0, 1) := by decide +kernel
theorem dX8_not_99 : decode cX8_not 99 = .ok (.invokevirtual 258, 3) := by decide +kernel
theorem dX8_not_102 : decode cX8_not 102 = .ok (.istore_n 3, 1) := by decide +kernel
theorem dX8_not_103 : decode cX8_not 103 = .ok (.iload_n 2, 1) := by decide +kernel
theorem dX8_not_104 : decode cX8_not 104 = .ok (.ifCond .eq 11, 3) := by decide +kernel
theorem dX8_not_107 : decode cX8_not 107 = .ok (.iload_n 1, 1) := by decide +kernel
theorem dX8_not_108 : decode cX8_not 108 = .ok (.iload_n 3, 1) := by decide +kernel
theorem dX8_not_109 : decode cX8_not 109 = .ok (.if_icmp .ge 15, 3) := by decide +kernel
theorem dX8_not_112 : decode cX8_not 112 = .ok (.goto 8, 3) := by decide +kernel
theorem dX8_not_115 : decode cX8_not 115 = .ok (.iload_n 1, 1) := by decide +kernel
theorem dX8_not_116 : decode cX8_not 116 = .ok (.iload_n 3, 1) := by decide +kernel
theorem dX8_not_117 : decode cX8_not 117 = .ok (.if_icmp .ne 7, 3) := by decide +kernel
theorem dX8_not_120 : decode cX8_not 120 = .ok (.iconst 1, 1) := by decide +kernel
theorem dX8_not_121 : decode cX8_not 121 = .ok (.goto 4, 3) := by decide +kernel
theorem dX8_not_124 : decode cX8_not 124 = .ok (.iconst 0, 1) := by decide +kernel
theorem dX8_not_125 : decode cX8_not 125 = .ok (.ireturn, 1) := by decide +kernel
theorem dX8_both_0 : decode cX8_both 0 = .ok (.aload_n 0, 1) := by decide +kernel
theorem dX8_both_1 : decode cX8_both 1 = .ok (.invokevirtual 255, 3) := by decide +kernel
theorem dX8_both_4 : decode cX8_both 4 = .ok (.istore_n 1, 1) := by decide +kernel
theorem dX8_both_5 : decode cX8_both 5 = .ok (.aload_n 0, 1) := by decide +kernel
theorem dX8_both_6 : decode cX8_both 6 = .ok (.bipush 97, 2) := by decide +kernel
theorem dX8_both_8 : decode cX8_both 8 = .ok (.bipush 110, 2) := by decide +kernel
theorem dX8_both_10 : decode cX8_both 10 = .ok (.bipush 100, 2) := by decide +kernel
theorem dX8_both_12 : decode cX8_both 12 = .ok (.iconst 0, 1) := by decide +kernel
theorem dX8_both_13 : decode cX8_both 13 = .ok (.iconst 0, 1) := by decide +kernel
theorem dX8_both_14 : decode cX8_both 14 = .ok (.iconst 0, 1) := by decide +kernel
theorem dX8_both_15 : decode cX8_both 15 = .ok (.iconst 0, 1) := by decide +kernel
theorem dX8_both_16 : decode cX8_both 16 = .ok (.iconst 0, 1) := by decide +kernel
theorem dX8_both_17 : decode cX8_both 17 = .ok (.invokevirtual 211, 3) := by decide +kernel
theorem dX8_both_20 : decode cX8_both 20 = .ok (.ifCond .eq 29, 3) := by decide +kernel
theorem dX8_both_23 : decode cX8_both 23 = .ok (.aload_n 0, 1) := by decide +kernel
theorem dX8_both_24 : decode cX8_both 24 = .ok (.invokevirtual 208, 3) := by decide +kernel
theorem dX8_both_27 : decode cX8_both 27 = .ok (.aload_n 0, 1) := by decide +kernel
theorem dX8_both_28 : decode cX8_both 28 = .ok (.invokevirtual 255, 3) := by decide +kernel
theorem dX8_both_31 : decode cX8_both 31 = .ok (.istore_n 2, 1) := by decide +kernel
theorem dX8_both_32 : decode cX8_both 32 = .ok (.iload_n 1, 1) := by decide +kernel
theorem dX8_both_33 : decode cX8_both 33 = .ok (.ifCond .eq 11, 3) := by decide +kernel
theorem dX8_both_36 : decode cX8_both 36 = .ok (.iload_n 2, 1) := by decide +kernel
theorem dX8_both_37 : decode cX8_both 37 = .ok (.ifCond .eq 7, 3) := by decide +kernel
theorem dX8_both_40 : decode cX8_both 40 = .ok (.iconst 1, 1) := by decide +kernel
theorem dX8_both_41 : decode cX8_both 41 = .ok (.goto 4, 3) := by decide +kernel
theorem dX8_both_44 : decode cX8_both 44 = .ok (.iconst 0, 1) := by decide +kernel
theorem dX8_both_45 : decode cX8_both 45 = .ok (.istore_n 1, 1) := by decide +kernel
theorem dX8_both_46 : decode cX8_both 46 = .ok (.goto (-41), 3) := by decide +kernel
theorem dX8_both_49 : decode cX8_both 49 = .ok (.iload_n 1, 1) := by decide +kernel
theorem dX8_both_50 : decode cX8_both 50 = .ok (.ireturn, 1) := by decide +kernel
theorem dX8_either_0 : decode cX8_either 0 = .ok (.aload_n 0, 1) := by decide +kernel
theorem dX8_either_1 : decode cX8_either 1 = .ok (.invokevirtual 263, 3) := by decide +kernel
theorem dX8_either_4 : decode cX8_either 4 = .ok (.istore_n 1, 1) := by decide +kernel
theorem dX8_either_5 : decode cX8_either 5 = .ok (.aload_n 0, 1) := by decide +kernel
theorem dX8_either_6 : decode cX8_either 6 = .ok (.bipush 111, 2) := by decide +kernel
theorem dX8_either_8 : decode cX8_either 8 = .ok (.bipush 114, 2) := by decide +kernel
theorem dX8_either_10 : decode cX8_either 10 = .ok (.iconst 0, 1) := by decide +kernel
theorem dX8_either_11 : decode cX8_either 11 = .ok (.iconst 0, 1) := by decide +kernel
theorem dX8_either_12 : decode cX8_either 12 = .ok (.iconst 0, 1) := by decide +kernel
theorem dX8_either_13 : decode cX8_either 13 = .ok (.iconst 0, 1) := by decide +kernel
theorem dX8_either_14 : decode cX8_either 14 = .ok (.iconst 0, 1) := by decide +kernel
theorem dX8_either_15 : decode cX8_either 15 = .ok (.iconst 0, 1) := by decide +kernel
theorem dX8_either_16 : decode cX8_either 16 = .ok (.invokevirtual 211, 3) := by decide +kernel
theorem dX8_either_19 : decode cX8_either 19 = .ok (.ifCond .eq 29, 3) := by decide +kernel
theorem dX8_either_22 : decode cX8_either 22 = .ok (.aload_n 0, 1) := by decide +kernel
theorem dX8_either_23 : decode cX8_either 23 = .ok (.invokevirtual 208, 3) := by decide +kernel
theorem dX8_either_26 : decode cX8_either 26 = .ok (.aload_n 0, 1) := by decide +kernel
theorem dX8_either_27 : decode cX8_either 27 = .ok (.invokevirtual 263, 3) := by decide +kernel
theorem dX8_either_30 : decode cX8_either 30 = .ok (.istore_n 2, 1) := by decide +kernel
theorem dX8_either_31 : decode cX8_either 31 = .ok (.iload_n 1, 1) := by decide +kernel
theorem dX8_either_32 : decode cX8_either 32 = .ok (.ifCond .ne 7, 3) := by decide +kernel
theorem dX8_either_35 : decode cX8_either 35 = .ok (.iload_n 2, 1) := by decide +kernel
theorem dX8_either_36 : decode cX8_either 36 = .ok (.ifCond .eq 7, 3) := by decide +kernel
theorem dX8_either_39 : decode cX8_either 39 = .ok (.iconst 1, 1) := by decide +kernel
theorem dX8_either_40 : decode cX8_either 40 = .ok (.goto 4, 3) := by decide +kernel
theorem dX8_either_43 : decode cX8_either 43 = .ok (.iconst 0, 1) := by decide +kernel
theorem dX8_either_44 : decode cX8_either 44 = .ok (.istore_n 1, 1) := by decide +kernel
theorem dX8_either_45 : decode cX8_either 45 = .ok (.goto (-40), 3) := by decide +kernel
theorem dX8_either_48 : decode cX8_either 48 = .ok (.iload_n 1, 1) := by decide +kernel
theorem dX8_either_49 : decode cX8_either 49 = .ok (.ireturn, 1) := by decide +kernel
theorem dX8_part_0 : decode cX8_part 0 = .ok (.iload_n 1, 1) := by decide +kernel
theorem dX8_part_1 : decode cX8_part 1 = .ok (.ifCond .ne 7, 3) := by decide +kernel
theorem dX8_part_4 : decode cX8_part 4 = .ok (.aload_n 0, 1) := by decide +kernel
theorem dX8_part_5 : decode cX8_part 5 = .ok (.invokevirtual 205, 3) := by decide +kernel
theorem dX8_part_8 : decode cX8_part 8 = .ok (.aload_n 0, 1) := by decide +kernel
theorem dX8_part_9 : decode cX8_part 9 = .ok (.getfield 191, 3) := by decide +kernel
theorem dX8_part_12 : decode cX8_part 12 = .ok (.ifCond .ne 7, 3) := by decide +kernel
theorem dX8_part_15 : decode cX8_part 15 = .ok (.aload_n 0, 1) := by decide +kernel
theorem dX8_part_16 : decode cX8_part 16 = .ok (.invokevirtual 208, 3) := by decide +kernel
theorem dX8_part_19 : decode cX8_part 19 = .ok (.aload_n 0, 1) := by decide +kernel
theorem dX8_part_20 : decode cX8_part 20 = .ok (.getfield 191, 3) := by decide +kernel
theorem dX8_part_23 : decode cX8_part 23 = .ok (.ifCond .eq 7, 3) := by decide +kernel
theorem dX8_part_26 : decode cX8_part 26 = .ok (.iconst 0, 1) := by decide +kernel
theorem dX8_part_27 : decode cX8_part 27 = .ok (.goto 7, 3) := by decide +kernel
theorem dX8_part_30 : decode cX8_part 30 = .ok (.aload_n 0, 1) := by decide +kernel
theorem dX8_part_31 : decode cX8_part 31 = .ok (.invokevirtual 244, 3) := by decide +kernel
theorem dX8_part_34 : decode cX8_part 34 = .ok (.istore_n 2, 1) := by decide +kernel
theorem dX8_part_35 : decode cX8_part 35 = .ok (.aload_n 0, 1) := by decide +kernel
theorem dX8_part_36 : decode cX8_part 36 = .ok (.bipush 59, 2) := by decide +kernel
theorem dX8_part_38 : decode cX8_part 38 = .ok (.invokevirtual 233, 3) := by decide +kernel
theorem dX8_part_41 : decode cX8_part 41 = .ok (.ifCond .ne 7, 3) := by decide +kernel
theorem dX8_part_44 : decode cX8_part 44 = .ok (.aload_n 0, 1) := by decide +kernel
theorem dX8_part_45 : decode cX8_part 45 = .ok (.invokevirtual 205, 3) := by decide +kernel
theorem dX8_part_48 : decode cX8_part 48 = .ok (.aload_n 0, 1) := by decide +kernel
theorem dX8_part_49 : decode cX8_part 49 = .ok (.getfield 191, 3) := by decide +kernel
theorem dX8_part_52 : decode cX8_part 52 = .ok (.ifCond .ne 7, 3) := by decide +kernel
theorem dX8_part_55 : decode cX8_part 55 = .ok (.aload_n 0, 1) := by decide +kernel
theorem dX8_part_56 : decode cX8_part 56 = .ok (.invokevirtual 208, 3) := by decide +kernel
theorem dX8_part_59 : decode cX8_part 59 = .ok (.iload_n 2, 1) := by decide +kernel
theorem dX8_part_60 : decode cX8_part 60 = .ok (.ireturn, 1) := by decide +kernel
theorem dX8_read_0 : decode cX8_read 0 = .ok (.aload_n 0, 1) := by decide +kernel
theorem dX8_read_1 : decode cX8_read 1 = .ok (.sipush 160, 3) := by decide +kernel
theorem dX8_read_4 : decode cX8_read 4 = .ok (.iload_n 1, 1) := by decide +kernel
theorem dX8_read_5 : decode cX8_read 5 = .ok (.imul, 1) := by decide +kernel
theorem dX8_read_6 : decode cX8_read 6 = .ok (.putfield 162, 3) := by decide +kernel
theorem dX8_read_9 : decode cX8_read 9 = .ok (.aload_n 0, 1) := by decide +kernel
theorem dX8_read_10 : decode cX8_read 10 = .ok (.aload_n 0, 1) := by decide +kernel
theorem dX8_read_11 : decode cX8_read 11 = .ok (.getfield 17, 3) := by decide +kernel
theorem dX8_read_14 : decode cX8_read 14 = .ok (.iload_n 1, 1) := by decide +kernel
theorem dX8_read_15 : decode cX8_read 15 = .ok (.iaload, 1) := by decide +kernel
theorem dX8_read_16 : decode cX8_read 16 = .ok (.putfield 159, 3) := by decide +kernel
theorem dX8_read_19 : decode cX8_read 19 = .ok (.aload_n 0, 1) := by decide +kernel
theorem dX8_read_20 : decode cX8_read 20 = .ok (.iconst 0, 1) := by decide +kernel
theorem dX8_read_21 : decode cX8_read 21 = .ok (.putfield 165, 3) := by decide +kernel
theorem dX8_read_24 : decode cX8_read 24 = .ok (.aload_n 0, 1) := by decide +kernel
theorem dX8_read_25 : decode cX8_read 25 = .ok (.iconst 0, 1) := by decide +kernel
theorem dX8_read_26 : decode cX8_read 26 = .ok (.putfield 202, 3) := by decide +kernel
theorem dX8_read_29 : decode cX8_read 29 = .ok (.aload_n 0, 1) := by decide +kernel
theorem dX8_read_30 : decode cX8_read 30 = .ok (.iconst 0, 1) := by decide +kernel
theorem dX8_read_31 : decode cX8_read 31 = .ok (.putfield 191, 3) := by decide +kernel
theorem dX8_read_34 : decode cX8_read 34 = .ok (.aload_n 0, 1) := by decide +kernel
theorem dX8_read_35 : decode cX8_read 35 = .ok (.invokevirtual 208, 3) := by decide +kernel
theorem dX8_read_38 : decode cX8_read 38 = .ok (.aload_n 0, 1) := by decide +kernel
theorem dX8_read_39 : decode cX8_read 39 = .ok (.aload_n 0, 1) := by decide +kernel
theorem dX8_read_40 : decode cX8_read 40 = .ok (.bipush 102, 2) := by decide +kernel
theorem dX8_read_42 : decode cX8_read 42 = .ok (.bipush 97, 2) := by decide +kernel
theorem dX8_read_44 : decode cX8_read 44 = .ok (.bipush 108, 2) := by decide +kernel
theorem dX8_read_46 : decode cX8_read 46 = .ok (.bipush 108, 2) := by decide +kernel
theorem dX8_read_48 : decode cX8_read 48 = .ok (.bipush 115, 2) := by decide +kernel
theorem dX8_read_50 : decode cX8_read 50 = .ok (.iconst 0, 1) := by decide +kernel
theorem dX8_read_51 : decode cX8_read 51 = .ok (.iconst 0, 1) := by decide +kernel
theorem dX8_read_52 : decode cX8_read 52 = .ok (.iconst 0, 1) := by decide +kernel
theorem dX8_read_53 : decode cX8_read 53 = .ok (.invokevirtual 211, 3) := by decide +kernel
theorem dX8_read_56 : decode cX8_read 56 = .ok (.invokevirtual 266, 3) := by decide +kernel
theorem dX8_read_59 : decode cX8_read 59 = .ok (.istore_n 3, 1) := by decide +kernel
theorem dX8_read_60 : decode cX8_read 60 = .ok (.aload_n 0, 1) := by decide +kernel
theorem dX8_read_61 : decode cX8_read 61 = .ok (.getfield 191, 3) := by decide +kernel
theorem dX8_read_64 : decode cX8_read 64 = .ok (.ifCond .eq 7, 3) := by decide +kernel
theorem dX8_read_67 : decode cX8_read 67 = .ok (.iconst 0, 1) := by decide +kernel
theorem dX8_read_68 : decode cX8_read 68 = .ok (.goto 24, 3) := by decide +kernel
theorem dX8_read_71 : decode cX8_read 71 = .ok (.aload_n 0, 1) := by decide +kernel
theorem dX8_read_72 : decode cX8_read 72 = .ok (.aload_n 0, 1) := by decide +kernel
theorem dX8_read_73 : decode cX8_read 73 = .ok (.bipush 104, 2) := by decide +kernel
theorem dX8_read_75 : decode cX8_read 75 = .ok (.bipush 97, 2) := by decide +kernel
theorem dX8_read_77 : decode cX8_read 77 = .ok (.bipush 114, 2) := by decide +kernel
theorem dX8_read_79 : decode cX8_read 79 = .ok (.bipush 109, 2) := by decide +kernel
theorem dX8_read_81 : decode cX8_read 81 = .ok (.bipush 115, 2) := by decide +kernel
theorem dX8_read_83 : decode cX8_read 83 = .ok (.iconst 0, 1) := by decide +kernel
theorem dX8_read_84 : decode cX8_read 84 = .ok (.iconst 0, 1) := by decide +kernel
theorem dX8_read_85 : decode cX8_read 85 = .ok (.iconst 0, 1) := by decide +kernel
theorem dX8_read_86 : decode cX8_read 86 = .ok (.invokevirtual 211, 3) := by decide +kernel
theorem dX8_read_89 : decode cX8_read 89 = .ok (.invokevirtual 266, 3) := by decide +kernel
theorem dX8_read_92 : decode cX8_read 92 = .ok (.istore 4, 2) := by decide +kernel
theorem dX8_read_94 : decode cX8_read 94 = .ok (.aload_n 0, 1) := by decide +kernel
theorem dX8_read_95 : decode cX8_read 95 = .ok (.getfield 191, 3) := by decide +kernel
theorem dX8_read_98 : decode cX8_read 98 = .ok (.ifCond .eq 7, 3) := by decide +kernel
theorem dX8_read_101 : decode cX8_read 101 = .ok (.iconst 0, 1) := by decide +kernel
theorem dX8_read_102 : decode cX8_read 102 = .ok (.goto 24, 3) := by decide +kernel
theorem dX8_read_105 : decode cX8_read 105 = .ok (.aload_n 0, 1) := by decide +kernel
theorem dX8_read_106 : decode cX8_read 106 = .ok (.aload_n 0, 1) := by decide +kernel
theorem dX8_read_107 : decode cX8_read 107 = .ok (.bipush 119, 2) := by decide +kernel
theorem dX8_read_109 : decode cX8_read 109 = .ok (.bipush 97, 2) := by decide +kernel
theorem dX8_read_111 : decode cX8_read 111 = .ok (.bipush 107, 2) := by decide +kernel
theorem dX8_read_113 : decode cX8_read 113 = .ok (.bipush 101, 2) := by decide +kernel
theorem dX8_read_115 : decode cX8_read 115 = .ok (.bipush 115, 2) := by decide +kernel
theorem dX8_read_117 : decode cX8_read 117 = .ok (.iconst 0, 1) := by decide +kernel
theorem dX8_read_118 : decode cX8_read 118 = .ok (.iconst 0, 1) := by decide +kernel
theorem dX8_read_119 : decode cX8_read 119 = .ok (.iconst 0, 1) := by decide +kernel
theorem dX8_read_120 : decode cX8_read 120 = .ok (.invokevirtual 211, 3) := by decide +kernel
theorem dX8_read_123 : decode cX8_read 123 = .ok (.invokevirtual 266, 3) := by decide +kernel
theorem dX8_read_126 : decode cX8_read 126 = .ok (.istore 5, 2) := by decide +kernel
theorem dX8_read_128 : decode cX8_read 128 = .ok (.aload_n 0, 1) := by decide +kernel
theorem dX8_read_129 : decode cX8_read 129 = .ok (.getfield 191, 3) := by decide +kernel
theorem dX8_read_132 : decode cX8_read 132 = .ok (.ifCond .ne 14, 3) := by decide +kernel
theorem dX8_read_135 : decode cX8_read 135 = .ok (.aload_n 0, 1) := by decide +kernel
theorem dX8_read_136 : decode cX8_read 136 = .ok (.getfield 174, 3) := by decide +kernel
theorem dX8_read_139 : decode cX8_read 139 = .ok (.ifCond .eq 7, 3) := by decide +kernel
theorem dX8_read_142 : decode cX8_read 142 = .ok (.aload_n 0, 1) := by decide +kernel
theorem dX8_read_143 : decode cX8_read 143 = .ok (.invokevirtual 205, 3) := by decide +kernel
theorem dX8_read_146 : decode cX8_read 146 = .ok (.iload_n 2, 1) := by decide +kernel
theorem dX8_read_147 : decode cX8_read 147 = .ok (.ifCond .ne 7, 3) := by decide +kernel
theorem dX8_read_150 : decode cX8_read 150 = .ok (.iload_n 3, 1) := by decide +kernel
theorem dX8_read_151 : decode cX8_read 151 = .ok (.goto 15, 3) := by decide +kernel
theorem dX8_read_154 : decode cX8_read 154 = .ok (.iload_n 2, 1) := by decide +kernel
theorem dX8_read_155 : decode cX8_read 155 = .ok (.iconst 1, 1) := by decide +kernel
theorem dX8_read_156 : decode cX8_read 156 = .ok (.if_icmp .ne 8, 3) := by decide +kernel
theorem dX8_read_159 : decode cX8_read 159 = .ok (.iload 4, 2) := by decide +kernel
theorem dX8_read_161 : decode cX8_read 161 = .ok (.goto 5, 3) := by decide +kernel
theorem dX8_read_164 : decode cX8_read 164 = .ok (.iload 5, 2) := by decide +kernel
theorem dX8_read_166 : decode cX8_read 166 = .ok (.ireturn, 1) := by decide +kernel
theorem dX8_text_0 : decode cX8_text 0 = .ok (.aload_n 0, 1) := by decide +kernel
theorem dX8_text_1 : decode cX8_text 1 = .ok (.getfield 104, 3) := by decide +kernel
theorem dX8_text_4 : decode cX8_text 4 = .ok (.bipush 6, 2) := by decide +kernel
theorem dX8_text_6 : decode cX8_text 6 = .ok (.if_icmp .ne 6, 3) := by decide +kernel
theorem dX8_text_9 : decode cX8_text 9 = .ok (.bipush (-4), 2) := by decide +kernel
theorem dX8_text_11 : decode cX8_text 11 = .ok (.ireturn, 1) := by decide +kernel
theorem dX8_text_12 : decode cX8_text 12 = .ok (.iconst 0, 1) := by decide +kernel
theorem dX8_text_13 : decode cX8_text 13 = .ok (.istore_n 1, 1) := by decide +kernel
theorem dX8_text_14 : decode cX8_text 14 = .ok (.iload_n 1, 1) := by decide +kernel
theorem dX8_text_15 : decode cX8_text 15 = .ok (.aload_n 0, 1) := by decide +kernel
theorem dX8_text_16 : decode cX8_text 16 = .ok (.getfield 156, 3) := by decide +kernel
theorem dX8_text_19 : decode cX8_text 19 = .ok (.if_icmp .ge 30, 3) := by decide +kernel
theorem dX8_text_22 : decode cX8_text 22 = .ok (.aload_n 0, 1) := by decide +kernel
theorem dX8_text_23 : decode cX8_text 23 = .ok (.getfield 13, 3) := by decide +kernel
theorem dX8_text_26 : decode cX8_text 26 = .ok (.sipush 160, 3) := by decide +kernel
theorem dX8_text_29 : decode cX8_text 29 = .ok (.aload_n 0, 1) := by decide +kernel
theorem dX8_text_30 : decode cX8_text 30 = .ok (.getfield 104, 3) := by decide +kernel
theorem dX8_text_33 : decode cX8_text 33 = .ok (.imul, 1) := by decide +kernel
theorem dX8_text_34 : decode cX8_text 34 = .ok (.iload_n 1, 1) := by decide +kernel
theorem dX8_text_35 : decode cX8_text 35 = .ok (.iadd, 1) := by decide +kernel
theorem dX8_text_36 : decode cX8_text 36 = .ok (.aload_n 0, 1) := by decide +kernel
theorem dX8_text_37 : decode cX8_text 37 = .ok (.getfield 20, 3) := by decide +kernel
theorem dX8_text_40 : decode cX8_text 40 = .ok (.iload_n 1, 1) := by decide +kernel
theorem dX8_text_41 : decode cX8_text 41 = .ok (.iaload, 1) := by decide +kernel
theorem dX8_text_42 : decode cX8_text 42 = .ok (.iastore, 1) := by decide +kernel
theorem dX8_text_43 : decode cX8_text 43 = .ok (.iinc 1 1, 3) := by decide +kernel
theorem dX8_text_46 : decode cX8_text 46 = .ok (.goto (-32), 3) := by decide +kernel
theorem dX8_text_49 : decode cX8_text 49 = .ok (.aload_n 0, 1) := by decide +kernel
theorem dX8_text_50 : decode cX8_text 50 = .ok (.getfield 17, 3) := by decide +kernel
theorem dX8_text_53 : decode cX8_text 53 = .ok (.aload_n 0, 1) := by decide +kernel
theorem dX8_text_54 : decode cX8_text 54 = .ok (.getfield 104, 3) := by decide +kernel
theorem dX8_text_57 : decode cX8_text 57 = .ok (.aload_n 0, 1) := by decide +kernel
theorem dX8_text_58 : decode cX8_text 58 = .ok (.getfield 156, 3) := by decide +kernel
theorem dX8_text_61 : decode cX8_text 61 = .ok (.iastore, 1) := by decide +kernel
theorem dX8_text_62 : decode cX8_text 62 = .ok (.aload_n 0, 1) := by decide +kernel
theorem dX8_text_63 : decode cX8_text 63 = .ok (.iconst 0, 1) := by decide +kernel
theorem dX8_text_64 : decode cX8_text 64 = .ok (.putfield 156, 3) := by decide +kernel
theorem dX8_text_67 : decode cX8_text 67 = .ok (.aload_n 0, 1) := by decide +kernel
theorem dX8_text_68 : decode cX8_text 68 = .ok (.aload_n 0, 1) := by decide +kernel
theorem dX8_text_69 : decode cX8_text 69 = .ok (.getfield 104, 3) := by decide +kernel
theorem dX8_text_72 : decode cX8_text 72 = .ok (.iconst 0, 1) := by decide +kernel
theorem dX8_text_73 : decode cX8_text 73 = .ok (.invokevirtual 270, 3) := by decide +kernel
theorem dX8_text_76 : decode cX8_text 76 = .ok (.istore_n 1, 1) := by decide +kernel
theorem dX8_text_77 : decode cX8_text 77 = .ok (.aload_n 0, 1) := by decide +kernel
theorem dX8_text_78 : decode cX8_text 78 = .ok (.getfield 191, 3) := by decide +kernel
theorem dX8_text_81 : decode cX8_text 81 = .ok (.ifCond .eq 11, 3) := by decide +kernel
theorem dX8_text_84 : decode cX8_text 84 = .ok (.bipush (-100), 2) := by decide +kernel
theorem dX8_text_86 : decode cX8_text 86 = .ok (.aload_n 0, 1) := by decide +kernel
theorem dX8_text_87 : decode cX8_text 87 = .ok (.getfield 195, 3) := by decide +kernel
theorem dX8_text_90 : decode cX8_text 90 = .ok (.isub, 1) := by decide +kernel
theorem dX8_text_91 : decode cX8_text 91 = .ok (.ireturn, 1) := by decide +kernel
theorem dX8_text_92 : decode cX8_text 92 = .ok (.aload_n 0, 1) := by decide +kernel
theorem dX8_text_93 : decode cX8_text 93 = .ok (.dup, 1) := by decide +kernel
theorem dX8_text_94 : decode cX8_text 94 = .ok (.getfield 104, 3) := by decide +kernel
theorem dX8_text_97 : decode cX8_text 97 = .ok (.iconst 1, 1) := by decide +kernel
theorem dX8_text_98 : decode cX8_text 98 = .ok (.iadd, 1) := by decide +kernel
theorem dX8_text_99 : decode cX8_text 99 = .ok (.putfield 104, 3) := by decide +kernel
theorem dX8_text_102 : decode cX8_text 102 = .ok (.aload_n 0, 1) := by decide +kernel
theorem dX8_text_103 : decode cX8_text 103 = .ok (.getfield 104, 3) := by decide +kernel
theorem dX8_text_106 : decode cX8_text 106 = .ok (.iconst 1, 1) := by decide +kernel
theorem dX8_text_107 : decode cX8_text 107 = .ok (.isub, 1) := by decide +kernel
theorem dX8_text_108 : decode cX8_text 108 = .ok (.ireturn, 1) := by decide +kernel
theorem dX8_force_0 : decode cX8_force 0 = .ok (.iload_n 1, 1) := by decide +kernel
theorem dX8_force_1 : decode cX8_force 1 = .ok (.i2l, 1) := by decide +kernel
theorem dX8_force_2 : decode cX8_force 2 = .ok (.lconst 0, 1) := by decide +kernel
theorem dX8_force_3 : decode cX8_force 3 = .ok (.aload_n 0, 1) := by decide +kernel
theorem dX8_force_4 : decode cX8_force 4 = .ok (.getfield 104, 3) := by decide +kernel
theorem dX8_force_7 : decode cX8_force 7 = .ok (.iconst 1, 1) := by decide +kernel
theorem dX8_force_8 : decode cX8_force 8 = .ok (.isub, 1) := by decide +kernel
theorem dX8_force_9 : decode cX8_force 9 = .ok (.i2l, 1) := by decide +kernel
theorem dX8_force_10 : decode cX8_force 10 = .ok (.invokestatic 110, 3) := by decide +kernel
theorem dX8_force_13 : decode cX8_force 13 = .ok (.ifCond .ne 6, 3) := by decide +kernel
theorem dX8_force_16 : decode cX8_force 16 = .ok (.bipush (-2), 2) := by decide +kernel
theorem dX8_force_18 : decode cX8_force 18 = .ok (.ireturn, 1) := by decide +kernel
theorem dX8_force_19 : decode cX8_force 19 = .ok (.aload_n 0, 1) := by decide +kernel
theorem dX8_force_20 : decode cX8_force 20 = .ok (.getfield 274, 3) := by decide +kernel
theorem dX8_force_23 : decode cX8_force 23 = .ok (.istore_n 2, 1) := by decide +kernel
theorem dX8_force_24 : decode cX8_force 24 = .ok (.aload_n 0, 1) := by decide +kernel
theorem dX8_force_25 : decode cX8_force 25 = .ok (.iload_n 1, 1) := by decide +kernel
theorem dX8_force_26 : decode cX8_force 26 = .ok (.putfield 274, 3) := by decide +kernel
theorem dX8_force_29 : decode cX8_force 29 = .ok (.iload_n 2, 1) := by decide +kernel
theorem dX8_force_30 : decode cX8_force 30 = .ok (.ireturn, 1) := by decide +kernel
theorem dX8_says_0 : decode cX8_says 0 = .ok (.aload_n 0, 1) := by decide +kernel
theorem dX8_says_1 : decode cX8_says 1 = .ok (.aload_n 0, 1) := by decide +kernel
theorem dX8_says_2 : decode cX8_says 2 = .ok (.getfield 23, 3) := by decide +kernel
theorem dX8_says_5 : decode cX8_says 5 = .ok (.iload_n 2, 1) := by decide +kernel
theorem dX8_says_6 : decode cX8_says 6 = .ok (.iaload, 1) := by decide +kernel
theorem dX8_says_7 : decode cX8_says 7 = .ok (.putfield 215, 3) := by decide +kernel
theorem dX8_says_10 : decode cX8_says 10 = .ok (.aload_n 0, 1) := by decide +kernel
theorem dX8_says_11 : decode cX8_says 11 = .ok (.iload_n 2, 1) := by decide +kernel
theorem dX8_says_12 : decode cX8_says 12 = .ok (.putfield 218, 3) := by decide +kernel
theorem dX8_says_15 : decode cX8_says 15 = .ok (.aload_n 0, 1) := by decide +kernel
theorem dX8_says_16 : decode cX8_says 16 = .ok (.iload_n 3, 1) := by decide +kernel
theorem dX8_says_17 : decode cX8_says 17 = .ok (.putfield 221, 3) := by decide +kernel
theorem dX8_says_20 : decode cX8_says 20 = .ok (.aload_n 0, 1) := by decide +kernel
theorem dX8_says_21 : decode cX8_says 21 = .ok (.iload 4, 2) := by decide +kernel
theorem dX8_says_23 : decode cX8_says 23 = .ok (.putfield 224, 3) := by decide +kernel
theorem dX8_says_26 : decode cX8_says 26 = .ok (.aload_n 0, 1) := by decide +kernel
theorem dX8_says_27 : decode cX8_says 27 = .ok (.iload 5, 2) := by decide +kernel
theorem dX8_says_29 : decode cX8_says 29 = .ok (.putfield 227, 3) := by decide +kernel
theorem dX8_says_32 : decode cX8_says 32 = .ok (.aload_n 0, 1) := by decide +kernel
theorem dX8_says_33 : decode cX8_says 33 = .ok (.iload 6, 2) := by decide +kernel
theorem dX8_says_35 : decode cX8_says 35 = .ok (.putfield 230, 3) := by decide +kernel
theorem dX8_says_38 : decode cX8_says 38 = .ok (.aload_n 0, 1) := by decide +kernel
theorem dX8_says_39 : decode cX8_says 39 = .ok (.aload_n 0, 1) := by decide +kernel
theorem dX8_says_40 : decode cX8_says 40 = .ok (.getfield 274, 3) := by decide +kernel
theorem dX8_says_43 : decode cX8_says 43 = .ok (.iload_n 1, 1) := by decide +kernel
theorem dX8_says_44 : decode cX8_says 44 = .ok (.invokevirtual 270, 3) := by decide +kernel
theorem dX8_says_47 : decode cX8_says 47 = .ok (.iconst 0, 1) := by decide +kernel
theorem dX8_says_48 : decode cX8_says 48 = .ok (.iload_n 1, 1) := by decide +kernel
theorem dX8_says_49 : decode cX8_says 49 = .ok (.ifCond .ne 8, 3) := by decide +kernel
theorem dX8_says_52 : decode cX8_says 52 = .ok (.bipush 99, 2) := by decide +kernel
theorem dX8_says_54 : decode cX8_says 54 = .ok (.goto 6, 3) := by decide +kernel
theorem dX8_says_57 : decode cX8_says 57 = .ok (.sipush 999, 3) := by decide +kernel
theorem dX8_says_60 : decode cX8_says 60 = .ok (.invokestatic 277, 3) := by decide +kernel
theorem dX8_says_63 : decode cX8_says 63 = .ok (.ireturn, 1) := by decide +kernel
theorem dX8_where_0 : decode cX8_where 0 = .ok (.aload_n 0, 1) := by decide +kernel
theorem dX8_where_1 : decode cX8_where 1 = .ok (.getfield 29, 3) := by decide +kernel
theorem dX8_where_4 : decode cX8_where 4 = .ok (.iload_n 1, 1) := by decide +kernel
theorem dX8_where_5 : decode cX8_where 5 = .ok (.iaload, 1) := by decide +kernel
theorem dX8_where_6 : decode cX8_where 6 = .ok (.istore_n 3, 1) := by decide +kernel
theorem dX8_where_7 : decode cX8_where 7 = .ok (.iload_n 3, 1) := by decide +kernel
theorem dX8_where_8 : decode cX8_where 8 = .ok (.iconst 4, 1) := by decide +kernel
theorem dX8_where_9 : decode cX8_where 9 = .ok (.if_icmp .ne 13, 3) := by decide +kernel
theorem dX8_where_12 : decode cX8_where 12 = .ok (.aload_n 0, 1) := by decide +kernel
theorem dX8_where_13 : decode cX8_where 13 = .ok (.getfield 32, 3) := by decide +kernel
theorem dX8_where_16 : decode cX8_where 16 = .ok (.iload_n 1, 1) := by decide +kernel
theorem dX8_where_17 : decode cX8_where 17 = .ok (.iaload, 1) := by decide +kernel
theorem dX8_where_18 : decode cX8_where 18 = .ok (.bipush 8, 2) := by decide +kernel
theorem dX8_where_20 : decode cX8_where 20 = .ok (.irem, 1) := by decide +kernel
theorem dX8_where_21 : decode cX8_where 21 = .ok (.ireturn, 1) := by decide +kernel
theorem dX8_where_22 : decode cX8_where 22 = .ok (.iload_n 3, 1) := by decide +kernel
theorem dX8_where_23 : decode cX8_where 23 = .ok (.iconst 2, 1) := by decide +kernel
theorem dX8_where_24 : decode cX8_where 24 = .ok (.if_icmp .ne 32, 3) := by decide +kernel
theorem dX8_where_27 : decode cX8_where 27 = .ok (.aload_n 0, 1) := by decide +kernel
theorem dX8_where_28 : decode cX8_where 28 = .ok (.getfield 23, 3) := by decide +kernel
theorem dX8_where_31 : decode cX8_where 31 = .ok (.iload_n 2, 1) := by decide +kernel
theorem dX8_where_32 : decode cX8_where 32 = .ok (.iaload, 1) := by decide +kernel
theorem dX8_where_33 : decode cX8_where 33 = .ok (.aload_n 0, 1) := by decide +kernel
theorem dX8_where_34 : decode cX8_where 34 = .ok (.getfield 32, 3) := by decide +kernel
theorem dX8_where_37 : decode cX8_where 37 = .ok (.iload_n 1, 1) := by decide +kernel
theorem dX8_where_38 : decode cX8_where 38 = .ok (.iaload, 1) := by decide +kernel
theorem dX8_where_39 : decode cX8_where 39 = .ok (.if_icmp .le 17, 3) := by decide +kernel
theorem dX8_where_42 : decode cX8_where 42 = .ok (.aload_n 0, 1) := by decide +kernel
theorem dX8_where_43 : decode cX8_where 43 = .ok (.getfield 38, 3) := by decide +kernel
theorem dX8_where_46 : decode cX8_where 46 = .ok (.iload_n 1, 1) := by decide +kernel
theorem dX8_where_47 : decode cX8_where 47 = .ok (.iaload, 1) := by decide +kernel
theorem dX8_where_48 : decode cX8_where 48 = .ok (.iconst 1, 1) := by decide +kernel
theorem dX8_where_49 : decode cX8_where 49 = .ok (.iadd, 1) := by decide +kernel
theorem dX8_where_50 : decode cX8_where 50 = .ok (.bipush 8, 2) := by decide +kernel
theorem dX8_where_52 : decode cX8_where 52 = .ok (.irem, 1) := by decide +kernel
theorem dX8_where_53 : decode cX8_where 53 = .ok (.goto 9, 3) := by decide +kernel
theorem dX8_where_56 : decode cX8_where 56 = .ok (.aload_n 0, 1) := by decide +kernel
theorem dX8_where_57 : decode cX8_where 57 = .ok (.getfield 38, 3) := by decide +kernel
theorem dX8_where_60 : decode cX8_where 60 = .ok (.iload_n 1, 1) := by decide +kernel
theorem dX8_where_61 : decode cX8_where 61 = .ok (.iaload, 1) := by decide +kernel
theorem dX8_where_62 : decode cX8_where 62 = .ok (.ireturn, 1) := by decide +kernel
theorem dX8_fallsOn_0 : decode cX8_fallsOn 0 = .ok (.aload_n 0, 1) := by decide +kernel
theorem dX8_fallsOn_1 : decode cX8_fallsOn 1 = .ok (.getfield 29, 3) := by decide +kernel
theorem dX8_fallsOn_4 : decode cX8_fallsOn 4 = .ok (.iload_n 1, 1) := by decide +kernel
theorem dX8_fallsOn_5 : decode cX8_fallsOn 5 = .ok (.iaload, 1) := by decide +kernel
theorem dX8_fallsOn_6 : decode cX8_fallsOn 6 = .ok (.istore 4, 2) := by decide +kernel
theorem dX8_fallsOn_8 : decode cX8_fallsOn 8 = .ok (.aload_n 0, 1) := by decide +kernel
theorem dX8_fallsOn_9 : decode cX8_fallsOn 9 = .ok (.iconst 0, 1) := by decide +kernel
theorem dX8_fallsOn_10 : decode cX8_fallsOn 10 = .ok (.iload_n 2, 1) := by decide +kernel
theorem dX8_fallsOn_11 : decode cX8_fallsOn 11 = .ok (.iload_n 3, 1) := by decide +kernel
theorem dX8_fallsOn_12 : decode cX8_fallsOn 12 = .ok (.aload_n 0, 1) := by decide +kernel
theorem dX8_fallsOn_13 : decode cX8_fallsOn 13 = .ok (.getfield 35, 3) := by decide +kernel
theorem dX8_fallsOn_16 : decode cX8_fallsOn 16 = .ok (.iload_n 1, 1) := by decide +kernel
theorem dX8_fallsOn_17 : decode cX8_fallsOn 17 = .ok (.iaload, 1) := by decide +kernel
theorem dX8_fallsOn_18 : decode cX8_fallsOn 18 = .ok (.iconst 0, 1) := by decide +kernel
theorem dX8_fallsOn_19 : decode cX8_fallsOn 19 = .ok (.iconst 0, 1) := by decide +kernel
theorem dX8_fallsOn_20 : decode cX8_fallsOn 20 = .ok (.invokevirtual 281, 3) := by decide +kernel
theorem dX8_fallsOn_23 : decode cX8_fallsOn 23 = .ok (.istore 5, 2) := by decide +kernel
theorem dX8_fallsOn_25 : decode cX8_fallsOn 25 = .ok (.iload 4, 2) := by decide +kernel
theorem dX8_fallsOn_27 : decode cX8_fallsOn 27 = .ok (.iconst 1, 1) := by decide +kernel
theorem dX8_fallsOn_28 : decode cX8_fallsOn 28 = .ok (.if_icmp .ne 8, 3) := by decide +kernel
theorem dX8_fallsOn_31 : decode cX8_fallsOn 31 = .ok (.iload 5, 2) := by decide +kernel
theorem dX8_fallsOn_33 : decode cX8_fallsOn 33 = .ok (.iconst 1, 1) := by decide +kernel
theorem dX8_fallsOn_34 : decode cX8_fallsOn 34 = .ok (.iadd, 1) := by decide +kernel
theorem dX8_fallsOn_35 : decode cX8_fallsOn 35 = .ok (.ireturn, 1) := by decide +kernel
theorem dX8_fallsOn_36 : decode cX8_fallsOn 36 = .ok (.iload 4, 2) := by decide +kernel
theorem dX8_fallsOn_38 : decode cX8_fallsOn 38 = .ok (.iconst 3, 1) := by decide +kernel
theorem dX8_fallsOn_39 : decode cX8_fallsOn 39 = .ok (.if_icmp .ne 24, 3) := by decide +kernel
theorem dX8_fallsOn_42 : decode cX8_fallsOn 42 = .ok (.iload_n 2, 1) := by decide +kernel
theorem dX8_fallsOn_43 : decode cX8_fallsOn 43 = .ok (.aload_n 0, 1) := by decide +kernel
theorem dX8_fallsOn_44 : decode cX8_fallsOn 44 = .ok (.getfield 32, 3) := by decide +kernel
theorem dX8_fallsOn_47 : decode cX8_fallsOn 47 = .ok (.iload_n 1, 1) := by decide +kernel
theorem dX8_fallsOn_48 : decode cX8_fallsOn 48 = .ok (.iaload, 1) := by decide +kernel
theorem dX8_fallsOn_49 : decode cX8_fallsOn 49 = .ok (.if_icmp .ge 7, 3) := by decide +kernel
theorem dX8_fallsOn_52 : decode cX8_fallsOn 52 = .ok (.iconst 0, 1) := by decide +kernel
theorem dX8_fallsOn_53 : decode cX8_fallsOn 53 = .ok (.goto 9, 3) := by decide +kernel
theorem dX8_fallsOn_56 : decode cX8_fallsOn 56 = .ok (.iconst 2, 1) := by decide +kernel
theorem dX8_fallsOn_57 : decode cX8_fallsOn 57 = .ok (.iload 5, 2) := by decide +kernel
theorem dX8_fallsOn_59 : decode cX8_fallsOn 59 = .ok (.iconst 1, 1) := by decide +kernel
theorem dX8_fallsOn_60 : decode cX8_fallsOn 60 = .ok (.iadd, 1) := by decide +kernel
theorem dX8_fallsOn_61 : decode cX8_fallsOn 61 = .ok (.imul, 1) := by decide +kernel
theorem dX8_fallsOn_62 : decode cX8_fallsOn 62 = .ok (.ireturn, 1) := by decide +kernel
theorem dX8_fallsOn_63 : decode cX8_fallsOn 63 = .ok (.iload 4, 2) := by decide +kernel
theorem dX8_fallsOn_65 : decode cX8_fallsOn 65 = .ok (.iconst 5, 1) := by decide +kernel
theorem dX8_fallsOn_66 : decode cX8_fallsOn 66 = .ok (.if_icmp .ne 18, 3) := by decide +kernel
theorem dX8_fallsOn_69 : decode cX8_fallsOn 69 = .ok (.iload_n 2, 1) := by decide +kernel
theorem dX8_fallsOn_70 : decode cX8_fallsOn 70 = .ok (.bipush 12, 2) := by decide +kernel
theorem dX8_fallsOn_72 : decode cX8_fallsOn 72 = .ok (.if_icmp .ge 7, 3) := by decide +kernel
theorem dX8_fallsOn_75 : decode cX8_fallsOn 75 = .ok (.iconst 0, 1) := by decide +kernel
theorem dX8_fallsOn_76 : decode cX8_fallsOn 76 = .ok (.goto 7, 3) := by decide +kernel
theorem dX8_fallsOn_79 : decode cX8_fallsOn 79 = .ok (.iload 5, 2) := by decide +kernel
theorem dX8_fallsOn_81 : decode cX8_fallsOn 81 = .ok (.iconst 1, 1) := by decide +kernel
theorem dX8_fallsOn_82 : decode cX8_fallsOn 82 = .ok (.iadd, 1) := by decide +kernel
theorem dX8_fallsOn_83 : decode cX8_fallsOn 83 = .ok (.ireturn, 1) := by decide +kernel
theorem dX8_fallsOn_84 : decode cX8_fallsOn 84 = .ok (.iload 4, 2) := by decide +kernel
theorem dX8_fallsOn_86 : decode cX8_fallsOn 86 = .ok (.iconst 2, 1) := by decide +kernel
theorem dX8_fallsOn_87 : decode cX8_fallsOn 87 = .ok (.if_icmp .eq 9, 3) := by decide +kernel
theorem dX8_fallsOn_90 : decode cX8_fallsOn 90 = .ok (.iload 4, 2) := by decide +kernel
theorem dX8_fallsOn_92 : decode cX8_fallsOn 92 = .ok (.iconst 4, 1) := by decide +kernel
theorem dX8_fallsOn_93 : decode cX8_fallsOn 93 = .ok (.if_icmp .ne 50, 3) := by decide +kernel
theorem dX8_fallsOn_96 : decode cX8_fallsOn 96 = .ok (.aload_n 0, 1) := by decide +kernel
theorem dX8_fallsOn_97 : decode cX8_fallsOn 97 = .ok (.getfield 23, 3) := by decide +kernel
theorem dX8_fallsOn_100 : decode cX8_fallsOn 100 = .ok (.iload_n 2, 1) := by decide +kernel
theorem dX8_fallsOn_101 : decode cX8_fallsOn 101 = .ok (.iaload, 1) := by decide +kernel
theorem dX8_fallsOn_102 : decode cX8_fallsOn 102 = .ok (.aload_n 0, 1) := by decide +kernel
theorem dX8_fallsOn_103 : decode cX8_fallsOn 103 = .ok (.getfield 32, 3) := by decide +kernel
theorem dX8_fallsOn_106 : decode cX8_fallsOn 106 = .ok (.iload_n 1, 1) := by decide +kernel
theorem dX8_fallsOn_107 : decode cX8_fallsOn 107 = .ok (.iaload, 1) := by decide +kernel
theorem dX8_fallsOn_108 : decode cX8_fallsOn 108 = .ok (.if_icmp .le 10, 3) := by decide +kernel
theorem dX8_fallsOn_111 : decode cX8_fallsOn 111 = .ok (.iload 5, 2) := by decide +kernel
theorem dX8_fallsOn_113 : decode cX8_fallsOn 113 = .ok (.iconst 2, 1) := by decide +kernel
theorem dX8_fallsOn_114 : decode cX8_fallsOn 114 = .ok (.idiv, 1) := by decide +kernel
theorem dX8_fallsOn_115 : decode cX8_fallsOn 115 = .ok (.goto 5, 3) := by decide +kernel
theorem dX8_fallsOn_118 : decode cX8_fallsOn 118 = .ok (.iload 5, 2) := by decide +kernel
theorem dX8_fallsOn_120 : decode cX8_fallsOn 120 = .ok (.istore 6, 2) := by decide +kernel
theorem dX8_fallsOn_122 : decode cX8_fallsOn 122 = .ok (.iload 4, 2) := by decide +kernel
theorem dX8_fallsOn_124 : decode cX8_fallsOn 124 = .ok (.iconst 4, 1) := by decide +kernel
theorem dX8_fallsOn_125 : decode cX8_fallsOn 125 = .ok (.if_icmp .ne 15, 3) := by decide +kernel
theorem dX8_fallsOn_128 : decode cX8_fallsOn 128 = .ok (.iload 6, 2) := by decide +kernel
theorem dX8_fallsOn_130 : decode cX8_fallsOn 130 = .ok (.bipush 9, 2) := by decide +kernel
theorem dX8_fallsOn_132 : decode cX8_fallsOn 132 = .ok (.if_icmp .le 8, 3) := by decide +kernel
theorem dX8_fallsOn_135 : decode cX8_fallsOn 135 = .ok (.bipush 9, 2) := by decide +kernel
theorem dX8_fallsOn_137 : decode cX8_fallsOn 137 = .ok (.goto 5, 3) := by decide +kernel
theorem dX8_fallsOn_140 : decode cX8_fallsOn 140 = .ok (.iload 6, 2) := by decide +kernel
theorem dX8_fallsOn_142 : decode cX8_fallsOn 142 = .ok (.ireturn, 1) := by decide +kernel
theorem dX8_fallsOn_143 : decode cX8_fallsOn 143 = .ok (.iload 5, 2) := by decide +kernel
theorem dX8_fallsOn_145 : decode cX8_fallsOn 145 = .ok (.ireturn, 1) := by decide +kernel
theorem dX8_falls_0 : decode cX8_falls 0 = .ok (.aload_n 0, 1) := by decide +kernel
theorem dX8_falls_1 : decode cX8_falls 1 = .ok (.iload_n 1, 1) := by decide +kernel
theorem dX8_falls_2 : decode cX8_falls 2 = .ok (.invokevirtual 127, 3) := by decide +kernel
theorem dX8_falls_5 : decode cX8_falls 5 = .ok (.ifCond .eq 20, 3) := by decide +kernel
theorem dX8_falls_8 : decode cX8_falls 8 = .ok (.iload_n 2, 1) := by decide +kernel
theorem dX8_falls_9 : decode cX8_falls 9 = .ok (.invokestatic 123, 3) := by decide +kernel
theorem dX8_falls_12 : decode cX8_falls 12 = .ok (.ifCond .eq 13, 3) := by decide +kernel
theorem dX8_falls_15 : decode cX8_falls 15 = .ok (.iload_n 3, 1) := by decide +kernel
theorem dX8_falls_16 : decode cX8_falls 16 = .ok (.i2l, 1) := by decide +kernel
theorem dX8_falls_17 : decode cX8_falls 17 = .ok (.lconst 0, 1) := by decide +kernel
theorem dX8_falls_18 : decode cX8_falls 18 = .ok (.lconst 1, 1) := by decide +kernel
theorem dX8_falls_19 : decode cX8_falls 19 = .ok (.invokestatic 110, 3) := by decide +kernel
theorem dX8_falls_22 : decode cX8_falls 22 = .ok (.ifCond .ne 6, 3) := by decide +kernel
theorem dX8_falls_25 : decode cX8_falls 25 = .ok (.bipush (-2), 2) := by decide +kernel
theorem dX8_falls_27 : decode cX8_falls 27 = .ok (.ireturn, 1) := by decide +kernel
theorem dX8_falls_28 : decode cX8_falls 28 = .ok (.iload_n 3, 1) := by decide +kernel
theorem dX8_falls_29 : decode cX8_falls 29 = .ok (.ifCond .ne 18, 3) := by decide +kernel
theorem dX8_falls_32 : decode cX8_falls 32 = .ok (.aload_n 0, 1) := by decide +kernel
theorem dX8_falls_33 : decode cX8_falls 33 = .ok (.iload_n 1, 1) := by decide +kernel
theorem dX8_falls_34 : decode cX8_falls 34 = .ok (.iload_n 2, 1) := by decide +kernel
theorem dX8_falls_35 : decode cX8_falls 35 = .ok (.aload_n 0, 1) := by decide +kernel
theorem dX8_falls_36 : decode cX8_falls 36 = .ok (.iload_n 1, 1) := by decide +kernel
theorem dX8_falls_37 : decode cX8_falls 37 = .ok (.iload_n 2, 1) := by decide +kernel
theorem dX8_falls_38 : decode cX8_falls 38 = .ok (.invokevirtual 285, 3) := by decide +kernel
theorem dX8_falls_41 : decode cX8_falls 41 = .ok (.invokevirtual 288, 3) := by decide +kernel
theorem dX8_falls_44 : decode cX8_falls 44 = .ok (.goto 9, 3) := by decide +kernel
theorem dX8_falls_47 : decode cX8_falls 47 = .ok (.aload_n 0, 1) := by decide +kernel
theorem dX8_falls_48 : decode cX8_falls 48 = .ok (.iload_n 1, 1) := by decide +kernel
theorem dX8_falls_49 : decode cX8_falls 49 = .ok (.iload_n 2, 1) := by decide +kernel
theorem dX8_falls_50 : decode cX8_falls 50 = .ok (.invokevirtual 285, 3) := by decide +kernel
theorem dX8_falls_53 : decode cX8_falls 53 = .ok (.ireturn, 1) := by decide +kernel
theorem dX8_pour_0 : decode cX8_pour 0 = .ok (.iconst 0, 1) := by decide +kernel
theorem dX8_pour_1 : decode cX8_pour 1 = .ok (.istore 4, 2) := by decide +kernel
theorem dX8_pour_3 : decode cX8_pour 3 = .ok (.iload 4, 2) := by decide +kernel
theorem dX8_pour_5 : decode cX8_pour 5 = .ok (.bipush 24, 2) := by decide +kernel
theorem dX8_pour_7 : decode cX8_pour 7 = .ok (.if_icmp .ge 54, 3) := by decide +kernel
theorem dX8_pour_10 : decode cX8_pour 10 = .ok (.iload_n 2, 1) := by decide +kernel
theorem dX8_pour_11 : decode cX8_pour 11 = .ok (.iconst (-1), 1) := by decide +kernel
theorem dX8_pour_12 : decode cX8_pour 12 = .ok (.if_icmp .ne 13, 3) := by decide +kernel
theorem dX8_pour_15 : decode cX8_pour 15 = .ok (.aload_n 0, 1) := by decide +kernel
theorem dX8_pour_16 : decode cX8_pour 16 = .ok (.iload_n 1, 1) := by decide +kernel
theorem dX8_pour_17 : decode cX8_pour 17 = .ok (.iload 4, 2) := by decide +kernel
theorem dX8_pour_19 : decode cX8_pour 19 = .ok (.invokevirtual 285, 3) := by decide +kernel
theorem dX8_pour_22 : decode cX8_pour 22 = .ok (.goto 4, 3) := by decide +kernel
theorem dX8_pour_25 : decode cX8_pour 25 = .ok (.iload_n 2, 1) := by decide +kernel
theorem dX8_pour_26 : decode cX8_pour 26 = .ok (.istore 5, 2) := by decide +kernel
theorem dX8_pour_28 : decode cX8_pour 28 = .ok (.aload_n 0, 1) := by decide +kernel
theorem dX8_pour_29 : decode cX8_pour 29 = .ok (.getfield 50, 3) := by decide +kernel
theorem dX8_pour_32 : decode cX8_pour 32 = .ok (.bipush 8, 2) := by decide +kernel
theorem dX8_pour_34 : decode cX8_pour 34 = .ok (.iload 4, 2) := by decide +kernel
theorem dX8_pour_36 : decode cX8_pour 36 = .ok (.imul, 1) := by decide +kernel
theorem dX8_pour_37 : decode cX8_pour 37 = .ok (.iload 5, 2) := by decide +kernel
theorem dX8_pour_39 : decode cX8_pour 39 = .ok (.iadd, 1) := by decide +kernel
theorem dX8_pour_40 : decode cX8_pour 40 = .ok (.dup2, 1) := by decide +kernel
theorem dX8_pour_41 : decode cX8_pour 41 = .ok (.iaload, 1) := by decide +kernel
theorem dX8_pour_42 : decode cX8_pour 42 = .ok (.iload_n 3, 1) := by decide +kernel
theorem dX8_pour_43 : decode cX8_pour 43 = .ok (.aload_n 0, 1) := by decide +kernel
theorem dX8_pour_44 : decode cX8_pour 44 = .ok (.iload_n 1, 1) := by decide +kernel
theorem dX8_pour_45 : decode cX8_pour 45 = .ok (.iload 4, 2) := by decide +kernel
theorem dX8_pour_47 : decode cX8_pour 47 = .ok (.iload 5, 2) := by decide +kernel
theorem dX8_pour_49 : decode cX8_pour 49 = .ok (.invokevirtual 288, 3) := by decide +kernel
theorem dX8_pour_52 : decode cX8_pour 52 = .ok (.imul, 1) := by decide +kernel
theorem dX8_pour_53 : decode cX8_pour 53 = .ok (.iadd, 1) := by decide +kernel
theorem dX8_pour_54 : decode cX8_pour 54 = .ok (.iastore, 1) := by decide +kernel
theorem dX8_pour_55 : decode cX8_pour 55 = .ok (.iinc 4 1, 3) := by decide +kernel
theorem dX8_pour_58 : decode cX8_pour 58 = .ok (.goto (-55), 3) := by decide +kernel
theorem dX8_pour_61 : decode cX8_pour 61 = .ok (.return_, 1) := by decide +kernel
theorem dX8_poursOf_0 : decode cX8_poursOf 0 = .ok (.iconst 0, 1) := by decide +kernel
theorem dX8_poursOf_1 : decode cX8_poursOf 1 = .ok (.istore_n 2, 1) := by decide +kernel
theorem dX8_poursOf_2 : decode cX8_poursOf 2 = .ok (.iload_n 2, 1) := by decide +kernel
theorem dX8_poursOf_3 : decode cX8_poursOf 3 = .ok (.sipush 192, 3) := by decide +kernel
theorem dX8_poursOf_6 : decode cX8_poursOf 6 = .ok (.if_icmp .ge 16, 3) := by decide +kernel
theorem dX8_poursOf_9 : decode cX8_poursOf 9 = .ok (.aload_n 0, 1) := by decide +kernel
theorem dX8_poursOf_10 : decode cX8_poursOf 10 = .ok (.getfield 50, 3) := by decide +kernel
theorem dX8_poursOf_13 : decode cX8_poursOf 13 = .ok (.iload_n 2, 1) := by decide +kernel
theorem dX8_poursOf_14 : decode cX8_poursOf 14 = .ok (.iconst 0, 1) := by decide +kernel
theorem dX8_poursOf_15 : decode cX8_poursOf 15 = .ok (.iastore, 1) := by decide +kernel
theorem dX8_poursOf_16 : decode cX8_poursOf 16 = .ok (.iinc 2 1, 3) := by decide +kernel
theorem dX8_poursOf_19 : decode cX8_poursOf 19 = .ok (.goto (-17), 3) := by decide +kernel
theorem dX8_poursOf_22 : decode cX8_poursOf 22 = .ok (.iconst 0, 1) := by decide +kernel
theorem dX8_poursOf_23 : decode cX8_poursOf 23 = .ok (.istore_n 2, 1) := by decide +kernel
theorem dX8_poursOf_24 : decode cX8_poursOf 24 = .ok (.iload_n 2, 1) := by decide +kernel
theorem dX8_poursOf_25 : decode cX8_poursOf 25 = .ok (.aload_n 0, 1) := by decide +kernel
theorem dX8_poursOf_26 : decode cX8_poursOf 26 = .ok (.getfield 107, 3) := by decide +kernel
theorem dX8_poursOf_29 : decode cX8_poursOf 29 = .ok (.if_icmp .ge 25, 3) := by decide +kernel
theorem dX8_poursOf_32 : decode cX8_poursOf 32 = .ok (.iload_n 1, 1) := by decide +kernel
theorem dX8_poursOf_33 : decode cX8_poursOf 33 = .ok (.iload_n 2, 1) := by decide +kernel
theorem dX8_poursOf_34 : decode cX8_poursOf 34 = .ok (.ishr, 1) := by decide +kernel
theorem dX8_poursOf_35 : decode cX8_poursOf 35 = .ok (.iconst 1, 1) := by decide +kernel
theorem dX8_poursOf_36 : decode cX8_poursOf 36 = .ok (.iand, 1) := by decide +kernel
theorem dX8_poursOf_37 : decode cX8_poursOf 37 = .ok (.iconst 1, 1) := by decide +kernel
theorem dX8_poursOf_38 : decode cX8_poursOf 38 = .ok (.if_icmp .ne 10, 3) := by decide +kernel
theorem dX8_poursOf_41 : decode cX8_poursOf 41 = .ok (.aload_n 0, 1) := by decide +kernel
theorem dX8_poursOf_42 : decode cX8_poursOf 42 = .ok (.iload_n 2, 1) := by decide +kernel
theorem dX8_poursOf_43 : decode cX8_poursOf 43 = .ok (.iconst (-1), 1) := by decide +kernel
theorem dX8_poursOf_44 : decode cX8_poursOf 44 = .ok (.iconst 1, 1) := by decide +kernel
theorem dX8_poursOf_45 : decode cX8_poursOf 45 = .ok (.invokevirtual 291, 3) := by decide +kernel
theorem dX8_poursOf_48 : decode cX8_poursOf 48 = .ok (.iinc 2 1, 3) := by decide +kernel
theorem dX8_poursOf_51 : decode cX8_poursOf 51 = .ok (.goto (-27), 3) := by decide +kernel
theorem dX8_poursOf_54 : decode cX8_poursOf 54 = .ok (.return_, 1) := by decide +kernel
theorem dX8_allDrips_0 : decode cX8_allDrips 0 = .ok (.iconst 1, 1) := by decide +kernel
theorem dX8_allDrips_1 : decode cX8_allDrips 1 = .ok (.aload_n 0, 1) := by decide +kernel
theorem dX8_allDrips_2 : decode cX8_allDrips 2 = .ok (.getfield 107, 3) := by decide +kernel
theorem dX8_allDrips_5 : decode cX8_allDrips 5 = .ok (.ishl, 1) := by decide +kernel
theorem dX8_allDrips_6 : decode cX8_allDrips 6 = .ok (.iconst 1, 1) := by decide +kernel
theorem dX8_allDrips_7 : decode cX8_allDrips 7 = .ok (.isub, 1) := by decide +kernel
theorem dX8_allDrips_8 : decode cX8_allDrips 8 = .ok (.ireturn, 1) := by decide +kernel
theorem dX8_harmOf_0 : decode cX8_harmOf 0 = .ok (.aload_n 0, 1) := by decide +kernel
theorem dX8_harmOf_1 : decode cX8_harmOf 1 = .ok (.getfield 295, 3) := by decide +kernel
theorem dX8_harmOf_4 : decode cX8_harmOf 4 = .ok (.ifCond .ne 15, 3) := by decide +kernel
theorem dX8_harmOf_7 : decode cX8_harmOf 7 = .ok (.aload_n 0, 1) := by decide +kernel
theorem dX8_harmOf_8 : decode cX8_harmOf 8 = .ok (.iconst 1, 1) := by decide +kernel
theorem dX8_harmOf_9 : decode cX8_harmOf 9 = .ok (.iload_n 1, 1) := by decide +kernel
theorem dX8_harmOf_10 : decode cX8_harmOf 10 = .ok (.iload_n 2, 1) := by decide +kernel
theorem dX8_harmOf_11 : decode cX8_harmOf 11 = .ok (.iconst 0, 1) := by decide +kernel
theorem dX8_harmOf_12 : decode cX8_harmOf 12 = .ok (.iload_n 3, 1) := by decide +kernel
theorem dX8_harmOf_13 : decode cX8_harmOf 13 = .ok (.iload 4, 2) := by decide +kernel
theorem dX8_harmOf_15 : decode cX8_harmOf 15 = .ok (.invokevirtual 281, 3) := by decide +kernel
theorem dX8_harmOf_18 : decode cX8_harmOf 18 = .ok (.ireturn, 1) := by decide +kernel
theorem dX8_harmOf_19 : decode cX8_harmOf 19 = .ok (.bipush 8, 2) := by decide +kernel
theorem dX8_harmOf_21 : decode cX8_harmOf 21 = .ok (.iload_n 1, 1) := by decide +kernel
theorem dX8_harmOf_22 : decode cX8_harmOf 22 = .ok (.imul, 1) := by decide +kernel
theorem dX8_harmOf_23 : decode cX8_harmOf 23 = .ok (.iload_n 2, 1) := by decide +kernel
theorem dX8_harmOf_24 : decode cX8_harmOf 24 = .ok (.iadd, 1) := by decide +kernel
theorem dX8_harmOf_25 : decode cX8_harmOf 25 = .ok (.sipush 1301, 3) := by decide +kernel
theorem dX8_harmOf_28 : decode cX8_harmOf 28 = .ok (.imul, 1) := by decide +kernel
theorem dX8_harmOf_29 : decode cX8_harmOf 29 = .ok (.iload_n 3, 1) := by decide +kernel
theorem dX8_harmOf_30 : decode cX8_harmOf 30 = .ok (.iadd, 1) := by decide +kernel
theorem dX8_harmOf_31 : decode cX8_harmOf 31 = .ok (.istore 5, 2) := by decide +kernel
theorem dX8_harmOf_33 : decode cX8_harmOf 33 = .ok (.aload_n 0, 1) := by decide +kernel
theorem dX8_harmOf_34 : decode cX8_harmOf 34 = .ok (.getfield 63, 3) := by decide +kernel
theorem dX8_harmOf_37 : decode cX8_harmOf 37 = .ok (.iload 5, 2) := by decide +kernel
theorem dX8_harmOf_39 : decode cX8_harmOf 39 = .ok (.iaload, 1) := by decide +kernel
theorem dX8_harmOf_40 : decode cX8_harmOf 40 = .ok (.iconst (-1), 1) := by decide +kernel
theorem dX8_harmOf_41 : decode cX8_harmOf 41 = .ok (.if_icmp .ne 21, 3) := by decide +kernel
theorem dX8_harmOf_44 : decode cX8_harmOf 44 = .ok (.aload_n 0, 1) := by decide +kernel
theorem dX8_harmOf_45 : decode cX8_harmOf 45 = .ok (.getfield 63, 3) := by decide +kernel
theorem dX8_harmOf_48 : decode cX8_harmOf 48 = .ok (.iload 5, 2) := by decide +kernel
theorem dX8_harmOf_50 : decode cX8_harmOf 50 = .ok (.aload_n 0, 1) := by decide +kernel
theorem dX8_harmOf_51 : decode cX8_harmOf 51 = .ok (.iconst 1, 1) := by decide +kernel
theorem dX8_harmOf_52 : decode cX8_harmOf 52 = .ok (.iload_n 1, 1) := by decide +kernel
theorem dX8_harmOf_53 : decode cX8_harmOf 53 = .ok (.iload_n 2, 1) := by decide +kernel
theorem dX8_harmOf_54 : decode cX8_harmOf 54 = .ok (.iconst 0, 1) := by decide +kernel
theorem dX8_harmOf_55 : decode cX8_harmOf 55 = .ok (.iload_n 3, 1) := by decide +kernel
theorem dX8_harmOf_56 : decode cX8_harmOf 56 = .ok (.iload 4, 2) := by decide +kernel
theorem dX8_harmOf_58 : decode cX8_harmOf 58 = .ok (.invokevirtual 281, 3) := by decide +kernel
theorem dX8_harmOf_61 : decode cX8_harmOf 61 = .ok (.iastore, 1) := by decide +kernel
theorem dX8_harmOf_62 : decode cX8_harmOf 62 = .ok (.aload_n 0, 1) := by decide +kernel
theorem dX8_harmOf_63 : decode cX8_harmOf 63 = .ok (.getfield 63, 3) := by decide +kernel
theorem dX8_harmOf_66 : decode cX8_harmOf 66 = .ok (.iload 5, 2) := by decide +kernel
theorem dX8_harmOf_68 : decode cX8_harmOf 68 = .ok (.iaload, 1) := by decide +kernel
theorem dX8_harmOf_69 : decode cX8_harmOf 69 = .ok (.ireturn, 1) := by decide +kernel
theorem dX8_empties_0 : decode cX8_empties 0 = .ok (.iconst 0, 1) := by decide +kernel
theorem dX8_empties_1 : decode cX8_empties 1 = .ok (.istore_n 1, 1) := by decide +kernel
theorem dX8_empties_2 : decode cX8_empties 2 = .ok (.iload_n 1, 1) := by decide +kernel
theorem dX8_empties_3 : decode cX8_empties 3 = .ok (.aload_n 0, 1) := by decide +kernel
theorem dX8_empties_4 : decode cX8_empties 4 = .ok (.getfield 26, 3) := by decide +kernel
theorem dX8_empties_7 : decode cX8_empties 7 = .ok (.if_icmp .ge 131, 3) := by decide +kernel
theorem dX8_empties_10 : decode cX8_empties 10 = .ok (.iconst (-1), 1) := by decide +kernel
theorem dX8_empties_11 : decode cX8_empties 11 = .ok (.istore_n 2, 1) := by decide +kernel
theorem dX8_empties_12 : decode cX8_empties 12 = .ok (.iconst 0, 1) := by decide +kernel
theorem dX8_empties_13 : decode cX8_empties 13 = .ok (.istore_n 3, 1) := by decide +kernel
theorem dX8_empties_14 : decode cX8_empties 14 = .ok (.iload_n 3, 1) := by decide +kernel
theorem dX8_empties_15 : decode cX8_empties 15 = .ok (.aload_n 0, 1) := by decide +kernel
theorem dX8_empties_16 : decode cX8_empties 16 = .ok (.getfield 114, 3) := by decide +kernel
theorem dX8_empties_19 : decode cX8_empties 19 = .ok (.if_icmp .ge 101, 3) := by decide +kernel
theorem dX8_empties_22 : decode cX8_empties 22 = .ok (.aload_n 0, 1) := by decide +kernel
theorem dX8_empties_23 : decode cX8_empties 23 = .ok (.getfield 44, 3) := by decide +kernel
theorem dX8_empties_26 : decode cX8_empties 26 = .ok (.iload_n 3, 1) := by decide +kernel
theorem dX8_empties_27 : decode cX8_empties 27 = .ok (.iaload, 1) := by decide +kernel
theorem dX8_empties_28 : decode cX8_empties 28 = .ok (.iconst (-1), 1) := by decide +kernel
theorem dX8_empties_29 : decode cX8_empties 29 = .ok (.if_icmp .eq 16, 3) := by decide +kernel
theorem dX8_empties_32 : decode cX8_empties 32 = .ok (.aload_n 0, 1) := by decide +kernel
theorem dX8_empties_33 : decode cX8_empties 33 = .ok (.getfield 53, 3) := by decide +kernel
theorem dX8_empties_36 : decode cX8_empties 36 = .ok (.iload_n 3, 1) := by decide +kernel
theorem dX8_empties_37 : decode cX8_empties 37 = .ok (.iaload, 1) := by decide +kernel
theorem dX8_empties_38 : decode cX8_empties 38 = .ok (.ifCond .le 7, 3) := by decide +kernel
theorem dX8_empties_41 : decode cX8_empties 41 = .ok (.iconst 1, 1) := by decide +kernel
theorem dX8_empties_42 : decode cX8_empties 42 = .ok (.goto 4, 3) := by decide +kernel
theorem dX8_empties_45 : decode cX8_empties 45 = .ok (.iconst 0, 1) := by decide +kernel
theorem dX8_empties_46 : decode cX8_empties 46 = .ok (.istore 4, 2) := by decide +kernel
theorem dX8_empties_48 : decode cX8_empties 48 = .ok (.iload 4, 2) := by decide +kernel
theorem dX8_empties_50 : decode cX8_empties 50 = .ok (.ifCond .eq 64, 3) := by decide +kernel
theorem dX8_empties_53 : decode cX8_empties 53 = .ok (.iload_n 2, 1) := by decide +kernel
theorem dX8_empties_54 : decode cX8_empties 54 = .ok (.iconst (-1), 1) := by decide +kernel
theorem dX8_empties_55 : decode cX8_empties 55 = .ok (.if_icmp .eq 57, 3) := by decide +kernel
theorem dX8_empties_58 : decode cX8_empties 58 = .ok (.aload_n 0, 1) := by decide +kernel
theorem dX8_empties_59 : decode cX8_empties 59 = .ok (.getfield 139, 3) := by decide +kernel
theorem dX8_empties_62 : decode cX8_empties 62 = .ok (.ifCond .ne 21, 3) := by decide +kernel
theorem dX8_empties_65 : decode cX8_empties 65 = .ok (.aload_n 0, 1) := by decide +kernel
theorem dX8_empties_66 : decode cX8_empties 66 = .ok (.getfield 53, 3) := by decide +kernel
theorem dX8_empties_69 : decode cX8_empties 69 = .ok (.iload_n 3, 1) := by decide +kernel
theorem dX8_empties_70 : decode cX8_empties 70 = .ok (.iaload, 1) := by decide +kernel
theorem dX8_empties_71 : decode cX8_empties 71 = .ok (.aload_n 0, 1) := by decide +kernel
theorem dX8_empties_72 : decode cX8_empties 72 = .ok (.getfield 53, 3) := by decide +kernel
theorem dX8_empties_75 : decode cX8_empties 75 = .ok (.iload_n 2, 1) := by decide +kernel
theorem dX8_empties_76 : decode cX8_empties 76 = .ok (.iaload, 1) := by decide +kernel
theorem dX8_empties_77 : decode cX8_empties 77 = .ok (.if_icmp .le 37, 3) := by decide +kernel
theorem dX8_empties_80 : decode cX8_empties 80 = .ok (.goto 32, 3) := by decide +kernel
theorem dX8_empties_83 : decode cX8_empties 83 = .ok (.aload_n 0, 1) := by decide +kernel
theorem dX8_empties_84 : decode cX8_empties 84 = .ok (.getfield 41, 3) := by decide +kernel
theorem dX8_empties_87 : decode cX8_empties 87 = .ok (.iload_n 3, 1) := by decide +kernel
theorem dX8_empties_88 : decode cX8_empties 88 = .ok (.iaload, 1) := by decide +kernel
theorem dX8_empties_89 : decode cX8_empties 89 = .ok (.aload_n 0, 1) := by decide +kernel
theorem dX8_empties_90 : decode cX8_empties 90 = .ok (.getfield 53, 3) := by decide +kernel
theorem dX8_empties_93 : decode cX8_empties 93 = .ok (.iload_n 3, 1) := by decide +kernel
theorem dX8_empties_94 : decode cX8_empties 94 = .ok (.iaload, 1) := by decide +kernel
theorem dX8_empties_95 : decode cX8_empties 95 = .ok (.isub, 1) := by decide +kernel
theorem dX8_empties_96 : decode cX8_empties 96 = .ok (.aload_n 0, 1) := by decide +kernel
theorem dX8_empties_97 : decode cX8_empties 97 = .ok (.getfield 41, 3) := by decide +kernel
theorem dX8_empties_100 : decode cX8_empties 100 = .ok (.iload_n 2, 1) := by decide +kernel
theorem dX8_empties_101 : decode cX8_empties 101 = .ok (.iaload, 1) := by decide +kernel
theorem dX8_empties_102 : decode cX8_empties 102 = .ok (.aload_n 0, 1) := by decide +kernel
theorem dX8_empties_103 : decode cX8_empties 103 = .ok (.getfield 53, 3) := by decide +kernel
theorem dX8_empties_106 : decode cX8_empties 106 = .ok (.iload_n 2, 1) := by decide +kernel
theorem dX8_empties_107 : decode cX8_empties 107 = .ok (.iaload, 1) := by decide +kernel
theorem dX8_empties_108 : decode cX8_empties 108 = .ok (.isub, 1) := by decide +kernel
theorem dX8_empties_109 : decode cX8_empties 109 = .ok (.if_icmp .ge 5, 3) := by decide +kernel
theorem dX8_empties_112 : decode cX8_empties 112 = .ok (.iload_n 3, 1) := by decide +kernel
theorem dX8_empties_113 : decode cX8_empties 113 = .ok (.istore_n 2, 1) := by decide +kernel
theorem dX8_empties_114 : decode cX8_empties 114 = .ok (.iinc 3 1, 3) := by decide +kernel
theorem dX8_empties_117 : decode cX8_empties 117 = .ok (.goto (-103), 3) := by decide +kernel
theorem dX8_empties_120 : decode cX8_empties 120 = .ok (.iload_n 2, 1) := by decide +kernel
theorem dX8_empties_121 : decode cX8_empties 121 = .ok (.iconst (-1), 1) := by decide +kernel
theorem dX8_empties_122 : decode cX8_empties 122 = .ok (.if_icmp .eq 10, 3) := by decide +kernel
theorem dX8_empties_125 : decode cX8_empties 125 = .ok (.aload_n 0, 1) := by decide +kernel
theorem dX8_empties_126 : decode cX8_empties 126 = .ok (.getfield 53, 3) := by decide +kernel
theorem dX8_empties_129 : decode cX8_empties 129 = .ok (.iload_n 2, 1) := by decide +kernel
theorem dX8_empties_130 : decode cX8_empties 130 = .ok (.iconst 0, 1) := by decide +kernel
theorem dX8_empties_131 : decode cX8_empties 131 = .ok (.iastore, 1) := by decide +kernel
theorem dX8_empties_132 : decode cX8_empties 132 = .ok (.iinc 1 1, 3) := by decide +kernel
theorem dX8_empties_135 : decode cX8_empties 135 = .ok (.goto (-133), 3) := by decide +kernel
theorem dX8_empties_138 : decode cX8_empties 138 = .ok (.return_, 1) := by decide +kernel
theorem dX8_goes_0 : decode cX8_goes 0 = .ok (.iconst 0, 1) := by decide +kernel
theorem dX8_goes_1 : decode cX8_goes 1 = .ok (.istore_n 2, 1) := by decide +kernel
theorem dX8_goes_2 : decode cX8_goes 2 = .ok (.iload_n 2, 1) := by decide +kernel
theorem dX8_goes_3 : decode cX8_goes 3 = .ok (.aload_n 0, 1) := by decide +kernel
theorem dX8_goes_4 : decode cX8_goes 4 = .ok (.getfield 114, 3) := by decide +kernel
theorem dX8_goes_7 : decode cX8_goes 7 = .ok (.if_icmp .ge 21, 3) := by decide +kernel
theorem dX8_goes_10 : decode cX8_goes 10 = .ok (.aload_n 0, 1) := by decide +kernel
theorem dX8_goes_11 : decode cX8_goes 11 = .ok (.getfield 53, 3) := by decide +kernel
theorem dX8_goes_14 : decode cX8_goes 14 = .ok (.iload_n 2, 1) := by decide +kernel
theorem dX8_goes_15 : decode cX8_goes 15 = .ok (.aload_n 0, 1) := by decide +kernel
theorem dX8_goes_16 : decode cX8_goes 16 = .ok (.getfield 47, 3) := by decide +kernel
theorem dX8_goes_19 : decode cX8_goes 19 = .ok (.iload_n 2, 1) := by decide +kernel
theorem dX8_goes_20 : decode cX8_goes 20 = .ok (.iaload, 1) := by decide +kernel
theorem dX8_goes_21 : decode cX8_goes 21 = .ok (.iastore, 1) := by decide +kernel
theorem dX8_goes_22 : decode cX8_goes 22 = .ok (.iinc 2 1, 3) := by decide +kernel
theorem dX8_goes_25 : decode cX8_goes 25 = .ok (.goto (-23), 3) := by decide +kernel
theorem dX8_goes_28 : decode cX8_goes 28 = .ok (.aload_n 0, 1) := by decide +kernel
theorem dX8_goes_29 : decode cX8_goes 29 = .ok (.iconst 0, 1) := by decide +kernel
theorem dX8_goes_30 : decode cX8_goes 30 = .ok (.putfield 298, 3) := by decide +kernel
theorem dX8_goes_33 : decode cX8_goes 33 = .ok (.aload_n 0, 1) := by decide +kernel
theorem dX8_goes_34 : decode cX8_goes 34 = .ok (.iconst 0, 1) := by decide +kernel
theorem dX8_goes_35 : decode cX8_goes 35 = .ok (.putfield 301, 3) := by decide +kernel
theorem dX8_goes_38 : decode cX8_goes 38 = .ok (.aload_n 0, 1) := by decide +kernel
theorem dX8_goes_39 : decode cX8_goes 39 = .ok (.iconst 0, 1) := by decide +kernel
theorem dX8_goes_40 : decode cX8_goes 40 = .ok (.putfield 304, 3) := by decide +kernel
theorem dX8_goes_43 : decode cX8_goes 43 = .ok (.aload_n 0, 1) := by decide +kernel
theorem dX8_goes_44 : decode cX8_goes 44 = .ok (.iconst (-1), 1) := by decide +kernel
theorem dX8_goes_45 : decode cX8_goes 45 = .ok (.putfield 307, 3) := by decide +kernel
theorem dX8_goes_48 : decode cX8_goes 48 = .ok (.iconst 0, 1) := by decide +kernel
theorem dX8_goes_49 : decode cX8_goes 49 = .ok (.istore_n 2, 1) := by decide +kernel
theorem dX8_goes_50 : decode cX8_goes 50 = .ok (.iconst 0, 1) := by decide +kernel
theorem dX8_goes_51 : decode cX8_goes 51 = .ok (.istore_n 3, 1) := by decide +kernel
theorem dX8_goes_52 : decode cX8_goes 52 = .ok (.iload_n 3, 1) := by decide +kernel
theorem dX8_goes_53 : decode cX8_goes 53 = .ok (.iload_n 1, 1) := by decide +kernel
theorem dX8_goes_54 : decode cX8_goes 54 = .ok (.if_icmp .ge 250, 3) := by decide +kernel
theorem dX8_goes_57 : decode cX8_goes 57 = .ok (.aload_n 0, 1) := by decide +kernel
theorem dX8_goes_58 : decode cX8_goes 58 = .ok (.getfield 136, 3) := by decide +kernel
theorem dX8_goes_61 : decode cX8_goes 61 = .ok (.iload_n 3, 1) := by decide +kernel
theorem dX8_goes_62 : decode cX8_goes 62 = .ok (.ishr, 1) := by decide +kernel
theorem dX8_goes_63 : decode cX8_goes 63 = .ok (.iconst 1, 1) := by decide +kernel
theorem dX8_goes_64 : decode cX8_goes 64 = .ok (.iand, 1) := by decide +kernel
theorem dX8_goes_65 : decode cX8_goes 65 = .ok (.iconst 1, 1) := by decide +kernel
theorem dX8_goes_66 : decode cX8_goes 66 = .ok (.if_icmp .ne 28, 3) := by decide +kernel
theorem dX8_goes_69 : decode cX8_goes 69 = .ok (.aload_n 0, 1) := by decide +kernel
theorem dX8_goes_70 : decode cX8_goes 70 = .ok (.dup, 1) := by decide +kernel
theorem dX8_goes_71 : decode cX8_goes 71 = .ok (.getfield 301, 3) := by decide +kernel
theorem dX8_goes_74 : decode cX8_goes 74 = .ok (.aload_n 0, 1) := by decide +kernel
theorem dX8_goes_75 : decode cX8_goes 75 = .ok (.iconst 2, 1) := by decide +kernel
theorem dX8_goes_76 : decode cX8_goes 76 = .ok (.iload_n 3, 1) := by decide +kernel
theorem dX8_goes_77 : decode cX8_goes 77 = .ok (.iconst 0, 1) := by decide +kernel
theorem dX8_goes_78 : decode cX8_goes 78 = .ok (.iconst 0, 1) := by decide +kernel
theorem dX8_goes_79 : decode cX8_goes 79 = .ok (.iconst 0, 1) := by decide +kernel
theorem dX8_goes_80 : decode cX8_goes 80 = .ok (.iload_n 2, 1) := by decide +kernel
theorem dX8_goes_81 : decode cX8_goes 81 = .ok (.invokevirtual 281, 3) := by decide +kernel
theorem dX8_goes_84 : decode cX8_goes 84 = .ok (.iadd, 1) := by decide +kernel
theorem dX8_goes_85 : decode cX8_goes 85 = .ok (.putfield 301, 3) := by decide +kernel
theorem dX8_goes_88 : decode cX8_goes 88 = .ok (.aload_n 0, 1) := by decide +kernel
theorem dX8_goes_89 : decode cX8_goes 89 = .ok (.invokevirtual 310, 3) := by decide +kernel
theorem dX8_goes_92 : decode cX8_goes 92 = .ok (.iconst 0, 1) := by decide +kernel
theorem dX8_goes_93 : decode cX8_goes 93 = .ok (.istore_n 2, 1) := by decide +kernel
theorem dX8_goes_94 : decode cX8_goes 94 = .ok (.iconst 0, 1) := by decide +kernel
theorem dX8_goes_95 : decode cX8_goes 95 = .ok (.istore 4, 2) := by decide +kernel
theorem dX8_goes_97 : decode cX8_goes 97 = .ok (.iload 4, 2) := by decide +kernel
theorem dX8_goes_99 : decode cX8_goes 99 = .ok (.bipush 8, 2) := by decide +kernel
theorem dX8_goes_101 : decode cX8_goes 101 = .ok (.if_icmp .ge 158, 3) := by decide +kernel
theorem dX8_goes_104 : decode cX8_goes 104 = .ok (.aload_n 0, 1) := by decide +kernel
theorem dX8_goes_105 : decode cX8_goes 105 = .ok (.getfield 50, 3) := by decide +kernel
theorem dX8_goes_108 : decode cX8_goes 108 = .ok (.bipush 8, 2) := by decide +kernel
theorem dX8_goes_110 : decode cX8_goes 110 = .ok (.iload_n 3, 1) := by decide +kernel
theorem dX8_goes_111 : decode cX8_goes 111 = .ok (.imul, 1) := by decide +kernel
theorem dX8_goes_112 : decode cX8_goes 112 = .ok (.iload 4, 2) := by decide +kernel
theorem dX8_goes_114 : decode cX8_goes 114 = .ok (.iadd, 1) := by decide +kernel
theorem dX8_goes_115 : decode cX8_goes 115 = .ok (.iaload, 1) := by decide +kernel
theorem dX8_goes_116 : decode cX8_goes 116 = .ok (.istore 5, 2) := by decide +kernel
theorem dX8_goes_118 : decode cX8_goes 118 = .ok (.aload_n 0, 1) := by decide +kernel
theorem dX8_goes_119 : decode cX8_goes 119 = .ok (.iload 4, 2) := by decide +kernel
theorem dX8_goes_121 : decode cX8_goes 121 = .ok (.invokevirtual 150, 3) := by decide +kernel
theorem dX8_goes_124 : decode cX8_goes 124 = .ok (.istore 6, 2) := by decide +kernel
theorem dX8_goes_126 : decode cX8_goes 126 = .ok (.iload 6, 2) := by decide +kernel
theorem dX8_goes_128 : decode cX8_goes 128 = .ok (.iconst (-1), 1) := by decide +kernel
theorem dX8_goes_129 : decode cX8_goes 129 = .ok (.if_icmp .eq 55, 3) := by decide +kernel
theorem dX8_goes_132 : decode cX8_goes 132 = .ok (.aload_n 0, 1) := by decide +kernel
theorem dX8_goes_133 : decode cX8_goes 133 = .ok (.getfield 41, 3) := by decide +kernel
theorem dX8_goes_136 : decode cX8_goes 136 = .ok (.iload 6, 2) := by decide +kernel
theorem dX8_goes_138 : decode cX8_goes 138 = .ok (.iaload, 1) := by decide +kernel
theorem dX8_goes_139 : decode cX8_goes 139 = .ok (.aload_n 0, 1) := by decide +kernel
theorem dX8_goes_140 : decode cX8_goes 140 = .ok (.getfield 53, 3) := by decide +kernel
theorem dX8_goes_143 : decode cX8_goes 143 = .ok (.iload 6, 2) := by decide +kernel
theorem dX8_goes_145 : decode cX8_goes 145 = .ok (.iaload, 1) := by decide +kernel
theorem dX8_goes_146 : decode cX8_goes 146 = .ok (.isub, 1) := by decide +kernel
theorem dX8_goes_147 : decode cX8_goes 147 = .ok (.istore 7, 2) := by decide +kernel
theorem dX8_goes_149 : decode cX8_goes 149 = .ok (.iload 5, 2) := by decide +kernel
theorem dX8_goes_151 : decode cX8_goes 151 = .ok (.iload 7, 2) := by decide +kernel
theorem dX8_goes_153 : decode cX8_goes 153 = .ok (.if_icmp .ge 8, 3) := by decide +kernel
theorem dX8_goes_156 : decode cX8_goes 156 = .ok (.iload 5, 2) := by decide +kernel
theorem dX8_goes_158 : decode cX8_goes 158 = .ok (.goto 5, 3) := by decide +kernel
theorem dX8_goes_161 : decode cX8_goes 161 = .ok (.iload 7, 2) := by decide +kernel
theorem dX8_goes_163 : decode cX8_goes 163 = .ok (.istore 8, 2) := by decide +kernel
theorem dX8_goes_165 : decode cX8_goes 165 = .ok (.aload_n 0, 1) := by decide +kernel
theorem dX8_goes_166 : decode cX8_goes 166 = .ok (.getfield 53, 3) := by decide +kernel
theorem dX8_goes_169 : decode cX8_goes 169 = .ok (.iload 6, 2) := by decide +kernel
theorem dX8_goes_171 : decode cX8_goes 171 = .ok (.dup2, 1) := by decide +kernel
theorem dX8_goes_172 : decode cX8_goes 172 = .ok (.iaload, 1) := by decide +kernel
theorem dX8_goes_173 : decode cX8_goes 173 = .ok (.iload 8, 2) := by decide +kernel
theorem dX8_goes_175 : decode cX8_goes 175 = .ok (.iadd, 1) := by decide +kernel
theorem dX8_goes_176 : decode cX8_goes 176 = .ok (.iastore, 1) := by decide +kernel
theorem dX8_goes_177 : decode cX8_goes 177 = .ok (.iload 5, 2) := by decide +kernel
theorem dX8_goes_179 : decode cX8_goes 179 = .ok (.iload 8, 2) := by decide +kernel
theorem dX8_goes_181 : decode cX8_goes 181 = .ok (.isub, 1) := by decide +kernel
theorem dX8_goes_182 : decode cX8_goes 182 = .ok (.istore 5, 2) := by decide +kernel
theorem dX8_goes_184 : decode cX8_goes 184 = .ok (.aload_n 0, 1) := by decide +kernel
theorem dX8_goes_185 : decode cX8_goes 185 = .ok (.getfield 59, 3) := by decide +kernel
theorem dX8_goes_188 : decode cX8_goes 188 = .ok (.bipush 8, 2) := by decide +kernel
theorem dX8_goes_190 : decode cX8_goes 190 = .ok (.iload_n 3, 1) := by decide +kernel
theorem dX8_goes_191 : decode cX8_goes 191 = .ok (.imul, 1) := by decide +kernel
theorem dX8_goes_192 : decode cX8_goes 192 = .ok (.iload 4, 2) := by decide +kernel
theorem dX8_goes_194 : decode cX8_goes 194 = .ok (.iadd, 1) := by decide +kernel
theorem dX8_goes_195 : decode cX8_goes 195 = .ok (.iload 5, 2) := by decide +kernel
theorem dX8_goes_197 : decode cX8_goes 197 = .ok (.iastore, 1) := by decide +kernel
theorem dX8_goes_198 : decode cX8_goes 198 = .ok (.iload 5, 2) := by decide +kernel
theorem dX8_goes_200 : decode cX8_goes 200 = .ok (.ifCond .le 53, 3) := by decide +kernel
theorem dX8_goes_203 : decode cX8_goes 203 = .ok (.aload_n 0, 1) := by decide +kernel
theorem dX8_goes_204 : decode cX8_goes 204 = .ok (.dup, 1) := by decide +kernel
theorem dX8_goes_205 : decode cX8_goes 205 = .ok (.getfield 298, 3) := by decide +kernel
theorem dX8_goes_208 : decode cX8_goes 208 = .ok (.aload_n 0, 1) := by decide +kernel
theorem dX8_goes_209 : decode cX8_goes 209 = .ok (.iload_n 3, 1) := by decide +kernel
theorem dX8_goes_210 : decode cX8_goes 210 = .ok (.iload 4, 2) := by decide +kernel
theorem dX8_goes_212 : decode cX8_goes 212 = .ok (.iload 5, 2) := by decide +kernel
theorem dX8_goes_214 : decode cX8_goes 214 = .ok (.iload_n 2, 1) := by decide +kernel
theorem dX8_goes_215 : decode cX8_goes 215 = .ok (.invokevirtual 313, 3) := by decide +kernel
theorem dX8_goes_218 : decode cX8_goes 218 = .ok (.iadd, 1) := by decide +kernel
theorem dX8_goes_219 : decode cX8_goes 219 = .ok (.putfield 298, 3) := by decide +kernel
theorem dX8_goes_222 : decode cX8_goes 222 = .ok (.aload_n 0, 1) := by decide +kernel
theorem dX8_goes_223 : decode cX8_goes 223 = .ok (.dup, 1) := by decide +kernel
theorem dX8_goes_224 : decode cX8_goes 224 = .ok (.getfield 304, 3) := by decide +kernel
theorem dX8_goes_227 : decode cX8_goes 227 = .ok (.iload 5, 2) := by decide +kernel
theorem dX8_goes_229 : decode cX8_goes 229 = .ok (.iadd, 1) := by decide +kernel
theorem dX8_goes_230 : decode cX8_goes 230 = .ok (.putfield 304, 3) := by decide +kernel
theorem dX8_goes_233 : decode cX8_goes 233 = .ok (.aload_n 0, 1) := by decide +kernel
theorem dX8_goes_234 : decode cX8_goes 234 = .ok (.aload_n 0, 1) := by decide +kernel
theorem dX8_goes_235 : decode cX8_goes 235 = .ok (.getfield 307, 3) := by decide +kernel
theorem dX8_goes_238 : decode cX8_goes 238 = .ok (.iconst (-1), 1) := by decide +kernel
theorem dX8_goes_239 : decode cX8_goes 239 = .ok (.if_icmp .ne 7, 3) := by decide +kernel
theorem dX8_goes_242 : decode cX8_goes 242 = .ok (.iload_n 3, 1) := by decide +kernel
theorem dX8_goes_243 : decode cX8_goes 243 = .ok (.goto 7, 3) := by decide +kernel
theorem dX8_goes_246 : decode cX8_goes 246 = .ok (.aload_n 0, 1) := by decide +kernel
theorem dX8_goes_247 : decode cX8_goes 247 = .ok (.getfield 307, 3) := by decide +kernel
theorem dX8_goes_250 : decode cX8_goes 250 = .ok (.putfield 307, 3) := by decide +kernel
theorem dX8_goes_253 : decode cX8_goes 253 = .ok (.iinc 4 1, 3) := by decide +kernel
theorem dX8_goes_256 : decode cX8_goes 256 = .ok (.goto (-159), 3) := by decide +kernel
theorem dX8_goes_259 : decode cX8_goes 259 = .ok (.iconst 0, 1) := by decide +kernel
theorem dX8_goes_260 : decode cX8_goes 260 = .ok (.istore 4, 2) := by decide +kernel
theorem dX8_goes_262 : decode cX8_goes 262 = .ok (.iload 4, 2) := by decide +kernel
theorem dX8_goes_264 : decode cX8_goes 264 = .ok (.aload_n 0, 1) := by decide +kernel
theorem dX8_goes_265 : decode cX8_goes 265 = .ok (.getfield 114, 3) := by decide +kernel
theorem dX8_goes_268 : decode cX8_goes 268 = .ok (.if_icmp .ge 27, 3) := by decide +kernel
theorem dX8_goes_271 : decode cX8_goes 271 = .ok (.aload_n 0, 1) := by decide +kernel
theorem dX8_goes_272 : decode cX8_goes 272 = .ok (.getfield 56, 3) := by decide +kernel
theorem dX8_goes_275 : decode cX8_goes 275 = .ok (.iconst 5, 1) := by decide +kernel
theorem dX8_goes_276 : decode cX8_goes 276 = .ok (.iload_n 3, 1) := by decide +kernel
theorem dX8_goes_277 : decode cX8_goes 277 = .ok (.imul, 1) := by decide +kernel
theorem dX8_goes_278 : decode cX8_goes 278 = .ok (.iload 4, 2) := by decide +kernel
theorem dX8_goes_280 : decode cX8_goes 280 = .ok (.iadd, 1) := by decide +kernel
theorem dX8_goes_281 : decode cX8_goes 281 = .ok (.aload_n 0, 1) := by decide +kernel
theorem dX8_goes_282 : decode cX8_goes 282 = .ok (.getfield 53, 3) := by decide +kernel
theorem dX8_goes_285 : decode cX8_goes 285 = .ok (.iload 4, 2) := by decide +kernel
theorem dX8_goes_287 : decode cX8_goes 287 = .ok (.iaload, 1) := by decide +kernel
theorem dX8_goes_288 : decode cX8_goes 288 = .ok (.iastore, 1) := by decide +kernel
theorem dX8_goes_289 : decode cX8_goes 289 = .ok (.iinc 4 1, 3) := by decide +kernel
theorem dX8_goes_292 : decode cX8_goes 292 = .ok (.goto (-30), 3) := by decide +kernel
theorem dX8_goes_295 : decode cX8_goes 295 = .ok (.iinc 2 1, 3) := by decide +kernel
theorem dX8_goes_298 : decode cX8_goes 298 = .ok (.iinc 3 1, 3) := by decide +kernel
theorem dX8_goes_301 : decode cX8_goes 301 = .ok (.goto (-249), 3) := by decide +kernel
theorem dX8_goes_304 : decode cX8_goes 304 = .ok (.return_, 1) := by decide +kernel
theorem dX8_cost_0 : decode cX8_cost 0 = .ok (.aload_n 0, 1) := by decide +kernel
theorem dX8_cost_1 : decode cX8_cost 1 = .ok (.bipush 24, 2) := by decide +kernel
theorem dX8_cost_3 : decode cX8_cost 3 = .ok (.invokevirtual 317, 3) := by decide +kernel
theorem dX8_cost_6 : decode cX8_cost 6 = .ok (.aload_n 0, 1) := by decide +kernel
theorem dX8_cost_7 : decode cX8_cost 7 = .ok (.getfield 298, 3) := by decide +kernel
theorem dX8_cost_10 : decode cX8_cost 10 = .ok (.aload_n 0, 1) := by decide +kernel
theorem dX8_cost_11 : decode cX8_cost 11 = .ok (.getfield 301, 3) := by decide +kernel
theorem dX8_cost_14 : decode cX8_cost 14 = .ok (.iadd, 1) := by decide +kernel
theorem dX8_cost_15 : decode cX8_cost 15 = .ok (.ireturn, 1) := by decide +kernel
theorem dX8_costNow_0 : decode cX8_costNow 0 = .ok (.aload_n 0, 1) := by decide +kernel
theorem dX8_costNow_1 : decode cX8_costNow 1 = .ok (.aload_n 0, 1) := by decide +kernel
theorem dX8_costNow_2 : decode cX8_costNow 2 = .ok (.invokevirtual 321, 3) := by decide +kernel
theorem dX8_costNow_5 : decode cX8_costNow 5 = .ok (.invokevirtual 324, 3) := by decide +kernel
theorem dX8_costNow_8 : decode cX8_costNow 8 = .ok (.aload_n 0, 1) := by decide +kernel
theorem dX8_costNow_9 : decode cX8_costNow 9 = .ok (.invokevirtual 327, 3) := by decide +kernel
theorem dX8_costNow_12 : decode cX8_costNow 12 = .ok (.ireturn, 1) := by decide +kernel
theorem dX8_day_0 : decode cX8_day 0 = .ok (.iload_n 1, 1) := by decide +kernel
theorem dX8_day_1 : decode cX8_day 1 = .ok (.i2l, 1) := by decide +kernel
theorem dX8_day_2 : decode cX8_day 2 = .ok (.lconst 0, 1) := by decide +kernel
theorem dX8_day_3 : decode cX8_day 3 = .ok (.ldc2_w 132, 3) := by decide +kernel
theorem dX8_day_6 : decode cX8_day 6 = .ok (.invokestatic 110, 3) := by decide +kernel
theorem dX8_day_9 : decode cX8_day 9 = .ok (.ifCond .ne 6, 3) := by decide +kernel
theorem dX8_day_12 : decode cX8_day 12 = .ok (.bipush (-2), 2) := by decide +kernel
theorem dX8_day_14 : decode cX8_day 14 = .ok (.ireturn, 1) := by decide +kernel
theorem dX8_day_15 : decode cX8_day 15 = .ok (.aload_n 0, 1) := by decide +kernel
theorem dX8_day_16 : decode cX8_day 16 = .ok (.invokevirtual 330, 3) := by decide +kernel
theorem dX8_day_19 : decode cX8_day 19 = .ok (.istore_n 2, 1) := by decide +kernel
theorem dX8_day_20 : decode cX8_day 20 = .ok (.iload_n 1, 1) := by decide +kernel
theorem dX8_day_21 : decode cX8_day 21 = .ok (.iconst 3, 1) := by decide +kernel
theorem dX8_day_22 : decode cX8_day 22 = .ok (.if_icmp .ge 28, 3) := by decide +kernel
theorem dX8_day_25 : decode cX8_day 25 = .ok (.iload_n 1, 1) := by decide +kernel
theorem dX8_day_26 : decode cX8_day 26 = .ok (.ifCond .ne 10, 3) := by decide +kernel
theorem dX8_day_29 : decode cX8_day 29 = .ok (.aload_n 0, 1) := by decide +kernel
theorem dX8_day_30 : decode cX8_day 30 = .ok (.getfield 298, 3) := by decide +kernel
theorem dX8_day_33 : decode cX8_day 33 = .ok (.goto 16, 3) := by decide +kernel
theorem dX8_day_36 : decode cX8_day 36 = .ok (.iload_n 1, 1) := by decide +kernel
theorem dX8_day_37 : decode cX8_day 37 = .ok (.iconst 1, 1) := by decide +kernel
theorem dX8_day_38 : decode cX8_day 38 = .ok (.if_icmp .ne 10, 3) := by decide +kernel
theorem dX8_day_41 : decode cX8_day 41 = .ok (.aload_n 0, 1) := by decide +kernel
theorem dX8_day_42 : decode cX8_day 42 = .ok (.getfield 301, 3) := by decide +kernel
theorem dX8_day_45 : decode cX8_day 45 = .ok (.goto 4, 3) := by decide +kernel
theorem dX8_day_48 : decode cX8_day 48 = .ok (.iload_n 2, 1) := by decide +kernel
theorem dX8_day_49 : decode cX8_day 49 = .ok (.ireturn, 1) := by decide +kernel
theorem dX8_day_50 : decode cX8_day 50 = .ok (.iload_n 1, 1) := by decide +kernel
theorem dX8_day_51 : decode cX8_day 51 = .ok (.iconst 5, 1) := by decide +kernel
theorem dX8_day_52 : decode cX8_day 52 = .ok (.if_icmp .ge 20, 3) := by decide +kernel
theorem dX8_day_55 : decode cX8_day 55 = .ok (.iload_n 1, 1) := by decide +kernel
theorem dX8_day_56 : decode cX8_day 56 = .ok (.iconst 3, 1) := by decide +kernel
theorem dX8_day_57 : decode cX8_day 57 = .ok (.if_icmp .ne 10, 3) := by decide +kernel
theorem dX8_day_60 : decode cX8_day 60 = .ok (.aload_n 0, 1) := by decide +kernel
theorem dX8_day_61 : decode cX8_day 61 = .ok (.getfield 304, 3) := by decide +kernel
theorem dX8_day_64 : decode cX8_day 64 = .ok (.goto 7, 3) := by decide +kernel
theorem dX8_day_67 : decode cX8_day 67 = .ok (.aload_n 0, 1) := by decide +kernel
theorem dX8_day_68 : decode cX8_day 68 = .ok (.getfield 307, 3) := by decide +kernel
theorem dX8_day_71 : decode cX8_day 71 = .ok (.ireturn, 1) := by decide +kernel
theorem dX8_day_72 : decode cX8_day 72 = .ok (.iconst 0, 1) := by decide +kernel
theorem dX8_day_73 : decode cX8_day 73 = .ok (.istore_n 3, 1) := by decide +kernel
theorem dX8_day_74 : decode cX8_day 74 = .ok (.iconst 0, 1) := by decide +kernel
theorem dX8_day_75 : decode cX8_day 75 = .ok (.istore 4, 2) := by decide +kernel
theorem dX8_day_77 : decode cX8_day 77 = .ok (.iload 4, 2) := by decide +kernel
theorem dX8_day_79 : decode cX8_day 79 = .ok (.sipush 192, 3) := by decide +kernel
theorem dX8_day_82 : decode cX8_day 82 = .ok (.if_icmp .ge 19, 3) := by decide +kernel
theorem dX8_day_85 : decode cX8_day 85 = .ok (.iload_n 3, 1) := by decide +kernel
theorem dX8_day_86 : decode cX8_day 86 = .ok (.aload_n 0, 1) := by decide +kernel
theorem dX8_day_87 : decode cX8_day 87 = .ok (.getfield 50, 3) := by decide +kernel
theorem dX8_day_90 : decode cX8_day 90 = .ok (.iload 4, 2) := by decide +kernel
theorem dX8_day_92 : decode cX8_day 92 = .ok (.iaload, 1) := by decide +kernel
theorem dX8_day_93 : decode cX8_day 93 = .ok (.iadd, 1) := by decide +kernel
theorem dX8_day_94 : decode cX8_day 94 = .ok (.istore_n 3, 1) := by decide +kernel
theorem dX8_day_95 : decode cX8_day 95 = .ok (.iinc 4 1, 3) := by decide +kernel
theorem dX8_day_98 : decode cX8_day 98 = .ok (.goto (-21), 3) := by decide +kernel
theorem dX8_day_101 : decode cX8_day 101 = .ok (.iload_n 3, 1) := by decide +kernel
theorem dX8_day_102 : decode cX8_day 102 = .ok (.ireturn, 1) := by decide +kernel
theorem dX8_water_0 : decode cX8_water 0 = .ok (.iload_n 3, 1) := by decide +kernel
theorem dX8_water_1 : decode cX8_water 1 = .ok (.i2l, 1) := by decide +kernel
theorem dX8_water_2 : decode cX8_water 2 = .ok (.lconst 0, 1) := by decide +kernel
theorem dX8_water_3 : decode cX8_water 3 = .ok (.lconst 1, 1) := by decide +kernel
theorem dX8_water_4 : decode cX8_water 4 = .ok (.invokestatic 110, 3) := by decide +kernel
theorem dX8_water_7 : decode cX8_water 7 = .ok (.ifCond .eq 32, 3) := by decide +kernel
theorem dX8_water_10 : decode cX8_water 10 = .ok (.iload_n 2, 1) := by decide +kernel
theorem dX8_water_11 : decode cX8_water 11 = .ok (.invokestatic 123, 3) := by decide +kernel
theorem dX8_water_14 : decode cX8_water 14 = .ok (.ifCond .eq 25, 3) := by decide +kernel
theorem dX8_water_17 : decode cX8_water 17 = .ok (.iload_n 3, 1) := by decide +kernel
theorem dX8_water_18 : decode cX8_water 18 = .ok (.ifCond .ne 14, 3) := by decide +kernel
theorem dX8_water_21 : decode cX8_water 21 = .ok (.aload_n 0, 1) := by decide +kernel
theorem dX8_water_22 : decode cX8_water 22 = .ok (.iload_n 1, 1) := by decide +kernel
theorem dX8_water_23 : decode cX8_water 23 = .ok (.invokevirtual 147, 3) := by decide +kernel
theorem dX8_water_26 : decode cX8_water 26 = .ok (.ifCond .eq 13, 3) := by decide +kernel
theorem dX8_water_29 : decode cX8_water 29 = .ok (.goto 13, 3) := by decide +kernel
theorem dX8_water_32 : decode cX8_water 32 = .ok (.iload_n 1, 1) := by decide +kernel
theorem dX8_water_33 : decode cX8_water 33 = .ok (.invokestatic 144, 3) := by decide +kernel
theorem dX8_water_36 : decode cX8_water 36 = .ok (.ifCond .ne 6, 3) := by decide +kernel
theorem dX8_water_39 : decode cX8_water 39 = .ok (.bipush (-2), 2) := by decide +kernel
theorem dX8_water_41 : decode cX8_water 41 = .ok (.ireturn, 1) := by decide +kernel
theorem dX8_water_42 : decode cX8_water 42 = .ok (.aload_n 0, 1) := by decide +kernel
theorem dX8_water_43 : decode cX8_water 43 = .ok (.invokevirtual 330, 3) := by decide +kernel
theorem dX8_water_46 : decode cX8_water 46 = .ok (.pop, 1) := by decide +kernel
theorem dX8_water_47 : decode cX8_water 47 = .ok (.iload_n 3, 1) := by decide +kernel
theorem dX8_water_48 : decode cX8_water 48 = .ok (.ifCond .ne 16, 3) := by decide +kernel
theorem dX8_water_51 : decode cX8_water 51 = .ok (.aload_n 0, 1) := by decide +kernel
theorem dX8_water_52 : decode cX8_water 52 = .ok (.getfield 56, 3) := by decide +kernel
theorem dX8_water_55 : decode cX8_water 55 = .ok (.iconst 5, 1) := by decide +kernel
theorem dX8_water_56 : decode cX8_water 56 = .ok (.iload_n 2, 1) := by decide +kernel
theorem dX8_water_57 : decode cX8_water 57 = .ok (.imul, 1) := by decide +kernel
theorem dX8_water_58 : decode cX8_water 58 = .ok (.iload_n 1, 1) := by decide +kernel
theorem dX8_water_59 : decode cX8_water 59 = .ok (.iadd, 1) := by decide +kernel
theorem dX8_water_60 : decode cX8_water 60 = .ok (.iaload, 1) := by decide +kernel
theorem dX8_water_61 : decode cX8_water 61 = .ok (.goto 14, 3) := by decide +kernel
theorem dX8_water_64 : decode cX8_water 64 = .ok (.aload_n 0, 1) := by decide +kernel
theorem dX8_water_65 : decode cX8_water 65 = .ok (.getfield 59, 3) := by decide +kernel
theorem dX8_water_68 : decode cX8_water 68 = .ok (.bipush 8, 2) := by decide +kernel
theorem dX8_water_70 : decode cX8_water 70 = .ok (.iload_n 2, 1) := by decide +kernel
theorem dX8_water_71 : decode cX8_water 71 = .ok (.imul, 1) := by decide +kernel
theorem dX8_water_72 : decode cX8_water 72 = .ok (.iload_n 1, 1) := by decide +kernel
theorem dX8_water_73 : decode cX8_water 73 = .ok (.iadd, 1) := by decide +kernel
theorem dX8_water_74 : decode cX8_water 74 = .ok (.iaload, 1) := by decide +kernel
theorem dX8_water_75 : decode cX8_water 75 = .ok (.ireturn, 1) := by decide +kernel
theorem dX8_pass_0 : decode cX8_pass 0 = .ok (.iload_n 1, 1) := by decide +kernel
theorem dX8_pass_1 : decode cX8_pass 1 = .ok (.i2l, 1) := by decide +kernel
theorem dX8_pass_2 : decode cX8_pass 2 = .ok (.lconst 0, 1) := by decide +kernel
theorem dX8_pass_3 : decode cX8_pass 3 = .ok (.ldc2_w 333, 3) := by decide +kernel
theorem dX8_pass_6 : decode cX8_pass 6 = .ok (.invokestatic 110, 3) := by decide +kernel
theorem dX8_pass_9 : decode cX8_pass 9 = .ok (.ifCond .ne 6, 3) := by decide +kernel
theorem dX8_pass_12 : decode cX8_pass 12 = .ok (.bipush (-2), 2) := by decide +kernel
theorem dX8_pass_14 : decode cX8_pass 14 = .ok (.ireturn, 1) := by decide +kernel
theorem dX8_pass_15 : decode cX8_pass 15 = .ok (.aload_n 0, 1) := by decide +kernel
theorem dX8_pass_16 : decode cX8_pass 16 = .ok (.aload_n 0, 1) := by decide +kernel
theorem dX8_pass_17 : decode cX8_pass 17 = .ok (.invokevirtual 321, 3) := by decide +kernel
theorem dX8_pass_20 : decode cX8_pass 20 = .ok (.invokevirtual 324, 3) := by decide +kernel
theorem dX8_pass_23 : decode cX8_pass 23 = .ok (.aload_n 0, 1) := by decide +kernel
theorem dX8_pass_24 : decode cX8_pass 24 = .ok (.iload_n 1, 1) := by decide +kernel
theorem dX8_pass_25 : decode cX8_pass 25 = .ok (.invokevirtual 317, 3) := by decide +kernel
theorem dX8_pass_28 : decode cX8_pass 28 = .ok (.iconst 0, 1) := by decide +kernel
theorem dX8_pass_29 : decode cX8_pass 29 = .ok (.istore_n 2, 1) := by decide +kernel
theorem dX8_pass_30 : decode cX8_pass 30 = .ok (.iload_n 2, 1) := by decide +kernel
theorem dX8_pass_31 : decode cX8_pass 31 = .ok (.aload_n 0, 1) := by decide +kernel
theorem dX8_pass_32 : decode cX8_pass 32 = .ok (.getfield 114, 3) := by decide +kernel
theorem dX8_pass_35 : decode cX8_pass 35 = .ok (.if_icmp .ge 21, 3) := by decide +kernel
theorem dX8_pass_38 : decode cX8_pass 38 = .ok (.aload_n 0, 1) := by decide +kernel
theorem dX8_pass_39 : decode cX8_pass 39 = .ok (.getfield 47, 3) := by decide +kernel
theorem dX8_pass_42 : decode cX8_pass 42 = .ok (.iload_n 2, 1) := by decide +kernel
theorem dX8_pass_43 : decode cX8_pass 43 = .ok (.aload_n 0, 1) := by decide +kernel
theorem dX8_pass_44 : decode cX8_pass 44 = .ok (.getfield 53, 3) := by decide +kernel
theorem dX8_pass_47 : decode cX8_pass 47 = .ok (.iload_n 2, 1) := by decide +kernel
theorem dX8_pass_48 : decode cX8_pass 48 = .ok (.iaload, 1) := by decide +kernel
theorem dX8_pass_49 : decode cX8_pass 49 = .ok (.iastore, 1) := by decide +kernel
theorem dX8_pass_50 : decode cX8_pass 50 = .ok (.iinc 2 1, 3) := by decide +kernel
theorem dX8_pass_53 : decode cX8_pass 53 = .ok (.goto (-23), 3) := by decide +kernel
theorem dX8_pass_56 : decode cX8_pass 56 = .ok (.aload_n 0, 1) := by decide +kernel
theorem dX8_pass_57 : decode cX8_pass 57 = .ok (.getfield 298, 3) := by decide +kernel
theorem dX8_pass_60 : decode cX8_pass 60 = .ok (.aload_n 0, 1) := by decide +kernel
theorem dX8_pass_61 : decode cX8_pass 61 = .ok (.getfield 301, 3) := by decide +kernel
theorem dX8_pass_64 : decode cX8_pass 64 = .ok (.iadd, 1) := by decide +kernel
theorem dX8_pass_65 : decode cX8_pass 65 = .ok (.ireturn, 1) := by decide +kernel
theorem dX8_puts_0 : decode cX8_puts 0 = .ok (.iload_n 1, 1) := by decide +kernel
theorem dX8_puts_1 : decode cX8_puts 1 = .ok (.aload_n 0, 1) := by decide +kernel
theorem dX8_puts_2 : decode cX8_puts 2 = .ok (.getfield 114, 3) := by decide +kernel
theorem dX8_puts_5 : decode cX8_puts 5 = .ok (.if_icmp .ne 66, 3) := by decide +kernel
theorem dX8_puts_8 : decode cX8_puts 8 = .ok (.aload_n 0, 1) := by decide +kernel
theorem dX8_puts_9 : decode cX8_puts 9 = .ok (.invokevirtual 327, 3) := by decide +kernel
theorem dX8_puts_12 : decode cX8_puts 12 = .ok (.istore_n 3, 1) := by decide +kernel
theorem dX8_puts_13 : decode cX8_puts 13 = .ok (.aload_n 0, 1) := by decide +kernel
theorem dX8_puts_14 : decode cX8_puts 14 = .ok (.getfield 335, 3) := by decide +kernel
theorem dX8_puts_17 : decode cX8_puts 17 = .ok (.ifCond .eq 11, 3) := by decide +kernel
theorem dX8_puts_20 : decode cX8_puts 20 = .ok (.iload_n 3, 1) := by decide +kernel
theorem dX8_puts_21 : decode cX8_puts 21 = .ok (.aload_n 0, 1) := by decide +kernel
theorem dX8_puts_22 : decode cX8_puts 22 = .ok (.getfield 338, 3) := by decide +kernel
theorem dX8_puts_25 : decode cX8_puts 25 = .ok (.if_icmp .ge 45, 3) := by decide +kernel
theorem dX8_puts_28 : decode cX8_puts 28 = .ok (.aload_n 0, 1) := by decide +kernel
theorem dX8_puts_29 : decode cX8_puts 29 = .ok (.iconst 1, 1) := by decide +kernel
theorem dX8_puts_30 : decode cX8_puts 30 = .ok (.putfield 335, 3) := by decide +kernel
theorem dX8_puts_33 : decode cX8_puts 33 = .ok (.aload_n 0, 1) := by decide +kernel
theorem dX8_puts_34 : decode cX8_puts 34 = .ok (.iload_n 3, 1) := by decide +kernel
theorem dX8_puts_35 : decode cX8_puts 35 = .ok (.putfield 338, 3) := by decide +kernel
theorem dX8_puts_38 : decode cX8_puts 38 = .ok (.iconst 0, 1) := by decide +kernel
theorem dX8_puts_39 : decode cX8_puts 39 = .ok (.istore 4, 2) := by decide +kernel
theorem dX8_puts_41 : decode cX8_puts 41 = .ok (.iload 4, 2) := by decide +kernel
theorem dX8_puts_43 : decode cX8_puts 43 = .ok (.aload_n 0, 1) := by decide +kernel
theorem dX8_puts_44 : decode cX8_puts 44 = .ok (.getfield 114, 3) := by decide +kernel
theorem dX8_puts_47 : decode cX8_puts 47 = .ok (.if_icmp .ge 23, 3) := by decide +kernel
theorem dX8_puts_50 : decode cX8_puts 50 = .ok (.aload_n 0, 1) := by decide +kernel
theorem dX8_puts_51 : decode cX8_puts 51 = .ok (.getfield 66, 3) := by decide +kernel
theorem dX8_puts_54 : decode cX8_puts 54 = .ok (.iload 4, 2) := by decide +kernel
theorem dX8_puts_56 : decode cX8_puts 56 = .ok (.aload_n 0, 1) := by decide +kernel
theorem dX8_puts_57 : decode cX8_puts 57 = .ok (.getfield 44, 3) := by decide +kernel
theorem dX8_puts_60 : decode cX8_puts 60 = .ok (.iload 4, 2) := by decide +kernel
theorem dX8_puts_62 : decode cX8_puts 62 = .ok (.iaload, 1) := by decide +kernel
theorem dX8_puts_63 : decode cX8_puts 63 = .ok (.iastore, 1) := by decide +kernel
theorem dX8_puts_64 : decode cX8_puts 64 = .ok (.iinc 4 1, 3) := by decide +kernel
theorem dX8_puts_67 : decode cX8_puts 67 = .ok (.goto (-26), 3) := by decide +kernel
theorem dX8_puts_70 : decode cX8_puts 70 = .ok (.return_, 1) := by decide +kernel
theorem dX8_puts_71 : decode cX8_puts 71 = .ok (.iconst 0, 1) := by decide +kernel
theorem dX8_puts_72 : decode cX8_puts 72 = .ok (.istore_n 3, 1) := by decide +kernel
theorem dX8_puts_73 : decode cX8_puts 73 = .ok (.iload_n 3, 1) := by decide +kernel
theorem dX8_puts_74 : decode cX8_puts 74 = .ok (.bipush 8, 2) := by decide +kernel
theorem dX8_puts_76 : decode cX8_puts 76 = .ok (.if_icmp .ge 36, 3) := by decide +kernel
theorem dX8_puts_79 : decode cX8_puts 79 = .ok (.iload_n 2, 1) := by decide +kernel
theorem dX8_puts_80 : decode cX8_puts 80 = .ok (.iload_n 3, 1) := by decide +kernel
theorem dX8_puts_81 : decode cX8_puts 81 = .ok (.ishr, 1) := by decide +kernel
theorem dX8_puts_82 : decode cX8_puts 82 = .ok (.iconst 1, 1) := by decide +kernel
theorem dX8_puts_83 : decode cX8_puts 83 = .ok (.iand, 1) := by decide +kernel
theorem dX8_puts_84 : decode cX8_puts 84 = .ok (.ifCond .ne 22, 3) := by decide +kernel
theorem dX8_puts_87 : decode cX8_puts 87 = .ok (.aload_n 0, 1) := by decide +kernel
theorem dX8_puts_88 : decode cX8_puts 88 = .ok (.getfield 44, 3) := by decide +kernel
theorem dX8_puts_91 : decode cX8_puts 91 = .ok (.iload_n 1, 1) := by decide +kernel
theorem dX8_puts_92 : decode cX8_puts 92 = .ok (.iload_n 3, 1) := by decide +kernel
theorem dX8_puts_93 : decode cX8_puts 93 = .ok (.iastore, 1) := by decide +kernel
theorem dX8_puts_94 : decode cX8_puts 94 = .ok (.aload_n 0, 1) := by decide +kernel
theorem dX8_puts_95 : decode cX8_puts 95 = .ok (.iload_n 1, 1) := by decide +kernel
theorem dX8_puts_96 : decode cX8_puts 96 = .ok (.iconst 1, 1) := by decide +kernel
theorem dX8_puts_97 : decode cX8_puts 97 = .ok (.iadd, 1) := by decide +kernel
theorem dX8_puts_98 : decode cX8_puts 98 = .ok (.iload_n 2, 1) := by decide +kernel
theorem dX8_puts_99 : decode cX8_puts 99 = .ok (.iconst 1, 1) := by decide +kernel
theorem dX8_puts_100 : decode cX8_puts 100 = .ok (.iload_n 3, 1) := by decide +kernel
theorem dX8_puts_101 : decode cX8_puts 101 = .ok (.ishl, 1) := by decide +kernel
theorem dX8_puts_102 : decode cX8_puts 102 = .ok (.ior, 1) := by decide +kernel
theorem dX8_puts_103 : decode cX8_puts 103 = .ok (.invokevirtual 341, 3) := by decide +kernel
theorem dX8_puts_106 : decode cX8_puts 106 = .ok (.iinc 3 1, 3) := by decide +kernel
theorem dX8_puts_109 : decode cX8_puts 109 = .ok (.goto (-36), 3) := by decide +kernel
theorem dX8_puts_112 : decode cX8_puts 112 = .ok (.return_, 1) := by decide +kernel
theorem dX8_stand_0 : decode cX8_stand 0 = .ok (.iload_n 1, 1) := by decide +kernel
theorem dX8_stand_1 : decode cX8_stand 1 = .ok (.iconst (-1), 1) := by decide +kernel
theorem dX8_stand_2 : decode cX8_stand 2 = .ok (.if_icmp .eq 14, 3) := by decide +kernel
theorem dX8_stand_5 : decode cX8_stand 5 = .ok (.aload_n 0, 1) := by decide +kernel
theorem dX8_stand_6 : decode cX8_stand 6 = .ok (.iload_n 1, 1) := by decide +kernel
theorem dX8_stand_7 : decode cX8_stand 7 = .ok (.invokevirtual 147, 3) := by decide +kernel
theorem dX8_stand_10 : decode cX8_stand 10 = .ok (.ifCond .ne 6, 3) := by decide +kernel
theorem dX8_stand_13 : decode cX8_stand 13 = .ok (.bipush (-2), 2) := by decide +kernel
theorem dX8_stand_15 : decode cX8_stand 15 = .ok (.ireturn, 1) := by decide +kernel
theorem dX8_stand_16 : decode cX8_stand 16 = .ok (.iconst 0, 1) := by decide +kernel
theorem dX8_stand_17 : decode cX8_stand 17 = .ok (.istore_n 2, 1) := by decide +kernel
theorem dX8_stand_18 : decode cX8_stand 18 = .ok (.iload_n 2, 1) := by decide +kernel
theorem dX8_stand_19 : decode cX8_stand 19 = .ok (.iconst 5, 1) := by decide +kernel
theorem dX8_stand_20 : decode cX8_stand 20 = .ok (.if_icmp .ge 21, 3) := by decide +kernel
theorem dX8_stand_23 : decode cX8_stand 23 = .ok (.aload_n 0, 1) := by decide +kernel
theorem dX8_stand_24 : decode cX8_stand 24 = .ok (.getfield 69, 3) := by decide +kernel
theorem dX8_stand_27 : decode cX8_stand 27 = .ok (.iload_n 2, 1) := by decide +kernel
theorem dX8_stand_28 : decode cX8_stand 28 = .ok (.aload_n 0, 1) := by decide +kernel
theorem dX8_stand_29 : decode cX8_stand 29 = .ok (.getfield 44, 3) := by decide +kernel
theorem dX8_stand_32 : decode cX8_stand 32 = .ok (.iload_n 2, 1) := by decide +kernel
theorem dX8_stand_33 : decode cX8_stand 33 = .ok (.iaload, 1) := by decide +kernel
theorem dX8_stand_34 : decode cX8_stand 34 = .ok (.iastore, 1) := by decide +kernel
theorem dX8_stand_35 : decode cX8_stand 35 = .ok (.iinc 2 1, 3) := by decide +kernel
theorem dX8_stand_38 : decode cX8_stand 38 = .ok (.goto (-20), 3) := by decide +kernel
theorem dX8_stand_41 : decode cX8_stand 41 = .ok (.iconst 0, 1) := by decide +kernel
theorem dX8_stand_42 : decode cX8_stand 42 = .ok (.istore_n 2, 1) := by decide +kernel
theorem dX8_stand_43 : decode cX8_stand 43 = .ok (.iload_n 2, 1) := by decide +kernel
theorem dX8_stand_44 : decode cX8_stand 44 = .ok (.ldc 62, 2) := by decide +kernel
theorem dX8_stand_46 : decode cX8_stand 46 = .ok (.if_icmp .ge 16, 3) := by decide +kernel
theorem dX8_stand_49 : decode cX8_stand 49 = .ok (.aload_n 0, 1) := by decide +kernel
theorem dX8_stand_50 : decode cX8_stand 50 = .ok (.getfield 63, 3) := by decide +kernel
theorem dX8_stand_53 : decode cX8_stand 53 = .ok (.iload_n 2, 1) := by decide +kernel
theorem dX8_stand_54 : decode cX8_stand 54 = .ok (.iconst (-1), 1) := by decide +kernel
theorem dX8_stand_55 : decode cX8_stand 55 = .ok (.iastore, 1) := by decide +kernel
theorem dX8_stand_56 : decode cX8_stand 56 = .ok (.iinc 2 1, 3) := by decide +kernel
theorem dX8_stand_59 : decode cX8_stand 59 = .ok (.goto (-16), 3) := by decide +kernel
theorem dX8_stand_62 : decode cX8_stand 62 = .ok (.aload_n 0, 1) := by decide +kernel
theorem dX8_stand_63 : decode cX8_stand 63 = .ok (.iconst 1, 1) := by decide +kernel
theorem dX8_stand_64 : decode cX8_stand 64 = .ok (.putfield 295, 3) := by decide +kernel
theorem dX8_stand_67 : decode cX8_stand 67 = .ok (.aload_n 0, 1) := by decide +kernel
theorem dX8_stand_68 : decode cX8_stand 68 = .ok (.iconst 0, 1) := by decide +kernel
theorem dX8_stand_69 : decode cX8_stand 69 = .ok (.putfield 335, 3) := by decide +kernel
theorem dX8_stand_72 : decode cX8_stand 72 = .ok (.aload_n 0, 1) := by decide +kernel
theorem dX8_stand_73 : decode cX8_stand 73 = .ok (.aload_n 0, 1) := by decide +kernel
theorem dX8_stand_74 : decode cX8_stand 74 = .ok (.invokevirtual 321, 3) := by decide +kernel
theorem dX8_stand_77 : decode cX8_stand 77 = .ok (.invokevirtual 324, 3) := by decide +kernel
theorem dX8_stand_80 : decode cX8_stand 80 = .ok (.iconst 0, 1) := by decide +kernel
theorem dX8_stand_81 : decode cX8_stand 81 = .ok (.istore_n 2, 1) := by decide +kernel
theorem dX8_stand_82 : decode cX8_stand 82 = .ok (.iload_n 2, 1) := by decide +kernel
theorem dX8_stand_83 : decode cX8_stand 83 = .ok (.aload_n 0, 1) := by decide +kernel
theorem dX8_stand_84 : decode cX8_stand 84 = .ok (.getfield 114, 3) := by decide +kernel
theorem dX8_stand_87 : decode cX8_stand 87 = .ok (.if_icmp .ge 16, 3) := by decide +kernel
theorem dX8_stand_90 : decode cX8_stand 90 = .ok (.aload_n 0, 1) := by decide +kernel
theorem dX8_stand_91 : decode cX8_stand 91 = .ok (.getfield 44, 3) := by decide +kernel
theorem dX8_stand_94 : decode cX8_stand 94 = .ok (.iload_n 2, 1) := by decide +kernel
theorem dX8_stand_95 : decode cX8_stand 95 = .ok (.iconst (-1), 1) := by decide +kernel
theorem dX8_stand_96 : decode cX8_stand 96 = .ok (.iastore, 1) := by decide +kernel
theorem dX8_stand_97 : decode cX8_stand 97 = .ok (.iinc 2 1, 3) := by decide +kernel
theorem dX8_stand_100 : decode cX8_stand 100 = .ok (.goto (-18), 3) := by decide +kernel
theorem dX8_stand_103 : decode cX8_stand 103 = .ok (.aload_n 0, 1) := by decide +kernel
theorem dX8_stand_104 : decode cX8_stand 104 = .ok (.iconst 0, 1) := by decide +kernel
theorem dX8_stand_105 : decode cX8_stand 105 = .ok (.iconst 0, 1) := by decide +kernel
theorem dX8_stand_106 : decode cX8_stand 106 = .ok (.invokevirtual 341, 3) := by decide +kernel
theorem dX8_stand_109 : decode cX8_stand 109 = .ok (.aload_n 0, 1) := by decide +kernel
theorem dX8_stand_110 : decode cX8_stand 110 = .ok (.iconst 0, 1) := by decide +kernel
theorem dX8_stand_111 : decode cX8_stand 111 = .ok (.putfield 295, 3) := by decide +kernel
theorem dX8_stand_114 : decode cX8_stand 114 = .ok (.iconst 0, 1) := by decide +kernel
theorem dX8_stand_115 : decode cX8_stand 115 = .ok (.istore_n 2, 1) := by decide +kernel
theorem dX8_stand_116 : decode cX8_stand 116 = .ok (.iload_n 2, 1) := by decide +kernel
theorem dX8_stand_117 : decode cX8_stand 117 = .ok (.iconst 5, 1) := by decide +kernel
theorem dX8_stand_118 : decode cX8_stand 118 = .ok (.if_icmp .ge 21, 3) := by decide +kernel
theorem dX8_stand_121 : decode cX8_stand 121 = .ok (.aload_n 0, 1) := by decide +kernel
theorem dX8_stand_122 : decode cX8_stand 122 = .ok (.getfield 44, 3) := by decide +kernel
theorem dX8_stand_125 : decode cX8_stand 125 = .ok (.iload_n 2, 1) := by decide +kernel
theorem dX8_stand_126 : decode cX8_stand 126 = .ok (.aload_n 0, 1) := by decide +kernel
theorem dX8_stand_127 : decode cX8_stand 127 = .ok (.getfield 69, 3) := by decide +kernel
theorem dX8_stand_130 : decode cX8_stand 130 = .ok (.iload_n 2, 1) := by decide +kernel
theorem dX8_stand_131 : decode cX8_stand 131 = .ok (.iaload, 1) := by decide +kernel
theorem dX8_stand_132 : decode cX8_stand 132 = .ok (.iastore, 1) := by decide +kernel
theorem dX8_stand_133 : decode cX8_stand 133 = .ok (.iinc 2 1, 3) := by decide +kernel
theorem dX8_stand_136 : decode cX8_stand 136 = .ok (.goto (-20), 3) := by decide +kernel
theorem dX8_stand_139 : decode cX8_stand 139 = .ok (.iload_n 1, 1) := by decide +kernel
theorem dX8_stand_140 : decode cX8_stand 140 = .ok (.iconst (-1), 1) := by decide +kernel
theorem dX8_stand_141 : decode cX8_stand 141 = .ok (.if_icmp .ne 10, 3) := by decide +kernel
theorem dX8_stand_144 : decode cX8_stand 144 = .ok (.aload_n 0, 1) := by decide +kernel
theorem dX8_stand_145 : decode cX8_stand 145 = .ok (.getfield 338, 3) := by decide +kernel
theorem dX8_stand_148 : decode cX8_stand 148 = .ok (.goto 9, 3) := by decide +kernel
theorem dX8_stand_151 : decode cX8_stand 151 = .ok (.aload_n 0, 1) := by decide +kernel
theorem dX8_stand_152 : decode cX8_stand 152 = .ok (.getfield 66, 3) := by decide +kernel
theorem dX8_stand_155 : decode cX8_stand 155 = .ok (.iload_n 1, 1) := by decide +kernel
theorem dX8_stand_156 : decode cX8_stand 156 = .ok (.iaload, 1) := by decide +kernel
theorem dX8_stand_157 : decode cX8_stand 157 = .ok (.ireturn, 1) := by decide +kernel
theorem dX8_tries_0 : decode cX8_tries 0 = .ok (.aload_n 0, 1) := by decide +kernel
theorem dX8_tries_1 : decode cX8_tries 1 = .ok (.iload_n 1, 1) := by decide +kernel
theorem dX8_tries_2 : decode cX8_tries 2 = .ok (.putfield 136, 3) := by decide +kernel
theorem dX8_tries_5 : decode cX8_tries 5 = .ok (.aload_n 0, 1) := by decide +kernel
theorem dX8_tries_6 : decode cX8_tries 6 = .ok (.invokevirtual 327, 3) := by decide +kernel
theorem dX8_tries_9 : decode cX8_tries 9 = .ok (.istore_n 2, 1) := by decide +kernel
theorem dX8_tries_10 : decode cX8_tries 10 = .ok (.aload_n 0, 1) := by decide +kernel
theorem dX8_tries_11 : decode cX8_tries 11 = .ok (.getfield 335, 3) := by decide +kernel
theorem dX8_tries_14 : decode cX8_tries 14 = .ok (.ifCond .eq 11, 3) := by decide +kernel
theorem dX8_tries_17 : decode cX8_tries 17 = .ok (.iload_n 2, 1) := by decide +kernel
theorem dX8_tries_18 : decode cX8_tries 18 = .ok (.aload_n 0, 1) := by decide +kernel
theorem dX8_tries_19 : decode cX8_tries 19 = .ok (.getfield 338, 3) := by decide +kernel
theorem dX8_tries_22 : decode cX8_tries 22 = .ok (.if_icmp .ge 18, 3) := by decide +kernel
theorem dX8_tries_25 : decode cX8_tries 25 = .ok (.aload_n 0, 1) := by decide +kernel
theorem dX8_tries_26 : decode cX8_tries 26 = .ok (.iconst 1, 1) := by decide +kernel
theorem dX8_tries_27 : decode cX8_tries 27 = .ok (.putfield 335, 3) := by decide +kernel
theorem dX8_tries_30 : decode cX8_tries 30 = .ok (.aload_n 0, 1) := by decide +kernel
theorem dX8_tries_31 : decode cX8_tries 31 = .ok (.iload_n 2, 1) := by decide +kernel
theorem dX8_tries_32 : decode cX8_tries 32 = .ok (.putfield 338, 3) := by decide +kernel
theorem dX8_tries_35 : decode cX8_tries 35 = .ok (.aload_n 0, 1) := by decide +kernel
theorem dX8_tries_36 : decode cX8_tries 36 = .ok (.iload_n 1, 1) := by decide +kernel
theorem dX8_tries_37 : decode cX8_tries 37 = .ok (.putfield 345, 3) := by decide +kernel
theorem dX8_tries_40 : decode cX8_tries 40 = .ok (.return_, 1) := by decide +kernel
theorem dX8_rise_0 : decode cX8_rise 0 = .ok (.iload_n 1, 1) := by decide +kernel
theorem dX8_rise_1 : decode cX8_rise 1 = .ok (.i2l, 1) := by decide +kernel
theorem dX8_rise_2 : decode cX8_rise 2 = .ok (.lconst 0, 1) := by decide +kernel
theorem dX8_rise_3 : decode cX8_rise 3 = .ok (.ldc2_w 348, 3) := by decide +kernel
theorem dX8_rise_6 : decode cX8_rise 6 = .ok (.invokestatic 110, 3) := by decide +kernel
theorem dX8_rise_9 : decode cX8_rise 9 = .ok (.ifCond .eq 13, 3) := by decide +kernel
theorem dX8_rise_12 : decode cX8_rise 12 = .ok (.iload_n 2, 1) := by decide +kernel
theorem dX8_rise_13 : decode cX8_rise 13 = .ok (.i2l, 1) := by decide +kernel
theorem dX8_rise_14 : decode cX8_rise 14 = .ok (.lconst 0, 1) := by decide +kernel
theorem dX8_rise_15 : decode cX8_rise 15 = .ok (.lconst 1, 1) := by decide +kernel
theorem dX8_rise_16 : decode cX8_rise 16 = .ok (.invokestatic 110, 3) := by decide +kernel
theorem dX8_rise_19 : decode cX8_rise 19 = .ok (.ifCond .ne 6, 3) := by decide +kernel
theorem dX8_rise_22 : decode cX8_rise 22 = .ok (.bipush (-2), 2) := by decide +kernel
theorem dX8_rise_24 : decode cX8_rise 24 = .ok (.ireturn, 1) := by decide +kernel
theorem dX8_rise_25 : decode cX8_rise 25 = .ok (.aload_n 0, 1) := by decide +kernel
theorem dX8_rise_26 : decode cX8_rise 26 = .ok (.getfield 136, 3) := by decide +kernel
theorem dX8_rise_29 : decode cX8_rise 29 = .ok (.istore_n 3, 1) := by decide +kernel
theorem dX8_rise_30 : decode cX8_rise 30 = .ok (.aload_n 0, 1) := by decide +kernel
theorem dX8_rise_31 : decode cX8_rise 31 = .ok (.iconst 0, 1) := by decide +kernel
theorem dX8_rise_32 : decode cX8_rise 32 = .ok (.putfield 335, 3) := by decide +kernel
theorem dX8_rise_35 : decode cX8_rise 35 = .ok (.aload_n 0, 1) := by decide +kernel
theorem dX8_rise_36 : decode cX8_rise 36 = .ok (.aload_n 0, 1) := by decide +kernel
theorem dX8_rise_37 : decode cX8_rise 37 = .ok (.invokevirtual 321, 3) := by decide +kernel
theorem dX8_rise_40 : decode cX8_rise 40 = .ok (.invokevirtual 324, 3) := by decide +kernel
theorem dX8_rise_43 : decode cX8_rise 43 = .ok (.iload_n 1, 1) := by decide +kernel
theorem dX8_rise_44 : decode cX8_rise 44 = .ok (.ifCond .ne 8, 3) := by decide +kernel
theorem dX8_rise_47 : decode cX8_rise 47 = .ok (.aload_n 0, 1) := by decide +kernel
theorem dX8_rise_48 : decode cX8_rise 48 = .ok (.iconst 0, 1) := by decide +kernel
theorem dX8_rise_49 : decode cX8_rise 49 = .ok (.invokevirtual 350, 3) := by decide +kernel
theorem dX8_rise_52 : decode cX8_rise 52 = .ok (.iconst 0, 1) := by decide +kernel
theorem dX8_rise_53 : decode cX8_rise 53 = .ok (.istore 4, 2) := by decide +kernel
theorem dX8_rise_55 : decode cX8_rise 55 = .ok (.iload 4, 2) := by decide +kernel
theorem dX8_rise_57 : decode cX8_rise 57 = .ok (.bipush 24, 2) := by decide +kernel
theorem dX8_rise_59 : decode cX8_rise 59 = .ok (.if_icmp .ge 104, 3) := by decide +kernel
theorem dX8_rise_62 : decode cX8_rise 62 = .ok (.iload_n 1, 1) := by decide +kernel
theorem dX8_rise_63 : decode cX8_rise 63 = .ok (.ifCond .le 100, 3) := by decide +kernel
theorem dX8_rise_66 : decode cX8_rise 66 = .ok (.iload_n 1, 1) := by decide +kernel
theorem dX8_rise_67 : decode cX8_rise 67 = .ok (.iconst 1, 1) := by decide +kernel
theorem dX8_rise_68 : decode cX8_rise 68 = .ok (.if_icmp .ne 11, 3) := by decide +kernel
theorem dX8_rise_71 : decode cX8_rise 71 = .ok (.aload_n 0, 1) := by decide +kernel
theorem dX8_rise_72 : decode cX8_rise 72 = .ok (.iconst 1, 1) := by decide +kernel
theorem dX8_rise_73 : decode cX8_rise 73 = .ok (.iload 4, 2) := by decide +kernel
theorem dX8_rise_75 : decode cX8_rise 75 = .ok (.ishl, 1) := by decide +kernel
theorem dX8_rise_76 : decode cX8_rise 76 = .ok (.invokevirtual 350, 3) := by decide +kernel
theorem dX8_rise_79 : decode cX8_rise 79 = .ok (.iconst 0, 1) := by decide +kernel
theorem dX8_rise_80 : decode cX8_rise 80 = .ok (.istore 5, 2) := by decide +kernel
theorem dX8_rise_82 : decode cX8_rise 82 = .ok (.iload 5, 2) := by decide +kernel
theorem dX8_rise_84 : decode cX8_rise 84 = .ok (.iload 4, 2) := by decide +kernel
theorem dX8_rise_86 : decode cX8_rise 86 = .ok (.if_icmp .ge 71, 3) := by decide +kernel
theorem dX8_rise_89 : decode cX8_rise 89 = .ok (.iload_n 1, 1) := by decide +kernel
theorem dX8_rise_90 : decode cX8_rise 90 = .ok (.iconst 1, 1) := by decide +kernel
theorem dX8_rise_91 : decode cX8_rise 91 = .ok (.if_icmp .le 66, 3) := by decide +kernel
theorem dX8_rise_94 : decode cX8_rise 94 = .ok (.iload_n 1, 1) := by decide +kernel
theorem dX8_rise_95 : decode cX8_rise 95 = .ok (.iconst 2, 1) := by decide +kernel
theorem dX8_rise_96 : decode cX8_rise 96 = .ok (.if_icmp .ne 16, 3) := by decide +kernel
theorem dX8_rise_99 : decode cX8_rise 99 = .ok (.aload_n 0, 1) := by decide +kernel
theorem dX8_rise_100 : decode cX8_rise 100 = .ok (.iconst 1, 1) := by decide +kernel
theorem dX8_rise_101 : decode cX8_rise 101 = .ok (.iload 4, 2) := by decide +kernel
theorem dX8_rise_103 : decode cX8_rise 103 = .ok (.ishl, 1) := by decide +kernel
theorem dX8_rise_104 : decode cX8_rise 104 = .ok (.iconst 1, 1) := by decide +kernel
theorem dX8_rise_105 : decode cX8_rise 105 = .ok (.iload 5, 2) := by decide +kernel
theorem dX8_rise_107 : decode cX8_rise 107 = .ok (.ishl, 1) := by decide +kernel
theorem dX8_rise_108 : decode cX8_rise 108 = .ok (.ior, 1) := by decide +kernel
theorem dX8_rise_109 : decode cX8_rise 109 = .ok (.invokevirtual 350, 3) := by decide +kernel
theorem dX8_rise_112 : decode cX8_rise 112 = .ok (.iconst 0, 1) := by decide +kernel
theorem dX8_rise_113 : decode cX8_rise 113 = .ok (.istore 6, 2) := by decide +kernel
theorem dX8_rise_115 : decode cX8_rise 115 = .ok (.iload 6, 2) := by decide +kernel
theorem dX8_rise_117 : decode cX8_rise 117 = .ok (.iload 5, 2) := by decide +kernel
theorem dX8_rise_119 : decode cX8_rise 119 = .ok (.if_icmp .ge 32, 3) := by decide +kernel
theorem dX8_rise_122 : decode cX8_rise 122 = .ok (.iload_n 1, 1) := by decide +kernel
theorem dX8_rise_123 : decode cX8_rise 123 = .ok (.iconst 2, 1) := by decide +kernel
theorem dX8_rise_124 : decode cX8_rise 124 = .ok (.if_icmp .le 27, 3) := by decide +kernel
theorem dX8_rise_127 : decode cX8_rise 127 = .ok (.aload_n 0, 1) := by decide +kernel
theorem dX8_rise_128 : decode cX8_rise 128 = .ok (.iconst 1, 1) := by decide +kernel
theorem dX8_rise_129 : decode cX8_rise 129 = .ok (.iload 4, 2) := by decide +kernel
theorem dX8_rise_131 : decode cX8_rise 131 = .ok (.ishl, 1) := by decide +kernel
theorem dX8_rise_132 : decode cX8_rise 132 = .ok (.iconst 1, 1) := by decide +kernel
theorem dX8_rise_133 : decode cX8_rise 133 = .ok (.iload 5, 2) := by decide +kernel
theorem dX8_rise_135 : decode cX8_rise 135 = .ok (.ishl, 1) := by decide +kernel
theorem dX8_rise_136 : decode cX8_rise 136 = .ok (.ior, 1) := by decide +kernel
theorem dX8_rise_137 : decode cX8_rise 137 = .ok (.iconst 1, 1) := by decide +kernel
theorem dX8_rise_138 : decode cX8_rise 138 = .ok (.iload 6, 2) := by decide +kernel
theorem dX8_rise_140 : decode cX8_rise 140 = .ok (.ishl, 1) := by decide +kernel
theorem dX8_rise_141 : decode cX8_rise 141 = .ok (.ior, 1) := by decide +kernel
theorem dX8_rise_142 : decode cX8_rise 142 = .ok (.invokevirtual 350, 3) := by decide +kernel
theorem dX8_rise_145 : decode cX8_rise 145 = .ok (.iinc 6 1, 3) := by decide +kernel
theorem dX8_rise_148 : decode cX8_rise 148 = .ok (.goto (-33), 3) := by decide +kernel
theorem dX8_rise_151 : decode cX8_rise 151 = .ok (.iinc 5 1, 3) := by decide +kernel
theorem dX8_rise_154 : decode cX8_rise 154 = .ok (.goto (-72), 3) := by decide +kernel
theorem dX8_rise_157 : decode cX8_rise 157 = .ok (.iinc 4 1, 3) := by decide +kernel
theorem dX8_rise_160 : decode cX8_rise 160 = .ok (.goto (-105), 3) := by decide +kernel
theorem dX8_rise_163 : decode cX8_rise 163 = .ok (.aload_n 0, 1) := by decide +kernel
theorem dX8_rise_164 : decode cX8_rise 164 = .ok (.iload_n 3, 1) := by decide +kernel
theorem dX8_rise_165 : decode cX8_rise 165 = .ok (.putfield 136, 3) := by decide +kernel
theorem dX8_rise_168 : decode cX8_rise 168 = .ok (.iload_n 2, 1) := by decide +kernel
theorem dX8_rise_169 : decode cX8_rise 169 = .ok (.ifCond .ne 10, 3) := by decide +kernel
theorem dX8_rise_172 : decode cX8_rise 172 = .ok (.aload_n 0, 1) := by decide +kernel
theorem dX8_rise_173 : decode cX8_rise 173 = .ok (.getfield 338, 3) := by decide +kernel
theorem dX8_rise_176 : decode cX8_rise 176 = .ok (.goto 7, 3) := by decide +kernel
theorem dX8_rise_179 : decode cX8_rise 179 = .ok (.aload_n 0, 1) := by decide +kernel
theorem dX8_rise_180 : decode cX8_rise 180 = .ok (.getfield 345, 3) := by decide +kernel
theorem dX8_rise_183 : decode cX8_rise 183 = .ok (.ireturn, 1) := by decide +kernel
theorem dX8_lead_0 : decode cX8_lead 0 = .ok (.iload_n 1, 1) := by decide +kernel
theorem dX8_lead_1 : decode cX8_lead 1 = .ok (.i2l, 1) := by decide +kernel
theorem dX8_lead_2 : decode cX8_lead 2 = .ok (.lconst 0, 1) := by decide +kernel
theorem dX8_lead_3 : decode cX8_lead 3 = .ok (.lconst 1, 1) := by decide +kernel
theorem dX8_lead_4 : decode cX8_lead 4 = .ok (.invokestatic 110, 3) := by decide +kernel
theorem dX8_lead_7 : decode cX8_lead 7 = .ok (.ifCond .ne 6, 3) := by decide +kernel
theorem dX8_lead_10 : decode cX8_lead 10 = .ok (.bipush (-2), 2) := by decide +kernel
theorem dX8_lead_12 : decode cX8_lead 12 = .ok (.ireturn, 1) := by decide +kernel
theorem dX8_lead_13 : decode cX8_lead 13 = .ok (.aload_n 0, 1) := by decide +kernel
theorem dX8_lead_14 : decode cX8_lead 14 = .ok (.invokevirtual 330, 3) := by decide +kernel
theorem dX8_lead_17 : decode cX8_lead 17 = .ok (.istore_n 2, 1) := by decide +kernel
theorem dX8_lead_18 : decode cX8_lead 18 = .ok (.iconst (-1), 1) := by decide +kernel
theorem dX8_lead_19 : decode cX8_lead 19 = .ok (.istore_n 3, 1) := by decide +kernel
theorem dX8_lead_20 : decode cX8_lead 20 = .ok (.iconst 0, 1) := by decide +kernel
theorem dX8_lead_21 : decode cX8_lead 21 = .ok (.istore 4, 2) := by decide +kernel
theorem dX8_lead_23 : decode cX8_lead 23 = .ok (.iload 4, 2) := by decide +kernel
theorem dX8_lead_25 : decode cX8_lead 25 = .ok (.aload_n 0, 1) := by decide +kernel
theorem dX8_lead_26 : decode cX8_lead 26 = .ok (.getfield 107, 3) := by decide +kernel
theorem dX8_lead_29 : decode cX8_lead 29 = .ok (.if_icmp .ge 73, 3) := by decide +kernel
theorem dX8_lead_32 : decode cX8_lead 32 = .ok (.iconst 0, 1) := by decide +kernel
theorem dX8_lead_33 : decode cX8_lead 33 = .ok (.istore 5, 2) := by decide +kernel
theorem dX8_lead_35 : decode cX8_lead 35 = .ok (.iload 5, 2) := by decide +kernel
theorem dX8_lead_37 : decode cX8_lead 37 = .ok (.bipush 8, 2) := by decide +kernel
theorem dX8_lead_39 : decode cX8_lead 39 = .ok (.if_icmp .ge 57, 3) := by decide +kernel
theorem dX8_lead_42 : decode cX8_lead 42 = .ok (.aload_n 0, 1) := by decide +kernel
theorem dX8_lead_43 : decode cX8_lead 43 = .ok (.aload_n 0, 1) := by decide +kernel
theorem dX8_lead_44 : decode cX8_lead 44 = .ok (.invokevirtual 321, 3) := by decide +kernel
theorem dX8_lead_47 : decode cX8_lead 47 = .ok (.iconst 1, 1) := by decide +kernel
theorem dX8_lead_48 : decode cX8_lead 48 = .ok (.iload 4, 2) := by decide +kernel
theorem dX8_lead_50 : decode cX8_lead 50 = .ok (.ishl, 1) := by decide +kernel
theorem dX8_lead_51 : decode cX8_lead 51 = .ok (.iconst (-1), 1) := by decide +kernel
theorem dX8_lead_52 : decode cX8_lead 52 = .ok (.ixor, 1) := by decide +kernel
theorem dX8_lead_53 : decode cX8_lead 53 = .ok (.iand, 1) := by decide +kernel
theorem dX8_lead_54 : decode cX8_lead 54 = .ok (.invokevirtual 324, 3) := by decide +kernel
theorem dX8_lead_57 : decode cX8_lead 57 = .ok (.aload_n 0, 1) := by decide +kernel
theorem dX8_lead_58 : decode cX8_lead 58 = .ok (.iload 4, 2) := by decide +kernel
theorem dX8_lead_60 : decode cX8_lead 60 = .ok (.iload 5, 2) := by decide +kernel
theorem dX8_lead_62 : decode cX8_lead 62 = .ok (.iconst 1, 1) := by decide +kernel
theorem dX8_lead_63 : decode cX8_lead 63 = .ok (.invokevirtual 291, 3) := by decide +kernel
theorem dX8_lead_66 : decode cX8_lead 66 = .ok (.aload_n 0, 1) := by decide +kernel
theorem dX8_lead_67 : decode cX8_lead 67 = .ok (.invokevirtual 327, 3) := by decide +kernel
theorem dX8_lead_70 : decode cX8_lead 70 = .ok (.istore 6, 2) := by decide +kernel
theorem dX8_lead_72 : decode cX8_lead 72 = .ok (.iload 6, 2) := by decide +kernel
theorem dX8_lead_74 : decode cX8_lead 74 = .ok (.iload_n 2, 1) := by decide +kernel
theorem dX8_lead_75 : decode cX8_lead 75 = .ok (.if_icmp .ge 15, 3) := by decide +kernel
theorem dX8_lead_78 : decode cX8_lead 78 = .ok (.iload 6, 2) := by decide +kernel
theorem dX8_lead_80 : decode cX8_lead 80 = .ok (.istore_n 2, 1) := by decide +kernel
theorem dX8_lead_81 : decode cX8_lead 81 = .ok (.bipush 10, 2) := by decide +kernel
theorem dX8_lead_83 : decode cX8_lead 83 = .ok (.iload 4, 2) := by decide +kernel
theorem dX8_lead_85 : decode cX8_lead 85 = .ok (.imul, 1) := by decide +kernel
theorem dX8_lead_86 : decode cX8_lead 86 = .ok (.iload 5, 2) := by decide +kernel
theorem dX8_lead_88 : decode cX8_lead 88 = .ok (.iadd, 1) := by decide +kernel
theorem dX8_lead_89 : decode cX8_lead 89 = .ok (.istore_n 3, 1) := by decide +kernel
theorem dX8_lead_90 : decode cX8_lead 90 = .ok (.iinc 5 1, 3) := by decide +kernel
theorem dX8_lead_93 : decode cX8_lead 93 = .ok (.goto (-58), 3) := by decide +kernel
theorem dX8_lead_96 : decode cX8_lead 96 = .ok (.iinc 4 1, 3) := by decide +kernel
theorem dX8_lead_99 : decode cX8_lead 99 = .ok (.goto (-76), 3) := by decide +kernel
theorem dX8_lead_102 : decode cX8_lead 102 = .ok (.iload_n 1, 1) := by decide +kernel
theorem dX8_lead_103 : decode cX8_lead 103 = .ok (.ifCond .ne 7, 3) := by decide +kernel
theorem dX8_lead_106 : decode cX8_lead 106 = .ok (.iload_n 3, 1) := by decide +kernel
theorem dX8_lead_107 : decode cX8_lead 107 = .ok (.goto 4, 3) := by decide +kernel
theorem dX8_lead_110 : decode cX8_lead 110 = .ok (.iload_n 2, 1) := by decide +kernel
theorem dX8_lead_111 : decode cX8_lead 111 = .ok (.ireturn, 1) := by decide +kernel
theorem dX8_gone_0 : decode cX8_gone 0 = .ok (.aload_n 0, 1) := by decide +kernel
theorem dX8_gone_1 : decode cX8_gone 1 = .ok (.getfield 136, 3) := by decide +kernel
theorem dX8_gone_4 : decode cX8_gone 4 = .ok (.istore_n 1, 1) := by decide +kernel
theorem dX8_gone_5 : decode cX8_gone 5 = .ok (.aload_n 0, 1) := by decide +kernel
theorem dX8_gone_6 : decode cX8_gone 6 = .ok (.iconst 0, 1) := by decide +kernel
theorem dX8_gone_7 : decode cX8_gone 7 = .ok (.putfield 136, 3) := by decide +kernel
theorem dX8_gone_10 : decode cX8_gone 10 = .ok (.aload_n 0, 1) := by decide +kernel
theorem dX8_gone_11 : decode cX8_gone 11 = .ok (.invokevirtual 330, 3) := by decide +kernel
theorem dX8_gone_14 : decode cX8_gone 14 = .ok (.pop, 1) := by decide +kernel
theorem dX8_gone_15 : decode cX8_gone 15 = .ok (.aload_n 0, 1) := by decide +kernel
theorem dX8_gone_16 : decode cX8_gone 16 = .ok (.iload_n 1, 1) := by decide +kernel
theorem dX8_gone_17 : decode cX8_gone 17 = .ok (.putfield 136, 3) := by decide +kernel
theorem dX8_gone_20 : decode cX8_gone 20 = .ok (.aload_n 0, 1) := by decide +kernel
theorem dX8_gone_21 : decode cX8_gone 21 = .ok (.getfield 307, 3) := by decide +kernel
theorem dX8_gone_24 : decode cX8_gone 24 = .ok (.iconst (-1), 1) := by decide +kernel
theorem dX8_gone_25 : decode cX8_gone 25 = .ok (.if_icmp .ne 8, 3) := by decide +kernel
theorem dX8_gone_28 : decode cX8_gone 28 = .ok (.bipush 24, 2) := by decide +kernel
theorem dX8_gone_30 : decode cX8_gone 30 = .ok (.goto 7, 3) := by decide +kernel
theorem dX8_gone_33 : decode cX8_gone 33 = .ok (.aload_n 0, 1) := by decide +kernel
theorem dX8_gone_34 : decode cX8_gone 34 = .ok (.getfield 307, 3) := by decide +kernel
theorem dX8_gone_37 : decode cX8_gone 37 = .ok (.ireturn, 1) := by decide +kernel
theorem dX8_tile_0 : decode cX8_tile 0 = .ok (.aload_n 0, 1) := by decide +kernel
theorem dX8_tile_1 : decode cX8_tile 1 = .ok (.iload_n 1, 1) := by decide +kernel
theorem dX8_tile_2 : decode cX8_tile 2 = .ok (.invokevirtual 127, 3) := by decide +kernel
theorem dX8_tile_5 : decode cX8_tile 5 = .ok (.ifCond .ne 7, 3) := by decide +kernel
theorem dX8_tile_8 : decode cX8_tile 8 = .ok (.ldc_w 353, 3) := by decide +kernel
theorem dX8_tile_11 : decode cX8_tile 11 = .ok (.ireturn, 1) := by decide +kernel
theorem dX8_tile_12 : decode cX8_tile 12 = .ok (.aload_n 0, 1) := by decide +kernel
theorem dX8_tile_13 : decode cX8_tile 13 = .ok (.invokevirtual 330, 3) := by decide +kernel
theorem dX8_tile_16 : decode cX8_tile 16 = .ok (.istore_n 2, 1) := by decide +kernel
theorem dX8_tile_17 : decode cX8_tile 17 = .ok (.aload_n 0, 1) := by decide +kernel
theorem dX8_tile_18 : decode cX8_tile 18 = .ok (.aload_n 0, 1) := by decide +kernel
