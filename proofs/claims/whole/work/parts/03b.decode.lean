theorem dX7_drip_60 : decode cX7_drip 60 = .ok (.aload_n 0, 1) := by decide +kernel
theorem dX7_drip_61 : decode cX7_drip 61 = .ok (.getfield 12, 3) := by decide +kernel
theorem dX7_drip_64 : decode cX7_drip 64 = .ok (.getfield 104, 3) := by decide +kernel
theorem dX7_drip_67 : decode cX7_drip 67 = .ok (.iload 4, 2) := by decide +kernel
theorem dX7_drip_69 : decode cX7_drip 69 = .ok (.iload_n 2, 1) := by decide +kernel
theorem dX7_drip_70 : decode cX7_drip 70 = .ok (.bipush 10, 2) := by decide +kernel
theorem dX7_drip_72 : decode cX7_drip 72 = .ok (.idiv, 1) := by decide +kernel
theorem dX7_drip_73 : decode cX7_drip 73 = .ok (.iastore, 1) := by decide +kernel
theorem dX7_drip_74 : decode cX7_drip 74 = .ok (.aload_n 0, 1) := by decide +kernel
theorem dX7_drip_75 : decode cX7_drip 75 = .ok (.getfield 12, 3) := by decide +kernel
theorem dX7_drip_78 : decode cX7_drip 78 = .ok (.getfield 107, 3) := by decide +kernel
theorem dX7_drip_81 : decode cX7_drip 81 = .ok (.iload 4, 2) := by decide +kernel
theorem dX7_drip_83 : decode cX7_drip 83 = .ok (.iload_n 2, 1) := by decide +kernel
theorem dX7_drip_84 : decode cX7_drip 84 = .ok (.bipush 10, 2) := by decide +kernel
theorem dX7_drip_86 : decode cX7_drip 86 = .ok (.irem, 1) := by decide +kernel
theorem dX7_drip_87 : decode cX7_drip 87 = .ok (.iastore, 1) := by decide +kernel
theorem dX7_drip_88 : decode cX7_drip 88 = .ok (.aload_n 0, 1) := by decide +kernel
theorem dX7_drip_89 : decode cX7_drip 89 = .ok (.getfield 12, 3) := by decide +kernel
theorem dX7_drip_92 : decode cX7_drip 92 = .ok (.getfield 113, 3) := by decide +kernel
theorem dX7_drip_95 : decode cX7_drip 95 = .ok (.iload 4, 2) := by decide +kernel
theorem dX7_drip_97 : decode cX7_drip 97 = .ok (.iload_n 3, 1) := by decide +kernel
theorem dX7_drip_98 : decode cX7_drip 98 = .ok (.iastore, 1) := by decide +kernel
theorem dX7_drip_99 : decode cX7_drip 99 = .ok (.aload_n 0, 1) := by decide +kernel
theorem dX7_drip_100 : decode cX7_drip 100 = .ok (.getfield 12, 3) := by decide +kernel
theorem dX7_drip_103 : decode cX7_drip 103 = .ok (.iload 4, 2) := by decide +kernel
theorem dX7_drip_105 : decode cX7_drip 105 = .ok (.iconst 1, 1) := by decide +kernel
theorem dX7_drip_106 : decode cX7_drip 106 = .ok (.iadd, 1) := by decide +kernel
theorem dX7_drip_107 : decode cX7_drip 107 = .ok (.putfield 119, 3) := by decide +kernel
theorem dX7_drip_110 : decode cX7_drip 110 = .ok (.iload 4, 2) := by decide +kernel
theorem dX7_drip_112 : decode cX7_drip 112 = .ok (.ireturn, 1) := by decide +kernel
theorem dX7_vessel_0 : decode cX7_vessel 0 = .ok (.iload_n 1, 1) := by decide +kernel
theorem dX7_vessel_1 : decode cX7_vessel 1 = .ok (.iconst 1, 1) := by decide +kernel
theorem dX7_vessel_2 : decode cX7_vessel 2 = .ok (.bipush 99, 2) := by decide +kernel
theorem dX7_vessel_4 : decode cX7_vessel 4 = .ok (.invokestatic 85, 3) := by decide +kernel
theorem dX7_vessel_7 : decode cX7_vessel 7 = .ok (.ifCond .ne 6, 3) := by decide +kernel
theorem dX7_vessel_10 : decode cX7_vessel 10 = .ok (.bipush (-2), 2) := by decide +kernel
theorem dX7_vessel_12 : decode cX7_vessel 12 = .ok (.ireturn, 1) := by decide +kernel
theorem dX7_vessel_13 : decode cX7_vessel 13 = .ok (.aload_n 0, 1) := by decide +kernel
theorem dX7_vessel_14 : decode cX7_vessel 14 = .ok (.getfield 12, 3) := by decide +kernel
theorem dX7_vessel_17 : decode cX7_vessel 17 = .ok (.getfield 125, 3) := by decide +kernel
theorem dX7_vessel_20 : decode cX7_vessel 20 = .ok (.istore_n 2, 1) := by decide +kernel
theorem dX7_vessel_21 : decode cX7_vessel 21 = .ok (.iload_n 2, 1) := by decide +kernel
theorem dX7_vessel_22 : decode cX7_vessel 22 = .ok (.iconst 0, 1) := by decide +kernel
theorem dX7_vessel_23 : decode cX7_vessel 23 = .ok (.iconst 4, 1) := by decide +kernel
theorem dX7_vessel_24 : decode cX7_vessel 24 = .ok (.invokestatic 85, 3) := by decide +kernel
theorem dX7_vessel_27 : decode cX7_vessel 27 = .ok (.ifCond .ne 6, 3) := by decide +kernel
theorem dX7_vessel_30 : decode cX7_vessel 30 = .ok (.bipush (-4), 2) := by decide +kernel
theorem dX7_vessel_32 : decode cX7_vessel 32 = .ok (.ireturn, 1) := by decide +kernel
theorem dX7_vessel_33 : decode cX7_vessel 33 = .ok (.aload_n 0, 1) := by decide +kernel
theorem dX7_vessel_34 : decode cX7_vessel 34 = .ok (.getfield 12, 3) := by decide +kernel
theorem dX7_vessel_37 : decode cX7_vessel 37 = .ok (.getfield 128, 3) := by decide +kernel
theorem dX7_vessel_40 : decode cX7_vessel 40 = .ok (.iload_n 2, 1) := by decide +kernel
theorem dX7_vessel_41 : decode cX7_vessel 41 = .ok (.iload_n 1, 1) := by decide +kernel
theorem dX7_vessel_42 : decode cX7_vessel 42 = .ok (.iastore, 1) := by decide +kernel
theorem dX7_vessel_43 : decode cX7_vessel 43 = .ok (.aload_n 0, 1) := by decide +kernel
theorem dX7_vessel_44 : decode cX7_vessel 44 = .ok (.getfield 12, 3) := by decide +kernel
theorem dX7_vessel_47 : decode cX7_vessel 47 = .ok (.getfield 131, 3) := by decide +kernel
theorem dX7_vessel_50 : decode cX7_vessel 50 = .ok (.iload_n 2, 1) := by decide +kernel
theorem dX7_vessel_51 : decode cX7_vessel 51 = .ok (.iconst (-1), 1) := by decide +kernel
theorem dX7_vessel_52 : decode cX7_vessel 52 = .ok (.iastore, 1) := by decide +kernel
theorem dX7_vessel_53 : decode cX7_vessel 53 = .ok (.aload_n 0, 1) := by decide +kernel
theorem dX7_vessel_54 : decode cX7_vessel 54 = .ok (.getfield 12, 3) := by decide +kernel
theorem dX7_vessel_57 : decode cX7_vessel 57 = .ok (.getfield 134, 3) := by decide +kernel
theorem dX7_vessel_60 : decode cX7_vessel 60 = .ok (.iload_n 2, 1) := by decide +kernel
theorem dX7_vessel_61 : decode cX7_vessel 61 = .ok (.iconst 0, 1) := by decide +kernel
theorem dX7_vessel_62 : decode cX7_vessel 62 = .ok (.iastore, 1) := by decide +kernel
theorem dX7_vessel_63 : decode cX7_vessel 63 = .ok (.aload_n 0, 1) := by decide +kernel
theorem dX7_vessel_64 : decode cX7_vessel 64 = .ok (.getfield 12, 3) := by decide +kernel
theorem dX7_vessel_67 : decode cX7_vessel 67 = .ok (.iload_n 2, 1) := by decide +kernel
theorem dX7_vessel_68 : decode cX7_vessel 68 = .ok (.iconst 1, 1) := by decide +kernel
theorem dX7_vessel_69 : decode cX7_vessel 69 = .ok (.iadd, 1) := by decide +kernel
theorem dX7_vessel_70 : decode cX7_vessel 70 = .ok (.putfield 125, 3) := by decide +kernel
theorem dX7_vessel_73 : decode cX7_vessel 73 = .ok (.iload_n 2, 1) := by decide +kernel
theorem dX7_vessel_74 : decode cX7_vessel 74 = .ok (.ireturn, 1) := by decide +kernel
theorem dX7_put_0 : decode cX7_put 0 = .ok (.aload_n 0, 1) := by decide +kernel
theorem dX7_put_1 : decode cX7_put 1 = .ok (.iload_n 1, 1) := by decide +kernel
theorem dX7_put_2 : decode cX7_put 2 = .ok (.invokevirtual 137, 3) := by decide +kernel
theorem dX7_put_5 : decode cX7_put 5 = .ok (.ifCond .eq 15, 3) := by decide +kernel
theorem dX7_put_8 : decode cX7_put 8 = .ok (.iload_n 2, 1) := by decide +kernel
theorem dX7_put_9 : decode cX7_put 9 = .ok (.iconst (-1), 1) := by decide +kernel
theorem dX7_put_10 : decode cX7_put 10 = .ok (.if_icmp .eq 13, 3) := by decide +kernel
theorem dX7_put_13 : decode cX7_put 13 = .ok (.iload_n 2, 1) := by decide +kernel
theorem dX7_put_14 : decode cX7_put 14 = .ok (.invokestatic 110, 3) := by decide +kernel
theorem dX7_put_17 : decode cX7_put 17 = .ok (.ifCond .ne 6, 3) := by decide +kernel
theorem dX7_put_20 : decode cX7_put 20 = .ok (.bipush (-2), 2) := by decide +kernel
theorem dX7_put_22 : decode cX7_put 22 = .ok (.ireturn, 1) := by decide +kernel
theorem dX7_put_23 : decode cX7_put 23 = .ok (.iconst 0, 1) := by decide +kernel
theorem dX7_put_24 : decode cX7_put 24 = .ok (.istore_n 3, 1) := by decide +kernel
theorem dX7_put_25 : decode cX7_put 25 = .ok (.iload_n 3, 1) := by decide +kernel
theorem dX7_put_26 : decode cX7_put 26 = .ok (.aload_n 0, 1) := by decide +kernel
theorem dX7_put_27 : decode cX7_put 27 = .ok (.getfield 12, 3) := by decide +kernel
theorem dX7_put_30 : decode cX7_put 30 = .ok (.getfield 125, 3) := by decide +kernel
theorem dX7_put_33 : decode cX7_put 33 = .ok (.if_icmp .ge 40, 3) := by decide +kernel
theorem dX7_put_36 : decode cX7_put 36 = .ok (.iload_n 3, 1) := by decide +kernel
theorem dX7_put_37 : decode cX7_put 37 = .ok (.iconst 5, 1) := by decide +kernel
theorem dX7_put_38 : decode cX7_put 38 = .ok (.if_icmp .ge 35, 3) := by decide +kernel
theorem dX7_put_41 : decode cX7_put 41 = .ok (.iload_n 3, 1) := by decide +kernel
theorem dX7_put_42 : decode cX7_put 42 = .ok (.iload_n 1, 1) := by decide +kernel
theorem dX7_put_43 : decode cX7_put 43 = .ok (.if_icmp .eq 24, 3) := by decide +kernel
theorem dX7_put_46 : decode cX7_put 46 = .ok (.iload_n 2, 1) := by decide +kernel
theorem dX7_put_47 : decode cX7_put 47 = .ok (.iconst (-1), 1) := by decide +kernel
theorem dX7_put_48 : decode cX7_put 48 = .ok (.if_icmp .eq 19, 3) := by decide +kernel
theorem dX7_put_51 : decode cX7_put 51 = .ok (.aload_n 0, 1) := by decide +kernel
theorem dX7_put_52 : decode cX7_put 52 = .ok (.getfield 12, 3) := by decide +kernel
theorem dX7_put_55 : decode cX7_put 55 = .ok (.getfield 131, 3) := by decide +kernel
theorem dX7_put_58 : decode cX7_put 58 = .ok (.iload_n 3, 1) := by decide +kernel
theorem dX7_put_59 : decode cX7_put 59 = .ok (.iaload, 1) := by decide +kernel
theorem dX7_put_60 : decode cX7_put 60 = .ok (.iload_n 2, 1) := by decide +kernel
theorem dX7_put_61 : decode cX7_put 61 = .ok (.if_icmp .ne 6, 3) := by decide +kernel
theorem dX7_put_64 : decode cX7_put 64 = .ok (.bipush (-3), 2) := by decide +kernel
theorem dX7_put_66 : decode cX7_put 66 = .ok (.ireturn, 1) := by decide +kernel
theorem dX7_put_67 : decode cX7_put 67 = .ok (.iinc 3 1, 3) := by decide +kernel
theorem dX7_put_70 : decode cX7_put 70 = .ok (.goto (-45), 3) := by decide +kernel
theorem dX7_put_73 : decode cX7_put 73 = .ok (.aload_n 0, 1) := by decide +kernel
theorem dX7_put_74 : decode cX7_put 74 = .ok (.getfield 12, 3) := by decide +kernel
theorem dX7_put_77 : decode cX7_put 77 = .ok (.getfield 131, 3) := by decide +kernel
theorem dX7_put_80 : decode cX7_put 80 = .ok (.iload_n 1, 1) := by decide +kernel
theorem dX7_put_81 : decode cX7_put 81 = .ok (.iload_n 2, 1) := by decide +kernel
theorem dX7_put_82 : decode cX7_put 82 = .ok (.invokestatic 93, 3) := by decide +kernel
theorem dX7_put_85 : decode cX7_put 85 = .ok (.ireturn, 1) := by decide +kernel
theorem dX7_fill_0 : decode cX7_fill 0 = .ok (.aload_n 0, 1) := by decide +kernel
theorem dX7_fill_1 : decode cX7_fill 1 = .ok (.iload_n 1, 1) := by decide +kernel
theorem dX7_fill_2 : decode cX7_fill 2 = .ok (.invokevirtual 137, 3) := by decide +kernel
theorem dX7_fill_5 : decode cX7_fill 5 = .ok (.ifCond .eq 20, 3) := by decide +kernel
theorem dX7_fill_8 : decode cX7_fill 8 = .ok (.iload_n 2, 1) := by decide +kernel
theorem dX7_fill_9 : decode cX7_fill 9 = .ok (.iconst 0, 1) := by decide +kernel
theorem dX7_fill_10 : decode cX7_fill 10 = .ok (.aload_n 0, 1) := by decide +kernel
theorem dX7_fill_11 : decode cX7_fill 11 = .ok (.getfield 12, 3) := by decide +kernel
theorem dX7_fill_14 : decode cX7_fill 14 = .ok (.getfield 128, 3) := by decide +kernel
theorem dX7_fill_17 : decode cX7_fill 17 = .ok (.iload_n 1, 1) := by decide +kernel
theorem dX7_fill_18 : decode cX7_fill 18 = .ok (.iaload, 1) := by decide +kernel
theorem dX7_fill_19 : decode cX7_fill 19 = .ok (.invokestatic 85, 3) := by decide +kernel
theorem dX7_fill_22 : decode cX7_fill 22 = .ok (.ifCond .ne 6, 3) := by decide +kernel
theorem dX7_fill_25 : decode cX7_fill 25 = .ok (.bipush (-2), 2) := by decide +kernel
theorem dX7_fill_27 : decode cX7_fill 27 = .ok (.ireturn, 1) := by decide +kernel
theorem dX7_fill_28 : decode cX7_fill 28 = .ok (.aload_n 0, 1) := by decide +kernel
theorem dX7_fill_29 : decode cX7_fill 29 = .ok (.getfield 12, 3) := by decide +kernel
theorem dX7_fill_32 : decode cX7_fill 32 = .ok (.getfield 134, 3) := by decide +kernel
theorem dX7_fill_35 : decode cX7_fill 35 = .ok (.iload_n 1, 1) := by decide +kernel
theorem dX7_fill_36 : decode cX7_fill 36 = .ok (.iload_n 2, 1) := by decide +kernel
theorem dX7_fill_37 : decode cX7_fill 37 = .ok (.invokestatic 93, 3) := by decide +kernel
theorem dX7_fill_40 : decode cX7_fill 40 = .ok (.ireturn, 1) := by decide +kernel
theorem dX7_told_0 : decode cX7_told 0 = .ok (.iload_n 2, 1) := by decide +kernel
theorem dX7_told_1 : decode cX7_told 1 = .ok (.iconst 0, 1) := by decide +kernel
theorem dX7_told_2 : decode cX7_told 2 = .ok (.iconst 3, 1) := by decide +kernel
theorem dX7_told_3 : decode cX7_told 3 = .ok (.invokestatic 85, 3) := by decide +kernel
theorem dX7_told_6 : decode cX7_told 6 = .ok (.ifCond .eq 14, 3) := by decide +kernel
theorem dX7_told_9 : decode cX7_told 9 = .ok (.aload_n 0, 1) := by decide +kernel
theorem dX7_told_10 : decode cX7_told 10 = .ok (.iload_n 1, 1) := by decide +kernel
theorem dX7_told_11 : decode cX7_told 11 = .ok (.invokevirtual 101, 3) := by decide +kernel
theorem dX7_told_14 : decode cX7_told 14 = .ok (.ifCond .ne 17, 3) := by decide +kernel
theorem dX7_told_17 : decode cX7_told 17 = .ok (.goto 11, 3) := by decide +kernel
theorem dX7_told_20 : decode cX7_told 20 = .ok (.aload_n 0, 1) := by decide +kernel
theorem dX7_told_21 : decode cX7_told 21 = .ok (.iload_n 1, 1) := by decide +kernel
theorem dX7_told_22 : decode cX7_told 22 = .ok (.invokevirtual 137, 3) := by decide +kernel
theorem dX7_told_25 : decode cX7_told 25 = .ok (.ifCond .ne 6, 3) := by decide +kernel
theorem dX7_told_28 : decode cX7_told 28 = .ok (.bipush (-100), 2) := by decide +kernel
theorem dX7_told_30 : decode cX7_told 30 = .ok (.ireturn, 1) := by decide +kernel
theorem dX7_told_31 : decode cX7_told 31 = .ok (.iload_n 2, 1) := by decide +kernel
theorem dX7_told_32 : decode cX7_told 32 = .ok (.tableswitch 114 0 6 #[44, 54, 64, 74, 84, 94, 104], 44) := by decide +kernel
theorem dX7_told_76 : decode cX7_told 76 = .ok (.aload_n 0, 1) := by decide +kernel
theorem dX7_told_77 : decode cX7_told 77 = .ok (.getfield 12, 3) := by decide +kernel
theorem dX7_told_80 : decode cX7_told 80 = .ok (.getfield 122, 3) := by decide +kernel
theorem dX7_told_83 : decode cX7_told 83 = .ok (.iload_n 1, 1) := by decide +kernel
theorem dX7_told_84 : decode cX7_told 84 = .ok (.iaload, 1) := by decide +kernel
theorem dX7_told_85 : decode cX7_told 85 = .ok (.ireturn, 1) := by decide +kernel
theorem dX7_told_86 : decode cX7_told 86 = .ok (.aload_n 0, 1) := by decide +kernel
theorem dX7_told_87 : decode cX7_told 87 = .ok (.getfield 12, 3) := by decide +kernel
theorem dX7_told_90 : decode cX7_told 90 = .ok (.getfield 104, 3) := by decide +kernel
theorem dX7_told_93 : decode cX7_told 93 = .ok (.iload_n 1, 1) := by decide +kernel
theorem dX7_told_94 : decode cX7_told 94 = .ok (.iaload, 1) := by decide +kernel
theorem dX7_told_95 : decode cX7_told 95 = .ok (.ireturn, 1) := by decide +kernel
theorem dX7_told_96 : decode cX7_told 96 = .ok (.aload_n 0, 1) := by decide +kernel
theorem dX7_told_97 : decode cX7_told 97 = .ok (.getfield 12, 3) := by decide +kernel
theorem dX7_told_100 : decode cX7_told 100 = .ok (.getfield 107, 3) := by decide +kernel
theorem dX7_told_103 : decode cX7_told 103 = .ok (.iload_n 1, 1) := by decide +kernel
theorem dX7_told_104 : decode cX7_told 104 = .ok (.iaload, 1) := by decide +kernel
theorem dX7_told_105 : decode cX7_told 105 = .ok (.ireturn, 1) := by decide +kernel
theorem dX7_told_106 : decode cX7_told 106 = .ok (.aload_n 0, 1) := by decide +kernel
theorem dX7_told_107 : decode cX7_told 107 = .ok (.getfield 12, 3) := by decide +kernel
theorem dX7_told_110 : decode cX7_told 110 = .ok (.getfield 113, 3) := by decide +kernel
theorem dX7_told_113 : decode cX7_told 113 = .ok (.iload_n 1, 1) := by decide +kernel
theorem dX7_told_114 : decode cX7_told 114 = .ok (.iaload, 1) := by decide +kernel
theorem dX7_told_115 : decode cX7_told 115 = .ok (.ireturn, 1) := by decide +kernel
theorem dX7_told_116 : decode cX7_told 116 = .ok (.aload_n 0, 1) := by decide +kernel
theorem dX7_told_117 : decode cX7_told 117 = .ok (.getfield 12, 3) := by decide +kernel
theorem dX7_told_120 : decode cX7_told 120 = .ok (.getfield 128, 3) := by decide +kernel
theorem dX7_told_123 : decode cX7_told 123 = .ok (.iload_n 1, 1) := by decide +kernel
theorem dX7_told_124 : decode cX7_told 124 = .ok (.iaload, 1) := by decide +kernel
theorem dX7_told_125 : decode cX7_told 125 = .ok (.ireturn, 1) := by decide +kernel
theorem dX7_told_126 : decode cX7_told 126 = .ok (.aload_n 0, 1) := by decide +kernel
theorem dX7_told_127 : decode cX7_told 127 = .ok (.getfield 12, 3) := by decide +kernel
theorem dX7_told_130 : decode cX7_told 130 = .ok (.getfield 131, 3) := by decide +kernel
theorem dX7_told_133 : decode cX7_told 133 = .ok (.iload_n 1, 1) := by decide +kernel
theorem dX7_told_134 : decode cX7_told 134 = .ok (.iaload, 1) := by decide +kernel
theorem dX7_told_135 : decode cX7_told 135 = .ok (.ireturn, 1) := by decide +kernel
theorem dX7_told_136 : decode cX7_told 136 = .ok (.aload_n 0, 1) := by decide +kernel
theorem dX7_told_137 : decode cX7_told 137 = .ok (.getfield 12, 3) := by decide +kernel
theorem dX7_told_140 : decode cX7_told 140 = .ok (.getfield 134, 3) := by decide +kernel
theorem dX7_told_143 : decode cX7_told 143 = .ok (.iload_n 1, 1) := by decide +kernel
theorem dX7_told_144 : decode cX7_told 144 = .ok (.iaload, 1) := by decide +kernel
theorem dX7_told_145 : decode cX7_told 145 = .ok (.ireturn, 1) := by decide +kernel
theorem dX7_told_146 : decode cX7_told 146 = .ok (.bipush (-100), 2) := by decide +kernel
theorem dX7_told_148 : decode cX7_told 148 = .ok (.ireturn, 1) := by decide +kernel
theorem dX7_falls_0 : decode cX7_falls 0 = .ok (.aload_n 0, 1) := by decide +kernel
theorem dX7_falls_1 : decode cX7_falls 1 = .ok (.iload_n 1, 1) := by decide +kernel
theorem dX7_falls_2 : decode cX7_falls 2 = .ok (.invokevirtual 101, 3) := by decide +kernel
theorem dX7_falls_5 : decode cX7_falls 5 = .ok (.ifCond .eq 19, 3) := by decide +kernel
theorem dX7_falls_8 : decode cX7_falls 8 = .ok (.iload_n 2, 1) := by decide +kernel
theorem dX7_falls_9 : decode cX7_falls 9 = .ok (.invokestatic 82, 3) := by decide +kernel
theorem dX7_falls_12 : decode cX7_falls 12 = .ok (.ifCond .eq 12, 3) := by decide +kernel
theorem dX7_falls_15 : decode cX7_falls 15 = .ok (.iload_n 3, 1) := by decide +kernel
theorem dX7_falls_16 : decode cX7_falls 16 = .ok (.iconst 0, 1) := by decide +kernel
theorem dX7_falls_17 : decode cX7_falls 17 = .ok (.iconst 1, 1) := by decide +kernel
theorem dX7_falls_18 : decode cX7_falls 18 = .ok (.invokestatic 85, 3) := by decide +kernel
theorem dX7_falls_21 : decode cX7_falls 21 = .ok (.ifCond .ne 6, 3) := by decide +kernel
theorem dX7_falls_24 : decode cX7_falls 24 = .ok (.bipush (-2), 2) := by decide +kernel
theorem dX7_falls_26 : decode cX7_falls 26 = .ok (.ireturn, 1) := by decide +kernel
theorem dX7_falls_27 : decode cX7_falls 27 = .ok (.aload_n 0, 1) := by decide +kernel
theorem dX7_falls_28 : decode cX7_falls 28 = .ok (.invokevirtual 140, 3) := by decide +kernel
theorem dX7_falls_31 : decode cX7_falls 31 = .ok (.getfield 144, 3) := by decide +kernel
theorem dX7_falls_34 : decode cX7_falls 34 = .ok (.astore 4, 2) := by decide +kernel
theorem dX7_falls_36 : decode cX7_falls 36 = .ok (.aload 4, 2) := by decide +kernel
theorem dX7_falls_38 : decode cX7_falls 38 = .ok (.iload_n 1, 1) := by decide +kernel
theorem dX7_falls_39 : decode cX7_falls 39 = .ok (.iload_n 2, 1) := by decide +kernel
theorem dX7_falls_40 : decode cX7_falls 40 = .ok (.invokevirtual 148, 3) := by decide +kernel
theorem dX7_falls_43 : decode cX7_falls 43 = .ok (.istore 5, 2) := by decide +kernel
theorem dX7_falls_45 : decode cX7_falls 45 = .ok (.iload_n 3, 1) := by decide +kernel
theorem dX7_falls_46 : decode cX7_falls 46 = .ok (.iconst 1, 1) := by decide +kernel
theorem dX7_falls_47 : decode cX7_falls 47 = .ok (.if_icmp .ne 8, 3) := by decide +kernel
theorem dX7_falls_50 : decode cX7_falls 50 = .ok (.iload 5, 2) := by decide +kernel
theorem dX7_falls_52 : decode cX7_falls 52 = .ok (.goto 12, 3) := by decide +kernel
theorem dX7_falls_55 : decode cX7_falls 55 = .ok (.aload 4, 2) := by decide +kernel
theorem dX7_falls_57 : decode cX7_falls 57 = .ok (.iload_n 1, 1) := by decide +kernel
theorem dX7_falls_58 : decode cX7_falls 58 = .ok (.iload_n 2, 1) := by decide +kernel
theorem dX7_falls_59 : decode cX7_falls 59 = .ok (.iload 5, 2) := by decide +kernel
theorem dX7_falls_61 : decode cX7_falls 61 = .ok (.invokevirtual 153, 3) := by decide +kernel
theorem dX7_falls_64 : decode cX7_falls 64 = .ok (.ireturn, 1) := by decide +kernel
theorem dX7_feed_0 : decode cX7_feed 0 = .ok (.iload_n 1, 1) := by decide +kernel
theorem dX7_feed_1 : decode cX7_feed 1 = .ok (.iconst 0, 1) := by decide +kernel
theorem dX7_feed_2 : decode cX7_feed 2 = .ok (.sipush 255, 3) := by decide +kernel
theorem dX7_feed_5 : decode cX7_feed 5 = .ok (.invokestatic 85, 3) := by decide +kernel
theorem dX7_feed_8 : decode cX7_feed 8 = .ok (.ifCond .ne 6, 3) := by decide +kernel
theorem dX7_feed_11 : decode cX7_feed 11 = .ok (.bipush (-2), 2) := by decide +kernel
theorem dX7_feed_13 : decode cX7_feed 13 = .ok (.ireturn, 1) := by decide +kernel
theorem dX7_feed_14 : decode cX7_feed 14 = .ok (.aload_n 0, 1) := by decide +kernel
theorem dX7_feed_15 : decode cX7_feed 15 = .ok (.getfield 22, 3) := by decide +kernel
theorem dX7_feed_18 : decode cX7_feed 18 = .ok (.iload_n 1, 1) := by decide +kernel
theorem dX7_feed_19 : decode cX7_feed 19 = .ok (.invokevirtual 52, 3) := by decide +kernel
theorem dX7_feed_22 : decode cX7_feed 22 = .ok (.ifCond .eq 13, 3) := by decide +kernel
theorem dX7_feed_25 : decode cX7_feed 25 = .ok (.aload_n 0, 1) := by decide +kernel
theorem dX7_feed_26 : decode cX7_feed 26 = .ok (.getfield 22, 3) := by decide +kernel
theorem dX7_feed_29 : decode cX7_feed 29 = .ok (.getfield 157, 3) := by decide +kernel
theorem dX7_feed_32 : decode cX7_feed 32 = .ok (.goto 5, 3) := by decide +kernel
theorem dX7_feed_35 : decode cX7_feed 35 = .ok (.bipush (-4), 2) := by decide +kernel
theorem dX7_feed_37 : decode cX7_feed 37 = .ok (.ireturn, 1) := by decide +kernel
theorem dX7_text_0 : decode cX7_text 0 = .ok (.aload_n 0, 1) := by decide +kernel
theorem dX7_text_1 : decode cX7_text 1 = .ok (.getfield 60, 3) := by decide +kernel
theorem dX7_text_4 : decode cX7_text 4 = .ok (.iconst 0, 1) := by decide +kernel
theorem dX7_text_5 : decode cX7_text 5 = .ok (.iconst 5, 1) := by decide +kernel
theorem dX7_text_6 : decode cX7_text 6 = .ok (.invokestatic 85, 3) := by decide +kernel
theorem dX7_text_9 : decode cX7_text 9 = .ok (.ifCond .ne 6, 3) := by decide +kernel
theorem dX7_text_12 : decode cX7_text 12 = .ok (.bipush (-4), 2) := by decide +kernel
theorem dX7_text_14 : decode cX7_text 14 = .ok (.ireturn, 1) := by decide +kernel
theorem dX7_text_15 : decode cX7_text 15 = .ok (.aload_n 0, 1) := by decide +kernel
theorem dX7_text_16 : decode cX7_text 16 = .ok (.getfield 22, 3) := by decide +kernel
theorem dX7_text_19 : decode cX7_text 19 = .ok (.aload_n 0, 1) := by decide +kernel
theorem dX7_text_20 : decode cX7_text 20 = .ok (.getfield 28, 3) := by decide +kernel
theorem dX7_text_23 : decode cX7_text 23 = .ok (.aload_n 0, 1) := by decide +kernel
theorem dX7_text_24 : decode cX7_text 24 = .ok (.getfield 60, 3) := by decide +kernel
theorem dX7_text_27 : decode cX7_text 27 = .ok (.aaload, 1) := by decide +kernel
theorem dX7_text_28 : decode cX7_text 28 = .ok (.invokevirtual 56, 3) := by decide +kernel
theorem dX7_text_31 : decode cX7_text 31 = .ok (.istore_n 1, 1) := by decide +kernel
theorem dX7_text_32 : decode cX7_text 32 = .ok (.iload_n 1, 1) := by decide +kernel
theorem dX7_text_33 : decode cX7_text 33 = .ok (.iconst (-1), 1) := by decide +kernel
theorem dX7_text_34 : decode cX7_text 34 = .ok (.if_icmp .eq 8, 3) := by decide +kernel
theorem dX7_text_37 : decode cX7_text 37 = .ok (.bipush (-100), 2) := by decide +kernel
theorem dX7_text_39 : decode cX7_text 39 = .ok (.iload_n 1, 1) := by decide +kernel
theorem dX7_text_40 : decode cX7_text 40 = .ok (.isub, 1) := by decide +kernel
theorem dX7_text_41 : decode cX7_text 41 = .ok (.ireturn, 1) := by decide +kernel
theorem dX7_text_42 : decode cX7_text 42 = .ok (.aload_n 0, 1) := by decide +kernel
theorem dX7_text_43 : decode cX7_text 43 = .ok (.dup, 1) := by decide +kernel
theorem dX7_text_44 : decode cX7_text 44 = .ok (.getfield 60, 3) := by decide +kernel
theorem dX7_text_47 : decode cX7_text 47 = .ok (.iconst 1, 1) := by decide +kernel
theorem dX7_text_48 : decode cX7_text 48 = .ok (.iadd, 1) := by decide +kernel
theorem dX7_text_49 : decode cX7_text 49 = .ok (.putfield 60, 3) := by decide +kernel
theorem dX7_text_52 : decode cX7_text 52 = .ok (.aload_n 0, 1) := by decide +kernel
theorem dX7_text_53 : decode cX7_text 53 = .ok (.getfield 60, 3) := by decide +kernel
theorem dX7_text_56 : decode cX7_text 56 = .ok (.iconst 1, 1) := by decide +kernel
theorem dX7_text_57 : decode cX7_text 57 = .ok (.isub, 1) := by decide +kernel
theorem dX7_text_58 : decode cX7_text 58 = .ok (.ireturn, 1) := by decide +kernel
theorem dX7_force_0 : decode cX7_force 0 = .ok (.iload_n 1, 1) := by decide +kernel
theorem dX7_force_1 : decode cX7_force 1 = .ok (.iconst 0, 1) := by decide +kernel
theorem dX7_force_2 : decode cX7_force 2 = .ok (.aload_n 0, 1) := by decide +kernel
theorem dX7_force_3 : decode cX7_force 3 = .ok (.getfield 60, 3) := by decide +kernel
theorem dX7_force_6 : decode cX7_force 6 = .ok (.iconst 1, 1) := by decide +kernel
theorem dX7_force_7 : decode cX7_force 7 = .ok (.isub, 1) := by decide +kernel
theorem dX7_force_8 : decode cX7_force 8 = .ok (.invokestatic 85, 3) := by decide +kernel
theorem dX7_force_11 : decode cX7_force 11 = .ok (.ifCond .ne 6, 3) := by decide +kernel
theorem dX7_force_14 : decode cX7_force 14 = .ok (.bipush (-2), 2) := by decide +kernel
theorem dX7_force_16 : decode cX7_force 16 = .ok (.ireturn, 1) := by decide +kernel
theorem dX7_force_17 : decode cX7_force 17 = .ok (.aload_n 0, 1) := by decide +kernel
theorem dX7_force_18 : decode cX7_force 18 = .ok (.getfield 12, 3) := by decide +kernel
theorem dX7_force_21 : decode cX7_force 21 = .ok (.getfield 159, 3) := by decide +kernel
theorem dX7_force_24 : decode cX7_force 24 = .ok (.istore_n 2, 1) := by decide +kernel
theorem dX7_force_25 : decode cX7_force 25 = .ok (.aload_n 0, 1) := by decide +kernel
theorem dX7_force_26 : decode cX7_force 26 = .ok (.getfield 12, 3) := by decide +kernel
theorem dX7_force_29 : decode cX7_force 29 = .ok (.iload_n 1, 1) := by decide +kernel
theorem dX7_force_30 : decode cX7_force 30 = .ok (.putfield 159, 3) := by decide +kernel
theorem dX7_force_33 : decode cX7_force 33 = .ok (.iload_n 2, 1) := by decide +kernel
theorem dX7_force_34 : decode cX7_force 34 = .ok (.ireturn, 1) := by decide +kernel
theorem dX7_day_0 : decode cX7_day 0 = .ok (.iload_n 1, 1) := by decide +kernel
theorem dX7_day_1 : decode cX7_day 1 = .ok (.iconst 0, 1) := by decide +kernel
theorem dX7_day_2 : decode cX7_day 2 = .ok (.iconst 5, 1) := by decide +kernel
theorem dX7_day_3 : decode cX7_day 3 = .ok (.invokestatic 85, 3) := by decide +kernel
theorem dX7_day_6 : decode cX7_day 6 = .ok (.ifCond .ne 6, 3) := by decide +kernel
theorem dX7_day_9 : decode cX7_day 9 = .ok (.bipush (-2), 2) := by decide +kernel
theorem dX7_day_11 : decode cX7_day 11 = .ok (.ireturn, 1) := by decide +kernel
theorem dX7_day_12 : decode cX7_day 12 = .ok (.aload_n 0, 1) := by decide +kernel
theorem dX7_day_13 : decode cX7_day 13 = .ok (.invokevirtual 140, 3) := by decide +kernel
theorem dX7_day_16 : decode cX7_day 16 = .ok (.invokevirtual 161, 3) := by decide +kernel
theorem dX7_day_19 : decode cX7_day 19 = .ok (.istore_n 2, 1) := by decide +kernel
theorem dX7_day_20 : decode cX7_day 20 = .ok (.iload_n 1, 1) := by decide +kernel
theorem dX7_day_21 : decode cX7_day 21 = .ok (.tableswitch 69 0 4 #[35, 43, 51, 53, 61], 35) := by decide +kernel
theorem dX7_day_56 : decode cX7_day 56 = .ok (.aload_n 0, 1) := by decide +kernel
theorem dX7_day_57 : decode cX7_day 57 = .ok (.getfield 78, 3) := by decide +kernel
theorem dX7_day_60 : decode cX7_day 60 = .ok (.getfield 164, 3) := by decide +kernel
theorem dX7_day_63 : decode cX7_day 63 = .ok (.ireturn, 1) := by decide +kernel
theorem dX7_day_64 : decode cX7_day 64 = .ok (.aload_n 0, 1) := by decide +kernel
theorem dX7_day_65 : decode cX7_day 65 = .ok (.getfield 78, 3) := by decide +kernel
theorem dX7_day_68 : decode cX7_day 68 = .ok (.getfield 167, 3) := by decide +kernel
theorem dX7_day_71 : decode cX7_day 71 = .ok (.ireturn, 1) := by decide +kernel
theorem dX7_day_72 : decode cX7_day 72 = .ok (.iload_n 2, 1) := by decide +kernel
theorem dX7_day_73 : decode cX7_day 73 = .ok (.ireturn, 1) := by decide +kernel
theorem dX7_day_74 : decode cX7_day 74 = .ok (.aload_n 0, 1) := by decide +kernel
theorem dX7_day_75 : decode cX7_day 75 = .ok (.getfield 78, 3) := by decide +kernel
theorem dX7_day_78 : decode cX7_day 78 = .ok (.getfield 170, 3) := by decide +kernel
theorem dX7_day_81 : decode cX7_day 81 = .ok (.ireturn, 1) := by decide +kernel
theorem dX7_day_82 : decode cX7_day 82 = .ok (.aload_n 0, 1) := by decide +kernel
theorem dX7_day_83 : decode cX7_day 83 = .ok (.getfield 78, 3) := by decide +kernel
theorem dX7_day_86 : decode cX7_day 86 = .ok (.getfield 173, 3) := by decide +kernel
theorem dX7_day_89 : decode cX7_day 89 = .ok (.ireturn, 1) := by decide +kernel
theorem dX7_day_90 : decode cX7_day 90 = .ok (.aload_n 0, 1) := by decide +kernel
theorem dX7_day_91 : decode cX7_day 91 = .ok (.getfield 78, 3) := by decide +kernel
theorem dX7_day_94 : decode cX7_day 94 = .ok (.getfield 176, 3) := by decide +kernel
theorem dX7_day_97 : decode cX7_day 97 = .ok (.ireturn, 1) := by decide +kernel
theorem dX7_water_0 : decode cX7_water 0 = .ok (.iload_n 3, 1) := by decide +kernel
theorem dX7_water_1 : decode cX7_water 1 = .ok (.iconst 0, 1) := by decide +kernel
theorem dX7_water_2 : decode cX7_water 2 = .ok (.iconst 1, 1) := by decide +kernel
theorem dX7_water_3 : decode cX7_water 3 = .ok (.invokestatic 85, 3) := by decide +kernel
theorem dX7_water_6 : decode cX7_water 6 = .ok (.ifCond .eq 32, 3) := by decide +kernel
theorem dX7_water_9 : decode cX7_water 9 = .ok (.iload_n 2, 1) := by decide +kernel
theorem dX7_water_10 : decode cX7_water 10 = .ok (.invokestatic 82, 3) := by decide +kernel
theorem dX7_water_13 : decode cX7_water 13 = .ok (.ifCond .eq 25, 3) := by decide +kernel
theorem dX7_water_16 : decode cX7_water 16 = .ok (.iload_n 3, 1) := by decide +kernel
theorem dX7_water_17 : decode cX7_water 17 = .ok (.ifCond .ne 14, 3) := by decide +kernel
theorem dX7_water_20 : decode cX7_water 20 = .ok (.aload_n 0, 1) := by decide +kernel
theorem dX7_water_21 : decode cX7_water 21 = .ok (.iload_n 1, 1) := by decide +kernel
theorem dX7_water_22 : decode cX7_water 22 = .ok (.invokevirtual 137, 3) := by decide +kernel
theorem dX7_water_25 : decode cX7_water 25 = .ok (.ifCond .eq 13, 3) := by decide +kernel
theorem dX7_water_28 : decode cX7_water 28 = .ok (.goto 13, 3) := by decide +kernel
theorem dX7_water_31 : decode cX7_water 31 = .ok (.iload_n 1, 1) := by decide +kernel
theorem dX7_water_32 : decode cX7_water 32 = .ok (.invokestatic 110, 3) := by decide +kernel
theorem dX7_water_35 : decode cX7_water 35 = .ok (.ifCond .ne 6, 3) := by decide +kernel
theorem dX7_water_38 : decode cX7_water 38 = .ok (.bipush (-2), 2) := by decide +kernel
theorem dX7_water_40 : decode cX7_water 40 = .ok (.ireturn, 1) := by decide +kernel
theorem dX7_water_41 : decode cX7_water 41 = .ok (.aload_n 0, 1) := by decide +kernel
theorem dX7_water_42 : decode cX7_water 42 = .ok (.invokevirtual 140, 3) := by decide +kernel
theorem dX7_water_45 : decode cX7_water 45 = .ok (.invokevirtual 179, 3) := by decide +kernel
theorem dX7_water_48 : decode cX7_water 48 = .ok (.aload_n 0, 1) := by decide +kernel
theorem dX7_water_49 : decode cX7_water 49 = .ok (.getfield 78, 3) := by decide +kernel
theorem dX7_water_52 : decode cX7_water 52 = .ok (.iload_n 2, 1) := by decide +kernel
theorem dX7_water_53 : decode cX7_water 53 = .ok (.iconst 1, 1) := by decide +kernel
theorem dX7_water_54 : decode cX7_water 54 = .ok (.iadd, 1) := by decide +kernel
theorem dX7_water_55 : decode cX7_water 55 = .ok (.ldc 182, 2) := by decide +kernel
theorem dX7_water_57 : decode cX7_water 57 = .ok (.invokevirtual 183, 3) := by decide +kernel
theorem dX7_water_60 : decode cX7_water 60 = .ok (.iload_n 3, 1) := by decide +kernel
theorem dX7_water_61 : decode cX7_water 61 = .ok (.ifCond .ne 15, 3) := by decide +kernel
theorem dX7_water_64 : decode cX7_water 64 = .ok (.aload_n 0, 1) := by decide +kernel
theorem dX7_water_65 : decode cX7_water 65 = .ok (.getfield 78, 3) := by decide +kernel
theorem dX7_water_68 : decode cX7_water 68 = .ok (.getfield 187, 3) := by decide +kernel
theorem dX7_water_71 : decode cX7_water 71 = .ok (.iload_n 1, 1) := by decide +kernel
theorem dX7_water_72 : decode cX7_water 72 = .ok (.iaload, 1) := by decide +kernel
theorem dX7_water_73 : decode cX7_water 73 = .ok (.goto 12, 3) := by decide +kernel
theorem dX7_water_76 : decode cX7_water 76 = .ok (.aload_n 0, 1) := by decide +kernel
theorem dX7_water_77 : decode cX7_water 77 = .ok (.getfield 78, 3) := by decide +kernel
theorem dX7_water_80 : decode cX7_water 80 = .ok (.getfield 188, 3) := by decide +kernel
theorem dX7_water_83 : decode cX7_water 83 = .ok (.iload_n 1, 1) := by decide +kernel
theorem dX7_water_84 : decode cX7_water 84 = .ok (.iaload, 1) := by decide +kernel
theorem dX7_water_85 : decode cX7_water 85 = .ok (.ireturn, 1) := by decide +kernel
theorem dX7_pass_0 : decode cX7_pass 0 = .ok (.iload_n 1, 1) := by decide +kernel
theorem dX7_pass_1 : decode cX7_pass 1 = .ok (.iconst 0, 1) := by decide +kernel
theorem dX7_pass_2 : decode cX7_pass 2 = .ok (.bipush 24, 2) := by decide +kernel
theorem dX7_pass_4 : decode cX7_pass 4 = .ok (.invokestatic 85, 3) := by decide +kernel
theorem dX7_pass_7 : decode cX7_pass 7 = .ok (.ifCond .ne 6, 3) := by decide +kernel
theorem dX7_pass_10 : decode cX7_pass 10 = .ok (.bipush (-2), 2) := by decide +kernel
theorem dX7_pass_12 : decode cX7_pass 12 = .ok (.ireturn, 1) := by decide +kernel
theorem dX7_pass_13 : decode cX7_pass 13 = .ok (.aload_n 0, 1) := by decide +kernel
theorem dX7_pass_14 : decode cX7_pass 14 = .ok (.invokevirtual 140, 3) := by decide +kernel
theorem dX7_pass_17 : decode cX7_pass 17 = .ok (.invokevirtual 179, 3) := by decide +kernel
theorem dX7_pass_20 : decode cX7_pass 20 = .ok (.aload_n 0, 1) := by decide +kernel
theorem dX7_pass_21 : decode cX7_pass 21 = .ok (.getfield 78, 3) := by decide +kernel
theorem dX7_pass_24 : decode cX7_pass 24 = .ok (.iload_n 1, 1) := by decide +kernel
theorem dX7_pass_25 : decode cX7_pass 25 = .ok (.ldc 182, 2) := by decide +kernel
theorem dX7_pass_27 : decode cX7_pass 27 = .ok (.invokevirtual 183, 3) := by decide +kernel
theorem dX7_pass_30 : decode cX7_pass 30 = .ok (.iconst 0, 1) := by decide +kernel
theorem dX7_pass_31 : decode cX7_pass 31 = .ok (.istore_n 2, 1) := by decide +kernel
theorem dX7_pass_32 : decode cX7_pass 32 = .ok (.iload_n 2, 1) := by decide +kernel
theorem dX7_pass_33 : decode cX7_pass 33 = .ok (.iconst 5, 1) := by decide +kernel
theorem dX7_pass_34 : decode cX7_pass 34 = .ok (.if_icmp .ge 27, 3) := by decide +kernel
theorem dX7_pass_37 : decode cX7_pass 37 = .ok (.aload_n 0, 1) := by decide +kernel
theorem dX7_pass_38 : decode cX7_pass 38 = .ok (.getfield 12, 3) := by decide +kernel
theorem dX7_pass_41 : decode cX7_pass 41 = .ok (.getfield 134, 3) := by decide +kernel
theorem dX7_pass_44 : decode cX7_pass 44 = .ok (.iload_n 2, 1) := by decide +kernel
theorem dX7_pass_45 : decode cX7_pass 45 = .ok (.aload_n 0, 1) := by decide +kernel
theorem dX7_pass_46 : decode cX7_pass 46 = .ok (.getfield 78, 3) := by decide +kernel
theorem dX7_pass_49 : decode cX7_pass 49 = .ok (.getfield 187, 3) := by decide +kernel
theorem dX7_pass_52 : decode cX7_pass 52 = .ok (.iload_n 2, 1) := by decide +kernel
theorem dX7_pass_53 : decode cX7_pass 53 = .ok (.iaload, 1) := by decide +kernel
theorem dX7_pass_54 : decode cX7_pass 54 = .ok (.iastore, 1) := by decide +kernel
theorem dX7_pass_55 : decode cX7_pass 55 = .ok (.iinc 2 1, 3) := by decide +kernel
theorem dX7_pass_58 : decode cX7_pass 58 = .ok (.goto (-26), 3) := by decide +kernel
theorem dX7_pass_61 : decode cX7_pass 61 = .ok (.aload_n 0, 1) := by decide +kernel
theorem dX7_pass_62 : decode cX7_pass 62 = .ok (.getfield 78, 3) := by decide +kernel
theorem dX7_pass_65 : decode cX7_pass 65 = .ok (.invokevirtual 191, 3) := by decide +kernel
theorem dX7_pass_68 : decode cX7_pass 68 = .ok (.ireturn, 1) := by decide +kernel
theorem dX7_stand_0 : decode cX7_stand 0 = .ok (.iload_n 1, 1) := by decide +kernel
theorem dX7_stand_1 : decode cX7_stand 1 = .ok (.iconst (-1), 1) := by decide +kernel
theorem dX7_stand_2 : decode cX7_stand 2 = .ok (.if_icmp .eq 14, 3) := by decide +kernel
theorem dX7_stand_5 : decode cX7_stand 5 = .ok (.aload_n 0, 1) := by decide +kernel
theorem dX7_stand_6 : decode cX7_stand 6 = .ok (.iload_n 1, 1) := by decide +kernel
theorem dX7_stand_7 : decode cX7_stand 7 = .ok (.invokevirtual 137, 3) := by decide +kernel
theorem dX7_stand_10 : decode cX7_stand 10 = .ok (.ifCond .ne 6, 3) := by decide +kernel
theorem dX7_stand_13 : decode cX7_stand 13 = .ok (.bipush (-2), 2) := by decide +kernel
theorem dX7_stand_15 : decode cX7_stand 15 = .ok (.ireturn, 1) := by decide +kernel
theorem dX7_stand_16 : decode cX7_stand 16 = .ok (.aload_n 0, 1) := by decide +kernel
theorem dX7_stand_17 : decode cX7_stand 17 = .ok (.invokevirtual 140, 3) := by decide +kernel
theorem dX7_stand_20 : decode cX7_stand 20 = .ok (.invokevirtual 179, 3) := by decide +kernel
theorem dX7_stand_23 : decode cX7_stand 23 = .ok (.ldc2_w 194, 3) := by decide +kernel
theorem dX7_stand_26 : decode cX7_stand 26 = .ok (.lstore_n 2, 1) := by decide +kernel
theorem dX7_stand_27 : decode cX7_stand 27 = .ok (.iconst 0, 1) := by decide +kernel
theorem dX7_stand_28 : decode cX7_stand 28 = .ok (.istore 4, 2) := by decide +kernel
theorem dX7_stand_30 : decode cX7_stand 30 = .ok (.iload 4, 2) := by decide +kernel
theorem dX7_stand_32 : decode cX7_stand 32 = .ok (.iconst 1, 1) := by decide +kernel
theorem dX7_stand_33 : decode cX7_stand 33 = .ok (.iconst 3, 1) := by decide +kernel
theorem dX7_stand_34 : decode cX7_stand 34 = .ok (.aload_n 0, 1) := by decide +kernel
theorem dX7_stand_35 : decode cX7_stand 35 = .ok (.getfield 12, 3) := by decide +kernel
theorem dX7_stand_38 : decode cX7_stand 38 = .ok (.getfield 125, 3) := by decide +kernel
theorem dX7_stand_41 : decode cX7_stand 41 = .ok (.imul, 1) := by decide +kernel
theorem dX7_stand_42 : decode cX7_stand 42 = .ok (.ishl, 1) := by decide +kernel
theorem dX7_stand_43 : decode cX7_stand 43 = .ok (.if_icmp .ge 32, 3) := by decide +kernel
theorem dX7_stand_46 : decode cX7_stand 46 = .ok (.aload_n 0, 1) := by decide +kernel
theorem dX7_stand_47 : decode cX7_stand 47 = .ok (.getfield 78, 3) := by decide +kernel
theorem dX7_stand_50 : decode cX7_stand 50 = .ok (.iload 4, 2) := by decide +kernel
theorem dX7_stand_52 : decode cX7_stand 52 = .ok (.invokevirtual 196, 3) := by decide +kernel
theorem dX7_stand_55 : decode cX7_stand 55 = .ok (.ifCond .eq 14, 3) := by decide +kernel
theorem dX7_stand_58 : decode cX7_stand 58 = .ok (.aload_n 0, 1) := by decide +kernel
theorem dX7_stand_59 : decode cX7_stand 59 = .ok (.getfield 78, 3) := by decide +kernel
theorem dX7_stand_62 : decode cX7_stand 62 = .ok (.lload_n 2, 1) := by decide +kernel
theorem dX7_stand_63 : decode cX7_stand 63 = .ok (.iload 4, 2) := by decide +kernel
theorem dX7_stand_65 : decode cX7_stand 65 = .ok (.invokevirtual 199, 3) := by decide +kernel
theorem dX7_stand_68 : decode cX7_stand 68 = .ok (.lstore_n 2, 1) := by decide +kernel
theorem dX7_stand_69 : decode cX7_stand 69 = .ok (.iinc 4 1, 3) := by decide +kernel
theorem dX7_stand_72 : decode cX7_stand 72 = .ok (.goto (-42), 3) := by decide +kernel
theorem dX7_stand_75 : decode cX7_stand 75 = .ok (.iload_n 1, 1) := by decide +kernel
theorem dX7_stand_76 : decode cX7_stand 76 = .ok (.iconst (-1), 1) := by decide +kernel
theorem dX7_stand_77 : decode cX7_stand 77 = .ok (.if_icmp .ne 10, 3) := by decide +kernel
theorem dX7_stand_80 : decode cX7_stand 80 = .ok (.lload_n 2, 1) := by decide +kernel
theorem dX7_stand_81 : decode cX7_stand 81 = .ok (.invokestatic 203, 3) := by decide +kernel
theorem dX7_stand_84 : decode cX7_stand 84 = .ok (.goto 15, 3) := by decide +kernel
theorem dX7_stand_87 : decode cX7_stand 87 = .ok (.aload_n 0, 1) := by decide +kernel
theorem dX7_stand_88 : decode cX7_stand 88 = .ok (.getfield 78, 3) := by decide +kernel
theorem dX7_stand_91 : decode cX7_stand 91 = .ok (.lload_n 2, 1) := by decide +kernel
theorem dX7_stand_92 : decode cX7_stand 92 = .ok (.invokestatic 207, 3) := by decide +kernel
theorem dX7_stand_95 : decode cX7_stand 95 = .ok (.iload_n 1, 1) := by decide +kernel
theorem dX7_stand_96 : decode cX7_stand 96 = .ok (.invokevirtual 210, 3) := by decide +kernel
theorem dX7_stand_99 : decode cX7_stand 99 = .ok (.ireturn, 1) := by decide +kernel
theorem dX7_rise_0 : decode cX7_rise 0 = .ok (.iload_n 1, 1) := by decide +kernel
theorem dX7_rise_1 : decode cX7_rise 1 = .ok (.iconst 0, 1) := by decide +kernel
theorem dX7_rise_2 : decode cX7_rise 2 = .ok (.iconst 3, 1) := by decide +kernel
theorem dX7_rise_3 : decode cX7_rise 3 = .ok (.invokestatic 85, 3) := by decide +kernel
theorem dX7_rise_6 : decode cX7_rise 6 = .ok (.ifCond .eq 12, 3) := by decide +kernel
theorem dX7_rise_9 : decode cX7_rise 9 = .ok (.iload_n 2, 1) := by decide +kernel
theorem dX7_rise_10 : decode cX7_rise 10 = .ok (.iconst 0, 1) := by decide +kernel
theorem dX7_rise_11 : decode cX7_rise 11 = .ok (.iconst 1, 1) := by decide +kernel
theorem dX7_rise_12 : decode cX7_rise 12 = .ok (.invokestatic 85, 3) := by decide +kernel
theorem dX7_rise_15 : decode cX7_rise 15 = .ok (.ifCond .ne 6, 3) := by decide +kernel
theorem dX7_rise_18 : decode cX7_rise 18 = .ok (.bipush (-2), 2) := by decide +kernel
theorem dX7_rise_20 : decode cX7_rise 20 = .ok (.ireturn, 1) := by decide +kernel
theorem dX7_rise_21 : decode cX7_rise 21 = .ok (.aload_n 0, 1) := by decide +kernel
theorem dX7_rise_22 : decode cX7_rise 22 = .ok (.invokevirtual 140, 3) := by decide +kernel
theorem dX7_rise_25 : decode cX7_rise 25 = .ok (.invokevirtual 179, 3) := by decide +kernel
theorem dX7_rise_28 : decode cX7_rise 28 = .ok (.aload_n 0, 1) := by decide +kernel
theorem dX7_rise_29 : decode cX7_rise 29 = .ok (.getfield 78, 3) := by decide +kernel
theorem dX7_rise_32 : decode cX7_rise 32 = .ok (.iload_n 1, 1) := by decide +kernel
theorem dX7_rise_33 : decode cX7_rise 33 = .ok (.bipush 24, 2) := by decide +kernel
theorem dX7_rise_35 : decode cX7_rise 35 = .ok (.iconst 0, 1) := by decide +kernel
theorem dX7_rise_36 : decode cX7_rise 36 = .ok (.ldc2_w 194, 3) := by decide +kernel
theorem dX7_rise_39 : decode cX7_rise 39 = .ok (.invokestatic 213, 3) := by decide +kernel
theorem dX7_rise_42 : decode cX7_rise 42 = .ok (.lstore_n 3, 1) := by decide +kernel
theorem dX7_rise_43 : decode cX7_rise 43 = .ok (.iload_n 2, 1) := by decide +kernel
theorem dX7_rise_44 : decode cX7_rise 44 = .ok (.ifCond .ne 10, 3) := by decide +kernel
theorem dX7_rise_47 : decode cX7_rise 47 = .ok (.lload_n 3, 1) := by decide +kernel
theorem dX7_rise_48 : decode cX7_rise 48 = .ok (.invokestatic 203, 3) := by decide +kernel
theorem dX7_rise_51 : decode cX7_rise 51 = .ok (.goto 7, 3) := by decide +kernel
theorem dX7_rise_54 : decode cX7_rise 54 = .ok (.lload_n 3, 1) := by decide +kernel
theorem dX7_rise_55 : decode cX7_rise 55 = .ok (.invokestatic 207, 3) := by decide +kernel
theorem dX7_rise_58 : decode cX7_rise 58 = .ok (.ireturn, 1) := by decide +kernel
theorem dX7_lead_0 : decode cX7_lead 0 = .ok (.iload_n 1, 1) := by decide +kernel
theorem dX7_lead_1 : decode cX7_lead 1 = .ok (.iconst 0, 1) := by decide +kernel
theorem dX7_lead_2 : decode cX7_lead 2 = .ok (.iconst 1, 1) := by decide +kernel
theorem dX7_lead_3 : decode cX7_lead 3 = .ok (.invokestatic 85, 3) := by decide +kernel
theorem dX7_lead_6 : decode cX7_lead 6 = .ok (.ifCond .ne 6, 3) := by decide +kernel
theorem dX7_lead_9 : decode cX7_lead 9 = .ok (.bipush (-2), 2) := by decide +kernel
theorem dX7_lead_11 : decode cX7_lead 11 = .ok (.ireturn, 1) := by decide +kernel
theorem dX7_lead_12 : decode cX7_lead 12 = .ok (.aload_n 0, 1) := by decide +kernel
theorem dX7_lead_13 : decode cX7_lead 13 = .ok (.invokevirtual 140, 3) := by decide +kernel
theorem dX7_lead_16 : decode cX7_lead 16 = .ok (.invokevirtual 179, 3) := by decide +kernel
theorem dX7_lead_19 : decode cX7_lead 19 = .ok (.aload_n 0, 1) := by decide +kernel
theorem dX7_lead_20 : decode cX7_lead 20 = .ok (.getfield 78, 3) := by decide +kernel
theorem dX7_lead_23 : decode cX7_lead 23 = .ok (.ldc2_w 194, 3) := by decide +kernel
theorem dX7_lead_26 : decode cX7_lead 26 = .ok (.iconst (-1), 1) := by decide +kernel
theorem dX7_lead_27 : decode cX7_lead 27 = .ok (.invokevirtual 199, 3) := by decide +kernel
theorem dX7_lead_30 : decode cX7_lead 30 = .ok (.lstore_n 2, 1) := by decide +kernel
theorem dX7_lead_31 : decode cX7_lead 31 = .ok (.iconst 0, 1) := by decide +kernel
theorem dX7_lead_32 : decode cX7_lead 32 = .ok (.istore 4, 2) := by decide +kernel
theorem dX7_lead_34 : decode cX7_lead 34 = .ok (.iload 4, 2) := by decide +kernel
theorem dX7_lead_36 : decode cX7_lead 36 = .ok (.aload_n 0, 1) := by decide +kernel
theorem dX7_lead_37 : decode cX7_lead 37 = .ok (.getfield 12, 3) := by decide +kernel
theorem dX7_lead_40 : decode cX7_lead 40 = .ok (.getfield 119, 3) := by decide +kernel
theorem dX7_lead_43 : decode cX7_lead 43 = .ok (.if_icmp .ge 63, 3) := by decide +kernel
theorem dX7_lead_46 : decode cX7_lead 46 = .ok (.iconst 0, 1) := by decide +kernel
theorem dX7_lead_47 : decode cX7_lead 47 = .ok (.istore 5, 2) := by decide +kernel
theorem dX7_lead_49 : decode cX7_lead 49 = .ok (.iload 5, 2) := by decide +kernel
theorem dX7_lead_51 : decode cX7_lead 51 = .ok (.bipush 8, 2) := by decide +kernel
theorem dX7_lead_53 : decode cX7_lead 53 = .ok (.if_icmp .ge 47, 3) := by decide +kernel
theorem dX7_lead_56 : decode cX7_lead 56 = .ok (.aload_n 0, 1) := by decide +kernel
theorem dX7_lead_57 : decode cX7_lead 57 = .ok (.getfield 78, 3) := by decide +kernel
theorem dX7_lead_60 : decode cX7_lead 60 = .ok (.getfield 144, 3) := by decide +kernel
theorem dX7_lead_63 : decode cX7_lead 63 = .ok (.iload 4, 2) := by decide +kernel
theorem dX7_lead_65 : decode cX7_lead 65 = .ok (.iload 5, 2) := by decide +kernel
theorem dX7_lead_67 : decode cX7_lead 67 = .ok (.invokevirtual 217, 3) := by decide +kernel
theorem dX7_lead_70 : decode cX7_lead 70 = .ok (.aload_n 0, 1) := by decide +kernel
theorem dX7_lead_71 : decode cX7_lead 71 = .ok (.getfield 78, 3) := by decide +kernel
theorem dX7_lead_74 : decode cX7_lead 74 = .ok (.invokevirtual 179, 3) := by decide +kernel
theorem dX7_lead_77 : decode cX7_lead 77 = .ok (.aload_n 0, 1) := by decide +kernel
theorem dX7_lead_78 : decode cX7_lead 78 = .ok (.getfield 78, 3) := by decide +kernel
theorem dX7_lead_81 : decode cX7_lead 81 = .ok (.lload_n 2, 1) := by decide +kernel
theorem dX7_lead_82 : decode cX7_lead 82 = .ok (.bipush 10, 2) := by decide +kernel
theorem dX7_lead_84 : decode cX7_lead 84 = .ok (.iload 4, 2) := by decide +kernel
theorem dX7_lead_86 : decode cX7_lead 86 = .ok (.imul, 1) := by decide +kernel
theorem dX7_lead_87 : decode cX7_lead 87 = .ok (.iload 5, 2) := by decide +kernel
theorem dX7_lead_89 : decode cX7_lead 89 = .ok (.iadd, 1) := by decide +kernel
theorem dX7_lead_90 : decode cX7_lead 90 = .ok (.invokevirtual 199, 3) := by decide +kernel
theorem dX7_lead_93 : decode cX7_lead 93 = .ok (.lstore_n 2, 1) := by decide +kernel
theorem dX7_lead_94 : decode cX7_lead 94 = .ok (.iinc 5 1, 3) := by decide +kernel
theorem dX7_lead_97 : decode cX7_lead 97 = .ok (.goto (-48), 3) := by decide +kernel
theorem dX7_lead_100 : decode cX7_lead 100 = .ok (.iinc 4 1, 3) := by decide +kernel
theorem dX7_lead_103 : decode cX7_lead 103 = .ok (.goto (-69), 3) := by decide +kernel
theorem dX7_lead_106 : decode cX7_lead 106 = .ok (.iload_n 1, 1) := by decide +kernel
theorem dX7_lead_107 : decode cX7_lead 107 = .ok (.ifCond .ne 10, 3) := by decide +kernel
theorem dX7_lead_110 : decode cX7_lead 110 = .ok (.lload_n 2, 1) := by decide +kernel
theorem dX7_lead_111 : decode cX7_lead 111 = .ok (.invokestatic 207, 3) := by decide +kernel
theorem dX7_lead_114 : decode cX7_lead 114 = .ok (.goto 7, 3) := by decide +kernel
theorem dX7_lead_117 : decode cX7_lead 117 = .ok (.lload_n 2, 1) := by decide +kernel
theorem dX7_lead_118 : decode cX7_lead 118 = .ok (.invokestatic 203, 3) := by decide +kernel
theorem dX7_lead_121 : decode cX7_lead 121 = .ok (.ireturn, 1) := by decide +kernel
theorem dX7_gone_0 : decode cX7_gone 0 = .ok (.aload_n 0, 1) := by decide +kernel
theorem dX7_gone_1 : decode cX7_gone 1 = .ok (.invokevirtual 140, 3) := by decide +kernel
theorem dX7_gone_4 : decode cX7_gone 4 = .ok (.iconst 0, 1) := by decide +kernel
theorem dX7_gone_5 : decode cX7_gone 5 = .ok (.putfield 220, 3) := by decide +kernel
theorem dX7_gone_8 : decode cX7_gone 8 = .ok (.aload_n 0, 1) := by decide +kernel
theorem dX7_gone_9 : decode cX7_gone 9 = .ok (.getfield 78, 3) := by decide +kernel
theorem dX7_gone_12 : decode cX7_gone 12 = .ok (.invokevirtual 161, 3) := by decide +kernel
theorem dX7_gone_15 : decode cX7_gone 15 = .ok (.pop, 1) := by decide +kernel
theorem dX7_gone_16 : decode cX7_gone 16 = .ok (.aload_n 0, 1) := by decide +kernel
theorem dX7_gone_17 : decode cX7_gone 17 = .ok (.getfield 78, 3) := by decide +kernel
theorem dX7_gone_20 : decode cX7_gone 20 = .ok (.getfield 173, 3) := by decide +kernel
theorem dX7_gone_23 : decode cX7_gone 23 = .ok (.iconst (-1), 1) := by decide +kernel
theorem dX7_gone_24 : decode cX7_gone 24 = .ok (.if_icmp .ne 8, 3) := by decide +kernel
theorem dX7_gone_27 : decode cX7_gone 27 = .ok (.bipush 24, 2) := by decide +kernel
theorem dX7_gone_29 : decode cX7_gone 29 = .ok (.goto 10, 3) := by decide +kernel
theorem dX7_gone_32 : decode cX7_gone 32 = .ok (.aload_n 0, 1) := by decide +kernel
theorem dX7_gone_33 : decode cX7_gone 33 = .ok (.getfield 78, 3) := by decide +kernel
theorem dX7_gone_36 : decode cX7_gone 36 = .ok (.getfield 173, 3) := by decide +kernel
theorem dX7_gone_39 : decode cX7_gone 39 = .ok (.ireturn, 1) := by decide +kernel
theorem dX7_tile_0 : decode cX7_tile 0 = .ok (.aload_n 0, 1) := by decide +kernel
theorem dX7_tile_1 : decode cX7_tile 1 = .ok (.iload_n 1, 1) := by decide +kernel
theorem dX7_tile_2 : decode cX7_tile 2 = .ok (.invokevirtual 101, 3) := by decide +kernel
theorem dX7_tile_5 : decode cX7_tile 5 = .ok (.ifCond .ne 6, 3) := by decide +kernel
theorem dX7_tile_8 : decode cX7_tile 8 = .ok (.ldc 223, 2) := by decide +kernel
theorem dX7_tile_10 : decode cX7_tile 10 = .ok (.ireturn, 1) := by decide +kernel
theorem dX7_tile_11 : decode cX7_tile 11 = .ok (.aload_n 0, 1) := by decide +kernel
theorem dX7_tile_12 : decode cX7_tile 12 = .ok (.invokevirtual 140, 3) := by decide +kernel
theorem dX7_tile_15 : decode cX7_tile 15 = .ok (.invokevirtual 161, 3) := by decide +kernel
theorem dX7_tile_18 : decode cX7_tile 18 = .ok (.istore_n 2, 1) := by decide +kernel
theorem dX7_tile_19 : decode cX7_tile 19 = .ok (.aload_n 0, 1) := by decide +kernel
theorem dX7_tile_20 : decode cX7_tile 20 = .ok (.getfield 78, 3) := by decide +kernel
theorem dX7_tile_23 : decode cX7_tile 23 = .ok (.getfield 144, 3) := by decide +kernel
theorem dX7_tile_26 : decode cX7_tile 26 = .ok (.iload_n 1, 1) := by decide +kernel
theorem dX7_tile_27 : decode cX7_tile 27 = .ok (.iconst 0, 1) := by decide +kernel
theorem dX7_tile_28 : decode cX7_tile 28 = .ok (.invokevirtual 224, 3) := by decide +kernel
theorem dX7_tile_31 : decode cX7_tile 31 = .ok (.iload_n 2, 1) := by decide +kernel
theorem dX7_tile_32 : decode cX7_tile 32 = .ok (.aload_n 0, 1) := by decide +kernel
theorem dX7_tile_33 : decode cX7_tile 33 = .ok (.getfield 78, 3) := by decide +kernel
theorem dX7_tile_36 : decode cX7_tile 36 = .ok (.invokevirtual 161, 3) := by decide +kernel
theorem dX7_tile_39 : decode cX7_tile 39 = .ok (.isub, 1) := by decide +kernel
theorem dX7_tile_40 : decode cX7_tile 40 = .ok (.ireturn, 1) := by decide +kernel
theorem dX7_more_0 : decode cX7_more 0 = .ok (.aload_n 0, 1) := by decide +kernel
theorem dX7_more_1 : decode cX7_more 1 = .ok (.iload_n 1, 1) := by decide +kernel
theorem dX7_more_2 : decode cX7_more 2 = .ok (.invokevirtual 101, 3) := by decide +kernel
theorem dX7_more_5 : decode cX7_more 5 = .ok (.ifCond .eq 13, 3) := by decide +kernel
theorem dX7_more_8 : decode cX7_more 8 = .ok (.iload_n 2, 1) := by decide +kernel
theorem dX7_more_9 : decode cX7_more 9 = .ok (.iconst 1, 1) := by decide +kernel
theorem dX7_more_10 : decode cX7_more 10 = .ok (.bipush 9, 2) := by decide +kernel
theorem dX7_more_12 : decode cX7_more 12 = .ok (.invokestatic 85, 3) := by decide +kernel
theorem dX7_more_15 : decode cX7_more 15 = .ok (.ifCond .ne 6, 3) := by decide +kernel
theorem dX7_more_18 : decode cX7_more 18 = .ok (.ldc 223, 2) := by decide +kernel
theorem dX7_more_20 : decode cX7_more 20 = .ok (.ireturn, 1) := by decide +kernel
theorem dX7_more_21 : decode cX7_more 21 = .ok (.aload_n 0, 1) := by decide +kernel
theorem dX7_more_22 : decode cX7_more 22 = .ok (.invokevirtual 140, 3) := by decide +kernel
theorem dX7_more_25 : decode cX7_more 25 = .ok (.invokevirtual 161, 3) := by decide +kernel
theorem dX7_more_28 : decode cX7_more 28 = .ok (.istore_n 3, 1) := by decide +kernel
theorem dX7_more_29 : decode cX7_more 29 = .ok (.aload_n 0, 1) := by decide +kernel
theorem dX7_more_30 : decode cX7_more 30 = .ok (.getfield 78, 3) := by decide +kernel
theorem dX7_more_33 : decode cX7_more 33 = .ok (.getfield 144, 3) := by decide +kernel
theorem dX7_more_36 : decode cX7_more 36 = .ok (.iload_n 1, 1) := by decide +kernel
theorem dX7_more_37 : decode cX7_more 37 = .ok (.iconst 1, 1) := by decide +kernel
theorem dX7_more_38 : decode cX7_more 38 = .ok (.iload_n 2, 1) := by decide +kernel
theorem dX7_more_39 : decode cX7_more 39 = .ok (.iadd, 1) := by decide +kernel
theorem dX7_more_40 : decode cX7_more 40 = .ok (.invokevirtual 224, 3) := by decide +kernel
theorem dX7_more_43 : decode cX7_more 43 = .ok (.aload_n 0, 1) := by decide +kernel
theorem dX7_more_44 : decode cX7_more 44 = .ok (.getfield 78, 3) := by decide +kernel
theorem dX7_more_47 : decode cX7_more 47 = .ok (.invokevirtual 161, 3) := by decide +kernel
theorem dX7_more_50 : decode cX7_more 50 = .ok (.iload_n 3, 1) := by decide +kernel
theorem dX7_more_51 : decode cX7_more 51 = .ok (.isub, 1) := by decide +kernel
theorem dX7_more_52 : decode cX7_more 52 = .ok (.ireturn, 1) := by decide +kernel
theorem dX7_sorted_0 : decode cX7_sorted 0 = .ok (.iload_n 1, 1) := by decide +kernel
theorem dX7_sorted_1 : decode cX7_sorted 1 = .ok (.iconst 0, 1) := by decide +kernel
theorem dX7_sorted_2 : decode cX7_sorted 2 = .ok (.iconst 1, 1) := by decide +kernel
theorem dX7_sorted_3 : decode cX7_sorted 3 = .ok (.invokestatic 85, 3) := by decide +kernel
theorem dX7_sorted_6 : decode cX7_sorted 6 = .ok (.ifCond .ne 6, 3) := by decide +kernel
theorem dX7_sorted_9 : decode cX7_sorted 9 = .ok (.ldc 223, 2) := by decide +kernel
theorem dX7_sorted_11 : decode cX7_sorted 11 = .ok (.ireturn, 1) := by decide +kernel
theorem dX7_sorted_12 : decode cX7_sorted 12 = .ok (.aload_n 0, 1) := by decide +kernel
theorem dX7_sorted_13 : decode cX7_sorted 13 = .ok (.invokevirtual 140, 3) := by decide +kernel
theorem dX7_sorted_16 : decode cX7_sorted 16 = .ok (.pop, 1) := by decide +kernel
theorem dX7_sorted_17 : decode cX7_sorted 17 = .ok (.iload_n 1, 1) := by decide +kernel
theorem dX7_sorted_18 : decode cX7_sorted 18 = .ok (.ifCond .ne 37, 3) := by decide +kernel
theorem dX7_sorted_21 : decode cX7_sorted 21 = .ok (.aload_n 0, 1) := by decide +kernel
theorem dX7_sorted_22 : decode cX7_sorted 22 = .ok (.getfield 78, 3) := by decide +kernel
theorem dX7_sorted_25 : decode cX7_sorted 25 = .ok (.invokevirtual 161, 3) := by decide +kernel
theorem dX7_sorted_28 : decode cX7_sorted 28 = .ok (.istore_n 2, 1) := by decide +kernel
theorem dX7_sorted_29 : decode cX7_sorted 29 = .ok (.aload_n 0, 1) := by decide +kernel
theorem dX7_sorted_30 : decode cX7_sorted 30 = .ok (.getfield 78, 3) := by decide +kernel
theorem dX7_sorted_33 : decode cX7_sorted 33 = .ok (.iconst 1, 1) := by decide +kernel
theorem dX7_sorted_34 : decode cX7_sorted 34 = .ok (.aload_n 0, 1) := by decide +kernel
theorem dX7_sorted_35 : decode cX7_sorted 35 = .ok (.getfield 12, 3) := by decide +kernel
theorem dX7_sorted_38 : decode cX7_sorted 38 = .ok (.getfield 227, 3) := by decide +kernel
theorem dX7_sorted_41 : decode cX7_sorted 41 = .ok (.isub, 1) := by decide +kernel
theorem dX7_sorted_42 : decode cX7_sorted 42 = .ok (.putfield 230, 3) := by decide +kernel
theorem dX7_sorted_45 : decode cX7_sorted 45 = .ok (.aload_n 0, 1) := by decide +kernel
theorem dX7_sorted_46 : decode cX7_sorted 46 = .ok (.getfield 78, 3) := by decide +kernel
theorem dX7_sorted_49 : decode cX7_sorted 49 = .ok (.invokevirtual 161, 3) := by decide +kernel
theorem dX7_sorted_52 : decode cX7_sorted 52 = .ok (.iload_n 2, 1) := by decide +kernel
theorem dX7_sorted_53 : decode cX7_sorted 53 = .ok (.isub, 1) := by decide +kernel
theorem dX7_sorted_54 : decode cX7_sorted 54 = .ok (.ireturn, 1) := by decide +kernel
theorem dX7_sorted_55 : decode cX7_sorted 55 = .ok (.aload_n 0, 1) := by decide +kernel
theorem dX7_sorted_56 : decode cX7_sorted 56 = .ok (.getfield 78, 3) := by decide +kernel
theorem dX7_sorted_59 : decode cX7_sorted 59 = .ok (.iconst 5, 1) := by decide +kernel
theorem dX7_sorted_60 : decode cX7_sorted 60 = .ok (.putfield 231, 3) := by decide +kernel
theorem dX7_sorted_63 : decode cX7_sorted 63 = .ok (.aload_n 0, 1) := by decide +kernel
theorem dX7_sorted_64 : decode cX7_sorted 64 = .ok (.getfield 78, 3) := by decide +kernel
theorem dX7_sorted_67 : decode cX7_sorted 67 = .ok (.invokevirtual 161, 3) := by decide +kernel
theorem dX7_sorted_70 : decode cX7_sorted 70 = .ok (.istore_n 2, 1) := by decide +kernel
theorem dX7_sorted_71 : decode cX7_sorted 71 = .ok (.iconst 1, 1) := by decide +kernel
theorem dX7_sorted_72 : decode cX7_sorted 72 = .ok (.istore_n 3, 1) := by decide +kernel
theorem dX7_sorted_73 : decode cX7_sorted 73 = .ok (.iload_n 3, 1) := by decide +kernel
theorem dX7_sorted_74 : decode cX7_sorted 74 = .ok (.iconst 5, 1) := by decide +kernel
theorem dX7_sorted_75 : decode cX7_sorted 75 = .ok (.if_icmp .ge 30, 3) := by decide +kernel
theorem dX7_sorted_78 : decode cX7_sorted 78 = .ok (.aload_n 0, 1) := by decide +kernel
theorem dX7_sorted_79 : decode cX7_sorted 79 = .ok (.getfield 78, 3) := by decide +kernel
theorem dX7_sorted_82 : decode cX7_sorted 82 = .ok (.iload_n 3, 1) := by decide +kernel
theorem dX7_sorted_83 : decode cX7_sorted 83 = .ok (.putfield 231, 3) := by decide +kernel
theorem dX7_sorted_86 : decode cX7_sorted 86 = .ok (.aload_n 0, 1) := by decide +kernel
theorem dX7_sorted_87 : decode cX7_sorted 87 = .ok (.getfield 78, 3) := by decide +kernel
theorem dX7_sorted_90 : decode cX7_sorted 90 = .ok (.invokevirtual 161, 3) := by decide +kernel
theorem dX7_sorted_93 : decode cX7_sorted 93 = .ok (.iload_n 2, 1) := by decide +kernel
theorem dX7_sorted_94 : decode cX7_sorted 94 = .ok (.if_icmp .gt 5, 3) := by decide +kernel
theorem dX7_sorted_97 : decode cX7_sorted 97 = .ok (.iload_n 3, 1) := by decide +kernel
theorem dX7_sorted_98 : decode cX7_sorted 98 = .ok (.ireturn, 1) := by decide +kernel
theorem dX7_sorted_99 : decode cX7_sorted 99 = .ok (.iinc 3 1, 3) := by decide +kernel
theorem dX7_sorted_102 : decode cX7_sorted 102 = .ok (.goto (-29), 3) := by decide +kernel
theorem dX7_sorted_105 : decode cX7_sorted 105 = .ok (.iconst 5, 1) := by decide +kernel
theorem dX7_sorted_106 : decode cX7_sorted 106 = .ok (.ireturn, 1) := by decide +kernel
theorem dX7_seen_0 : decode cX7_seen 0 = .ok (.iload_n 3, 1) := by decide +kernel
theorem dX7_seen_1 : decode cX7_seen 1 = .ok (.iconst 0, 1) := by decide +kernel
theorem dX7_seen_2 : decode cX7_seen 2 = .ok (.iconst 1, 1) := by decide +kernel
theorem dX7_seen_3 : decode cX7_seen 3 = .ok (.invokestatic 85, 3) := by decide +kernel
theorem dX7_seen_6 : decode cX7_seen 6 = .ok (.ifCond .eq 12, 3) := by decide +kernel
theorem dX7_seen_9 : decode cX7_seen 9 = .ok (.aload_n 0, 1) := by decide +kernel
theorem dX7_seen_10 : decode cX7_seen 10 = .ok (.iload_n 1, 1) := by decide +kernel
theorem dX7_seen_11 : decode cX7_seen 11 = .ok (.iload_n 2, 1) := by decide +kernel
theorem dX7_seen_12 : decode cX7_seen 12 = .ok (.invokevirtual 234, 3) := by decide +kernel
theorem dX7_seen_15 : decode cX7_seen 15 = .ok (.goto 5, 3) := by decide +kernel
theorem dX7_seen_18 : decode cX7_seen 18 = .ok (.bipush (-2), 2) := by decide +kernel
theorem dX7_seen_20 : decode cX7_seen 20 = .ok (.istore 4, 2) := by decide +kernel
theorem dX7_seen_22 : decode cX7_seen 22 = .ok (.iload 4, 2) := by decide +kernel
theorem dX7_seen_24 : decode cX7_seen 24 = .ok (.ifCond .eq 6, 3) := by decide +kernel
theorem dX7_seen_27 : decode cX7_seen 27 = .ok (.iload 4, 2) := by decide +kernel
theorem dX7_seen_29 : decode cX7_seen 29 = .ok (.ireturn, 1) := by decide +kernel
theorem dX7_seen_30 : decode cX7_seen 30 = .ok (.iconst 0, 1) := by decide +kernel
theorem dX7_seen_31 : decode cX7_seen 31 = .ok (.istore 5, 2) := by decide +kernel
theorem dX7_seen_33 : decode cX7_seen 33 = .ok (.iconst (-1), 1) := by decide +kernel
theorem dX7_seen_34 : decode cX7_seen 34 = .ok (.istore 6, 2) := by decide +kernel
theorem dX7_seen_36 : decode cX7_seen 36 = .ok (.iconst 0, 1) := by decide +kernel
theorem dX7_seen_37 : decode cX7_seen 37 = .ok (.istore 7, 2) := by decide +kernel
theorem dX7_seen_39 : decode cX7_seen 39 = .ok (.iload 7, 2) := by decide +kernel
theorem dX7_seen_41 : decode cX7_seen 41 = .ok (.iconst 1, 1) := by decide +kernel
theorem dX7_seen_42 : decode cX7_seen 42 = .ok (.aload_n 0, 1) := by decide +kernel
theorem dX7_seen_43 : decode cX7_seen 43 = .ok (.getfield 12, 3) := by decide +kernel
theorem dX7_seen_46 : decode cX7_seen 46 = .ok (.getfield 119, 3) := by decide +kernel
theorem dX7_seen_49 : decode cX7_seen 49 = .ok (.ishl, 1) := by decide +kernel
theorem dX7_seen_50 : decode cX7_seen 50 = .ok (.if_icmp .ge 37, 3) := by decide +kernel
theorem dX7_seen_53 : decode cX7_seen 53 = .ok (.aload_n 0, 1) := by decide +kernel
theorem dX7_seen_54 : decode cX7_seen 54 = .ok (.iload_n 1, 1) := by decide +kernel
theorem dX7_seen_55 : decode cX7_seen 55 = .ok (.iload_n 2, 1) := by decide +kernel
theorem dX7_seen_56 : decode cX7_seen 56 = .ok (.iload 7, 2) := by decide +kernel
theorem dX7_seen_58 : decode cX7_seen 58 = .ok (.invokevirtual 237, 3) := by decide +kernel
theorem dX7_seen_61 : decode cX7_seen 61 = .ok (.ifCond .eq 20, 3) := by decide +kernel
theorem dX7_seen_64 : decode cX7_seen 64 = .ok (.iload 5, 2) := by decide +kernel
theorem dX7_seen_66 : decode cX7_seen 66 = .ok (.ifCond .ne 8, 3) := by decide +kernel
theorem dX7_seen_69 : decode cX7_seen 69 = .ok (.iload 7, 2) := by decide +kernel
theorem dX7_seen_71 : decode cX7_seen 71 = .ok (.goto 5, 3) := by decide +kernel
theorem dX7_seen_74 : decode cX7_seen 74 = .ok (.iload 6, 2) := by decide +kernel
theorem dX7_seen_76 : decode cX7_seen 76 = .ok (.istore 6, 2) := by decide +kernel
theorem dX7_seen_78 : decode cX7_seen 78 = .ok (.iinc 5 1, 3) := by decide +kernel
theorem dX7_seen_81 : decode cX7_seen 81 = .ok (.iinc 7 1, 3) := by decide +kernel
theorem dX7_seen_84 : decode cX7_seen 84 = .ok (.goto (-45), 3) := by decide +kernel
theorem dX7_seen_87 : decode cX7_seen 87 = .ok (.iload_n 3, 1) := by decide +kernel
theorem dX7_seen_88 : decode cX7_seen 88 = .ok (.ifCond .ne 8, 3) := by decide +kernel
theorem dX7_seen_91 : decode cX7_seen 91 = .ok (.iload 5, 2) := by decide +kernel
theorem dX7_seen_93 : decode cX7_seen 93 = .ok (.goto 5, 3) := by decide +kernel
theorem dX7_seen_96 : decode cX7_seen 96 = .ok (.iload 6, 2) := by decide +kernel
theorem dX7_seen_98 : decode cX7_seen 98 = .ok (.ireturn, 1) := by decide +kernel
theorem dX7_strange_0 : decode cX7_strange 0 = .ok (.aload_n 0, 1) := by decide +kernel
theorem dX7_strange_1 : decode cX7_strange 1 = .ok (.iload_n 1, 1) := by decide +kernel
theorem dX7_strange_2 : decode cX7_strange 2 = .ok (.iload_n 2, 1) := by decide +kernel
theorem dX7_strange_3 : decode cX7_strange 3 = .ok (.invokevirtual 234, 3) := by decide +kernel
theorem dX7_strange_6 : decode cX7_strange 6 = .ok (.istore_n 3, 1) := by decide +kernel
theorem dX7_strange_7 : decode cX7_strange 7 = .ok (.iload_n 3, 1) := by decide +kernel
theorem dX7_strange_8 : decode cX7_strange 8 = .ok (.ifCond .eq 5, 3) := by decide +kernel
theorem dX7_strange_11 : decode cX7_strange 11 = .ok (.iload_n 3, 1) := by decide +kernel
theorem dX7_strange_12 : decode cX7_strange 12 = .ok (.ireturn, 1) := by decide +kernel
theorem dX7_strange_13 : decode cX7_strange 13 = .ok (.iconst 1, 1) := by decide +kernel
theorem dX7_strange_14 : decode cX7_strange 14 = .ok (.aload_n 0, 1) := by decide +kernel
theorem dX7_strange_15 : decode cX7_strange 15 = .ok (.getfield 12, 3) := by decide +kernel
theorem dX7_strange_18 : decode cX7_strange 18 = .ok (.getfield 119, 3) := by decide +kernel
theorem dX7_strange_21 : decode cX7_strange 21 = .ok (.ishl, 1) := by decide +kernel
theorem dX7_strange_22 : decode cX7_strange 22 = .ok (.iconst 1, 1) := by decide +kernel
theorem dX7_strange_23 : decode cX7_strange 23 = .ok (.isub, 1) := by decide +kernel
theorem dX7_strange_24 : decode cX7_strange 24 = .ok (.istore 4, 2) := by decide +kernel
theorem dX7_strange_26 : decode cX7_strange 26 = .ok (.iconst 0, 1) := by decide +kernel
theorem dX7_strange_27 : decode cX7_strange 27 = .ok (.istore 5, 2) := by decide +kernel
theorem dX7_strange_29 : decode cX7_strange 29 = .ok (.iload 5, 2) := by decide +kernel
theorem dX7_strange_31 : decode cX7_strange 31 = .ok (.aload_n 0, 1) := by decide +kernel
theorem dX7_strange_32 : decode cX7_strange 32 = .ok (.getfield 12, 3) := by decide +kernel
theorem dX7_strange_35 : decode cX7_strange 35 = .ok (.getfield 119, 3) := by decide +kernel
theorem dX7_strange_38 : decode cX7_strange 38 = .ok (.if_icmp .ge 28, 3) := by decide +kernel
theorem dX7_strange_41 : decode cX7_strange 41 = .ok (.aload_n 0, 1) := by decide +kernel
theorem dX7_strange_42 : decode cX7_strange 42 = .ok (.iload_n 1, 1) := by decide +kernel
theorem dX7_strange_43 : decode cX7_strange 43 = .ok (.iload_n 2, 1) := by decide +kernel
theorem dX7_strange_44 : decode cX7_strange 44 = .ok (.iload 4, 2) := by decide +kernel
theorem dX7_strange_46 : decode cX7_strange 46 = .ok (.iconst 1, 1) := by decide +kernel
theorem dX7_strange_47 : decode cX7_strange 47 = .ok (.iload 5, 2) := by decide +kernel
theorem dX7_strange_49 : decode cX7_strange 49 = .ok (.ishl, 1) := by decide +kernel
theorem dX7_strange_50 : decode cX7_strange 50 = .ok (.ixor, 1) := by decide +kernel
theorem dX7_strange_51 : decode cX7_strange 51 = .ok (.invokevirtual 237, 3) := by decide +kernel
theorem dX7_strange_54 : decode cX7_strange 54 = .ok (.ifCond .eq 6, 3) := by decide +kernel
theorem dX7_strange_57 : decode cX7_strange 57 = .ok (.iload 5, 2) := by decide +kernel
theorem dX7_strange_59 : decode cX7_strange 59 = .ok (.ireturn, 1) := by decide +kernel
theorem dX7_strange_60 : decode cX7_strange 60 = .ok (.iinc 5 1, 3) := by decide +kernel
theorem dX7_strange_63 : decode cX7_strange 63 = .ok (.goto (-34), 3) := by decide +kernel
theorem dX7_strange_66 : decode cX7_strange 66 = .ok (.iconst (-1), 1) := by decide +kernel
theorem dX7_strange_67 : decode cX7_strange 67 = .ok (.ireturn, 1) := by decide +kernel
theorem dX7_drawn_0 : decode cX7_drawn 0 = .ok (.aload_n 0, 1) := by decide +kernel
theorem dX7_drawn_1 : decode cX7_drawn 1 = .ok (.invokevirtual 140, 3) := by decide +kernel
theorem dX7_drawn_4 : decode cX7_drawn 4 = .ok (.getfield 144, 3) := by decide +kernel
theorem dX7_drawn_7 : decode cX7_drawn 7 = .ok (.iload_n 1, 1) := by decide +kernel
theorem dX7_drawn_8 : decode cX7_drawn 8 = .ok (.invokevirtual 240, 3) := by decide +kernel
theorem dX7_drawn_11 : decode cX7_drawn 11 = .ok (.aload_n 0, 1) := by decide +kernel
theorem dX7_drawn_12 : decode cX7_drawn 12 = .ok (.getfield 78, 3) := by decide +kernel
theorem dX7_drawn_15 : decode cX7_drawn 15 = .ok (.invokevirtual 161, 3) := by decide +kernel
theorem dX7_drawn_18 : decode cX7_drawn 18 = .ok (.ireturn, 1) := by decide +kernel
theorem dX7_chance_0 : decode cX7_chance 0 = .ok (.iload_n 2, 1) := by decide +kernel
theorem dX7_chance_1 : decode cX7_chance 1 = .ok (.iconst 1, 1) := by decide +kernel
theorem dX7_chance_2 : decode cX7_chance 2 = .ok (.bipush 20, 2) := by decide +kernel
theorem dX7_chance_4 : decode cX7_chance 4 = .ok (.invokestatic 85, 3) := by decide +kernel
theorem dX7_chance_7 : decode cX7_chance 7 = .ok (.ifCond .eq 12, 3) := by decide +kernel
theorem dX7_chance_10 : decode cX7_chance 10 = .ok (.iload_n 3, 1) := by decide +kernel
theorem dX7_chance_11 : decode cX7_chance 11 = .ok (.iconst 0, 1) := by decide +kernel
theorem dX7_chance_12 : decode cX7_chance 12 = .ok (.iconst 1, 1) := by decide +kernel
theorem dX7_chance_13 : decode cX7_chance 13 = .ok (.invokestatic 85, 3) := by decide +kernel
theorem dX7_chance_16 : decode cX7_chance 16 = .ok (.ifCond .ne 7, 3) := by decide +kernel
theorem dX7_chance_19 : decode cX7_chance 19 = .ok (.ldc2_w 244, 3) := by decide +kernel
theorem dX7_chance_22 : decode cX7_chance 22 = .ok (.lreturn, 1) := by decide +kernel
theorem dX7_chance_23 : decode cX7_chance 23 = .ok (.iconst 0, 1) := by decide +kernel
theorem dX7_chance_24 : decode cX7_chance 24 = .ok (.istore 4, 2) := by decide +kernel
theorem dX7_chance_26 : decode cX7_chance 26 = .ok (.iconst 0, 1) := by decide +kernel
theorem dX7_chance_27 : decode cX7_chance 27 = .ok (.istore 5, 2) := by decide +kernel
theorem dX7_chance_29 : decode cX7_chance 29 = .ok (.iload 5, 2) := by decide +kernel
theorem dX7_chance_31 : decode cX7_chance 31 = .ok (.iload_n 2, 1) := by decide +kernel
theorem dX7_chance_32 : decode cX7_chance 32 = .ok (.if_icmp .ge 51, 3) := by decide +kernel
theorem dX7_chance_35 : decode cX7_chance 35 = .ok (.aload_n 0, 1) := by decide +kernel
theorem dX7_chance_36 : decode cX7_chance 36 = .ok (.invokevirtual 140, 3) := by decide +kernel
theorem dX7_chance_39 : decode cX7_chance 39 = .ok (.getfield 144, 3) := by decide +kernel
theorem dX7_chance_42 : decode cX7_chance 42 = .ok (.iload_n 1, 1) := by decide +kernel
theorem dX7_chance_43 : decode cX7_chance 43 = .ok (.iload 5, 2) := by decide +kernel
theorem dX7_chance_45 : decode cX7_chance 45 = .ok (.iadd, 1) := by decide +kernel
theorem dX7_chance_46 : decode cX7_chance 46 = .ok (.invokevirtual 240, 3) := by decide +kernel
theorem dX7_chance_49 : decode cX7_chance 49 = .ok (.aload_n 0, 1) := by decide +kernel
theorem dX7_chance_50 : decode cX7_chance 50 = .ok (.getfield 78, 3) := by decide +kernel
theorem dX7_chance_53 : decode cX7_chance 53 = .ok (.invokevirtual 161, 3) := by decide +kernel
theorem dX7_chance_56 : decode cX7_chance 56 = .ok (.pop, 1) := by decide +kernel
theorem dX7_chance_57 : decode cX7_chance 57 = .ok (.iload 4, 2) := by decide +kernel
theorem dX7_chance_59 : decode cX7_chance 59 = .ok (.aload_n 0, 1) := by decide +kernel
theorem dX7_chance_60 : decode cX7_chance 60 = .ok (.getfield 78, 3) := by decide +kernel
theorem dX7_chance_63 : decode cX7_chance 63 = .ok (.getfield 170, 3) := by decide +kernel
theorem dX7_chance_66 : decode cX7_chance 66 = .ok (.ifCond .ne 7, 3) := by decide +kernel
theorem dX7_chance_69 : decode cX7_chance 69 = .ok (.iconst 1, 1) := by decide +kernel
theorem dX7_chance_70 : decode cX7_chance 70 = .ok (.goto 4, 3) := by decide +kernel
theorem dX7_chance_73 : decode cX7_chance 73 = .ok (.iconst 0, 1) := by decide +kernel
theorem dX7_chance_74 : decode cX7_chance 74 = .ok (.iadd, 1) := by decide +kernel
theorem dX7_chance_75 : decode cX7_chance 75 = .ok (.istore 4, 2) := by decide +kernel
theorem dX7_chance_77 : decode cX7_chance 77 = .ok (.iinc 5 1, 3) := by decide +kernel
theorem dX7_chance_80 : decode cX7_chance 80 = .ok (.goto (-51), 3) := by decide +kernel
theorem dX7_chance_83 : decode cX7_chance 83 = .ok (.iload 4, 2) := by decide +kernel
theorem dX7_chance_85 : decode cX7_chance 85 = .ok (.iload_n 2, 1) := by decide +kernel
theorem dX7_chance_86 : decode cX7_chance 86 = .ok (.invokestatic 246, 3) := by decide +kernel
theorem dX7_chance_89 : decode cX7_chance 89 = .ok (.istore 5, 2) := by decide +kernel
theorem dX7_chance_91 : decode cX7_chance 91 = .ok (.iload_n 3, 1) := by decide +kernel
theorem dX7_chance_92 : decode cX7_chance 92 = .ok (.ifCond .ne 8, 3) := by decide +kernel
theorem dX7_chance_95 : decode cX7_chance 95 = .ok (.iload 4, 2) := by decide +kernel
theorem dX7_chance_97 : decode cX7_chance 97 = .ok (.goto 4, 3) := by decide +kernel
theorem dX7_chance_100 : decode cX7_chance 100 = .ok (.iload_n 2, 1) := by decide +kernel
theorem dX7_chance_101 : decode cX7_chance 101 = .ok (.iload 5, 2) := by decide +kernel
theorem dX7_chance_103 : decode cX7_chance 103 = .ok (.ifCond .le 8, 3) := by decide +kernel
theorem dX7_chance_106 : decode cX7_chance 106 = .ok (.iload 5, 2) := by decide +kernel
theorem dX7_chance_108 : decode cX7_chance 108 = .ok (.goto 4, 3) := by decide +kernel
theorem dX7_chance_111 : decode cX7_chance 111 = .ok (.iconst 1, 1) := by decide +kernel
theorem dX7_chance_112 : decode cX7_chance 112 = .ok (.idiv, 1) := by decide +kernel
theorem dX7_chance_113 : decode cX7_chance 113 = .ok (.i2l, 1) := by decide +kernel
theorem dX7_chance_114 : decode cX7_chance 114 = .ok (.lreturn, 1) := by decide +kernel
theorem dX7_image_0 : decode cX7_image 0 = .ok (.aload_n 0, 1) := by decide +kernel
theorem dX7_image_1 : decode cX7_image 1 = .ok (.getfield 16, 3) := by decide +kernel
theorem dX7_image_4 : decode cX7_image 4 = .ok (.aload_n 0, 1) := by decide +kernel
theorem dX7_image_5 : decode cX7_image 5 = .ok (.getfield 12, 3) := by decide +kernel
theorem dX7_image_8 : decode cX7_image 8 = .ok (.invokevirtual 249, 3) := by decide +kernel
theorem dX7_image_11 : decode cX7_image 11 = .ok (.aload_n 0, 1) := by decide +kernel
theorem dX7_image_12 : decode cX7_image 12 = .ok (.iconst 1, 1) := by decide +kernel
theorem dX7_image_13 : decode cX7_image 13 = .ok (.putfield 253, 3) := by decide +kernel
theorem dX7_image_16 : decode cX7_image 16 = .ok (.aload_n 0, 1) := by decide +kernel
theorem dX7_image_17 : decode cX7_image 17 = .ok (.getfield 12, 3) := by decide +kernel
theorem dX7_image_20 : decode cX7_image 20 = .ok (.getfield 119, 3) := by decide +kernel
theorem dX7_image_23 : decode cX7_image 23 = .ok (.ireturn, 1) := by decide +kernel
theorem dX7_back_0 : decode cX7_back 0 = .ok (.aload_n 0, 1) := by decide +kernel
theorem dX7_back_1 : decode cX7_back 1 = .ok (.getfield 253, 3) := by decide +kernel
theorem dX7_back_4 : decode cX7_back 4 = .ok (.ifCond .ne 6, 3) := by decide +kernel
theorem dX7_back_7 : decode cX7_back 7 = .ok (.bipush (-3), 2) := by decide +kernel
theorem dX7_back_9 : decode cX7_back 9 = .ok (.ireturn, 1) := by decide +kernel
theorem dX7_back_10 : decode cX7_back 10 = .ok (.aload_n 0, 1) := by decide +kernel
theorem dX7_back_11 : decode cX7_back 11 = .ok (.getfield 12, 3) := by decide +kernel
theorem dX7_back_14 : decode cX7_back 14 = .ok (.aload_n 0, 1) := by decide +kernel
theorem dX7_back_15 : decode cX7_back 15 = .ok (.getfield 16, 3) := by decide +kernel
theorem dX7_back_18 : decode cX7_back 18 = .ok (.invokevirtual 249, 3) := by decide +kernel
theorem dX7_back_21 : decode cX7_back 21 = .ok (.aload_n 0, 1) := by decide +kernel
theorem dX7_back_22 : decode cX7_back 22 = .ok (.getfield 12, 3) := by decide +kernel
theorem dX7_back_25 : decode cX7_back 25 = .ok (.getfield 119, 3) := by decide +kernel
theorem dX7_back_28 : decode cX7_back 28 = .ok (.ireturn, 1) := by decide +kernel
theorem dX7_count_0 : decode cX7_count 0 = .ok (.iload_n 1, 1) := by decide +kernel
theorem dX7_count_1 : decode cX7_count 1 = .ok (.tableswitch 117 0 8 #[51, 59, 67, 75, 83, 91, 96, 104, 112], 51) := by decide +kernel
theorem dX7_count_52 : decode cX7_count 52 = .ok (.aload_n 0, 1) := by decide +kernel
theorem dX7_count_53 : decode cX7_count 53 = .ok (.getfield 12, 3) := by decide +kernel
theorem dX7_count_56 : decode cX7_count 56 = .ok (.getfield 119, 3) := by decide +kernel
theorem dX7_count_59 : decode cX7_count 59 = .ok (.ireturn, 1) := by decide +kernel
theorem dX7_count_60 : decode cX7_count 60 = .ok (.aload_n 0, 1) := by decide +kernel
theorem dX7_count_61 : decode cX7_count 61 = .ok (.getfield 12, 3) := by decide +kernel
theorem dX7_count_64 : decode cX7_count 64 = .ok (.getfield 125, 3) := by decide +kernel
theorem dX7_count_67 : decode cX7_count 67 = .ok (.ireturn, 1) := by decide +kernel
theorem dX7_count_68 : decode cX7_count 68 = .ok (.aload_n 0, 1) := by decide +kernel
theorem dX7_count_69 : decode cX7_count 69 = .ok (.getfield 12, 3) := by decide +kernel
theorem dX7_count_72 : decode cX7_count 72 = .ok (.getfield 257, 3) := by decide +kernel
theorem dX7_count_75 : decode cX7_count 75 = .ok (.ireturn, 1) := by decide +kernel
theorem dX7_count_76 : decode cX7_count 76 = .ok (.aload_n 0, 1) := by decide +kernel
theorem dX7_count_77 : decode cX7_count 77 = .ok (.getfield 12, 3) := by decide +kernel
theorem dX7_count_80 : decode cX7_count 80 = .ok (.getfield 258, 3) := by decide +kernel
theorem dX7_count_83 : decode cX7_count 83 = .ok (.ireturn, 1) := by decide +kernel
theorem dX7_count_84 : decode cX7_count 84 = .ok (.aload_n 0, 1) := by decide +kernel
theorem dX7_count_85 : decode cX7_count 85 = .ok (.getfield 12, 3) := by decide +kernel
theorem dX7_count_88 : decode cX7_count 88 = .ok (.getfield 227, 3) := by decide +kernel
theorem dX7_count_91 : decode cX7_count 91 = .ok (.ireturn, 1) := by decide +kernel
theorem dX7_count_92 : decode cX7_count 92 = .ok (.aload_n 0, 1) := by decide +kernel
theorem dX7_count_93 : decode cX7_count 93 = .ok (.getfield 60, 3) := by decide +kernel
theorem dX7_count_96 : decode cX7_count 96 = .ok (.ireturn, 1) := by decide +kernel
theorem dX7_count_97 : decode cX7_count 97 = .ok (.aload_n 0, 1) := by decide +kernel
theorem dX7_count_98 : decode cX7_count 98 = .ok (.getfield 22, 3) := by decide +kernel
theorem dX7_count_101 : decode cX7_count 101 = .ok (.getfield 157, 3) := by decide +kernel
theorem dX7_count_104 : decode cX7_count 104 = .ok (.ireturn, 1) := by decide +kernel
theorem dX7_count_105 : decode cX7_count 105 = .ok (.aload_n 0, 1) := by decide +kernel
theorem dX7_count_106 : decode cX7_count 106 = .ok (.getfield 12, 3) := by decide +kernel
theorem dX7_count_109 : decode cX7_count 109 = .ok (.getfield 159, 3) := by decide +kernel
theorem dX7_count_112 : decode cX7_count 112 = .ok (.ireturn, 1) := by decide +kernel
theorem dX7_count_113 : decode cX7_count 113 = .ok (.aload_n 0, 1) := by decide +kernel
theorem dX7_count_114 : decode cX7_count 114 = .ok (.invokevirtual 259, 3) := by decide +kernel
theorem dX7_count_117 : decode cX7_count 117 = .ok (.ireturn, 1) := by decide +kernel
theorem dX7_count_118 : decode cX7_count 118 = .ok (.bipush (-2), 2) := by decide +kernel
theorem dX7_count_120 : decode cX7_count 120 = .ok (.ireturn, 1) := by decide +kernel
theorem dX7_sheet_0 : decode cX7_sheet 0 = .ok (.iload_n 1, 1) := by decide +kernel
theorem dX7_sheet_1 : decode cX7_sheet 1 = .ok (.invokestatic 262, 3) := by decide +kernel
theorem dX7_sheet_4 : decode cX7_sheet 4 = .ok (.ifCond .eq 23, 3) := by decide +kernel
theorem dX7_sheet_7 : decode cX7_sheet 7 = .ok (.iload_n 2, 1) := by decide +kernel
theorem dX7_sheet_8 : decode cX7_sheet 8 = .ok (.iconst (-1), 1) := by decide +kernel
theorem dX7_sheet_9 : decode cX7_sheet 9 = .ok (.iconst 2, 1) := by decide +kernel
theorem dX7_sheet_10 : decode cX7_sheet 10 = .ok (.invokestatic 85, 3) := by decide +kernel
theorem dX7_sheet_13 : decode cX7_sheet 13 = .ok (.ifCond .eq 14, 3) := by decide +kernel
theorem dX7_sheet_16 : decode cX7_sheet 16 = .ok (.iload_n 2, 1) := by decide +kernel
theorem dX7_sheet_17 : decode cX7_sheet 17 = .ok (.iconst (-1), 1) := by decide +kernel
theorem dX7_sheet_18 : decode cX7_sheet 18 = .ok (.if_icmp .eq 12, 3) := by decide +kernel
theorem dX7_sheet_21 : decode cX7_sheet 21 = .ok (.iload_n 3, 1) := by decide +kernel
theorem dX7_sheet_22 : decode cX7_sheet 22 = .ok (.bipush 40, 2) := by decide +kernel
theorem dX7_sheet_24 : decode cX7_sheet 24 = .ok (.if_icmp .le 6, 3) := by decide +kernel
theorem dX7_sheet_27 : decode cX7_sheet 27 = .ok (.bipush (-2), 2) := by decide +kernel
theorem dX7_sheet_29 : decode cX7_sheet 29 = .ok (.ireturn, 1) := by decide +kernel
theorem dX7_sheet_30 : decode cX7_sheet 30 = .ok (.iload_n 2, 1) := by decide +kernel
theorem dX7_sheet_31 : decode cX7_sheet 31 = .ok (.iconst (-1), 1) := by decide +kernel
theorem dX7_sheet_32 : decode cX7_sheet 32 = .ok (.if_icmp .eq 10, 3) := by decide +kernel
theorem dX7_sheet_35 : decode cX7_sheet 35 = .ok (.iload_n 3, 1) := by decide +kernel
theorem dX7_sheet_36 : decode cX7_sheet 36 = .ok (.ifCond .ge 6, 3) := by decide +kernel
theorem dX7_sheet_39 : decode cX7_sheet 39 = .ok (.bipush (-14), 2) := by decide +kernel
theorem dX7_sheet_41 : decode cX7_sheet 41 = .ok (.ireturn, 1) := by decide +kernel
theorem dX7_sheet_42 : decode cX7_sheet 42 = .ok (.aload_n 0, 1) := by decide +kernel
theorem dX7_sheet_43 : decode cX7_sheet 43 = .ok (.getfield 34, 3) := by decide +kernel
theorem dX7_sheet_46 : decode cX7_sheet 46 = .ok (.iload_n 1, 1) := by decide +kernel
theorem dX7_sheet_47 : decode cX7_sheet 47 = .ok (.aaload, 1) := by decide +kernel
theorem dX7_sheet_48 : decode cX7_sheet 48 = .ok (.iload_n 2, 1) := by decide +kernel
theorem dX7_sheet_49 : decode cX7_sheet 49 = .ok (.iload_n 2, 1) := by decide +kernel
theorem dX7_sheet_50 : decode cX7_sheet 50 = .ok (.iconst (-1), 1) := by decide +kernel
theorem dX7_sheet_51 : decode cX7_sheet 51 = .ok (.if_icmp .ne 7, 3) := by decide +kernel
theorem dX7_sheet_54 : decode cX7_sheet 54 = .ok (.iconst 0, 1) := by decide +kernel
theorem dX7_sheet_55 : decode cX7_sheet 55 = .ok (.goto 4, 3) := by decide +kernel
theorem dX7_sheet_58 : decode cX7_sheet 58 = .ok (.iload_n 3, 1) := by decide +kernel
theorem dX7_sheet_59 : decode cX7_sheet 59 = .ok (.invokevirtual 265, 3) := by decide +kernel
theorem dX7_sheet_62 : decode cX7_sheet 62 = .ok (.iconst 1, 1) := by decide +kernel
theorem dX7_sheet_63 : decode cX7_sheet 63 = .ok (.ireturn, 1) := by decide +kernel
theorem dX7_cell_0 : decode cX7_cell 0 = .ok (.iload_n 1, 1) := by decide +kernel
theorem dX7_cell_1 : decode cX7_cell 1 = .ok (.invokestatic 262, 3) := by decide +kernel
theorem dX7_cell_4 : decode cX7_cell 4 = .ok (.ifCond .ne 6, 3) := by decide +kernel
theorem dX7_cell_7 : decode cX7_cell 7 = .ok (.bipush (-2), 2) := by decide +kernel
theorem dX7_cell_9 : decode cX7_cell 9 = .ok (.ireturn, 1) := by decide +kernel
theorem dX7_cell_10 : decode cX7_cell 10 = .ok (.aload_n 0, 1) := by decide +kernel
theorem dX7_cell_11 : decode cX7_cell 11 = .ok (.getfield 34, 3) := by decide +kernel
theorem dX7_cell_14 : decode cX7_cell 14 = .ok (.iload_n 1, 1) := by decide +kernel
theorem dX7_cell_15 : decode cX7_cell 15 = .ok (.aaload, 1) := by decide +kernel
theorem dX7_cell_16 : decode cX7_cell 16 = .ok (.getfield 267, 3) := by decide +kernel
theorem dX7_cell_19 : decode cX7_cell 19 = .ok (.iconst (-1), 1) := by decide +kernel
theorem dX7_cell_20 : decode cX7_cell 20 = .ok (.if_icmp .ne 6, 3) := by decide +kernel
theorem dX7_cell_23 : decode cX7_cell 23 = .ok (.bipush (-11), 2) := by decide +kernel
theorem dX7_cell_25 : decode cX7_cell 25 = .ok (.ireturn, 1) := by decide +kernel
theorem dX7_cell_26 : decode cX7_cell 26 = .ok (.aload_n 0, 1) := by decide +kernel
theorem dX7_cell_27 : decode cX7_cell 27 = .ok (.getfield 34, 3) := by decide +kernel
theorem dX7_cell_30 : decode cX7_cell 30 = .ok (.iload_n 1, 1) := by decide +kernel
theorem dX7_cell_31 : decode cX7_cell 31 = .ok (.aaload, 1) := by decide +kernel
theorem dX7_cell_32 : decode cX7_cell 32 = .ok (.iload_n 2, 1) := by decide +kernel
theorem dX7_cell_33 : decode cX7_cell 33 = .ok (.iload_n 3, 1) := by decide +kernel
theorem dX7_cell_34 : decode cX7_cell 34 = .ok (.invokevirtual 268, 3) := by decide +kernel
theorem dX7_cell_37 : decode cX7_cell 37 = .ok (.ifCond .eq 7, 3) := by decide +kernel
theorem dX7_cell_40 : decode cX7_cell 40 = .ok (.iconst 1, 1) := by decide +kernel
theorem dX7_cell_41 : decode cX7_cell 41 = .ok (.goto 5, 3) := by decide +kernel
theorem dX7_cell_44 : decode cX7_cell 44 = .ok (.bipush (-12), 2) := by decide +kernel
theorem dX7_cell_46 : decode cX7_cell 46 = .ok (.ireturn, 1) := by decide +kernel
theorem dX7_copy_0 : decode cX7_copy 0 = .ok (.iload_n 1, 1) := by decide +kernel
theorem dX7_copy_1 : decode cX7_copy 1 = .ok (.invokestatic 262, 3) := by decide +kernel
theorem dX7_copy_4 : decode cX7_copy 4 = .ok (.ifCond .eq 10, 3) := by decide +kernel
theorem dX7_copy_7 : decode cX7_copy 7 = .ok (.iload_n 3, 1) := by decide +kernel
theorem dX7_copy_8 : decode cX7_copy 8 = .ok (.invokestatic 262, 3) := by decide +kernel
theorem dX7_copy_11 : decode cX7_copy 11 = .ok (.ifCond .ne 6, 3) := by decide +kernel
theorem dX7_copy_14 : decode cX7_copy 14 = .ok (.bipush (-2), 2) := by decide +kernel
theorem dX7_copy_16 : decode cX7_copy 16 = .ok (.ireturn, 1) := by decide +kernel
theorem dX7_copy_17 : decode cX7_copy 17 = .ok (.aload_n 0, 1) := by decide +kernel
theorem dX7_copy_18 : decode cX7_copy 18 = .ok (.getfield 34, 3) := by decide +kernel
theorem dX7_copy_21 : decode cX7_copy 21 = .ok (.iload_n 1, 1) := by decide +kernel
theorem dX7_copy_22 : decode cX7_copy 22 = .ok (.aaload, 1) := by decide +kernel
theorem dX7_copy_23 : decode cX7_copy 23 = .ok (.astore 6, 2) := by decide +kernel
theorem dX7_copy_25 : decode cX7_copy 25 = .ok (.aload_n 0, 1) := by decide +kernel
theorem dX7_copy_26 : decode cX7_copy 26 = .ok (.getfield 34, 3) := by decide +kernel
theorem dX7_copy_29 : decode cX7_copy 29 = .ok (.iload_n 3, 1) := by decide +kernel
theorem dX7_copy_30 : decode cX7_copy 30 = .ok (.aaload, 1) := by decide +kernel
theorem dX7_copy_31 : decode cX7_copy 31 = .ok (.astore 7, 2) := by decide +kernel
theorem dX7_copy_33 : decode cX7_copy 33 = .ok (.aload 6, 2) := by decide +kernel
theorem dX7_copy_35 : decode cX7_copy 35 = .ok (.getfield 267, 3) := by decide +kernel
theorem dX7_copy_38 : decode cX7_copy 38 = .ok (.iconst (-1), 1) := by decide +kernel
theorem dX7_copy_39 : decode cX7_copy 39 = .ok (.if_icmp .eq 12, 3) := by decide +kernel
theorem dX7_copy_42 : decode cX7_copy 42 = .ok (.aload 7, 2) := by decide +kernel
theorem dX7_copy_44 : decode cX7_copy 44 = .ok (.getfield 267, 3) := by decide +kernel
theorem dX7_copy_47 : decode cX7_copy 47 = .ok (.iconst (-1), 1) := by decide +kernel
theorem dX7_copy_48 : decode cX7_copy 48 = .ok (.if_icmp .ne 6, 3) := by decide +kernel
theorem dX7_copy_51 : decode cX7_copy 51 = .ok (.bipush (-11), 2) := by decide +kernel
theorem dX7_copy_53 : decode cX7_copy 53 = .ok (.ireturn, 1) := by decide +kernel
theorem dX7_copy_54 : decode cX7_copy 54 = .ok (.aload 6, 2) := by decide +kernel
theorem dX7_copy_56 : decode cX7_copy 56 = .ok (.getfield 267, 3) := by decide +kernel
theorem dX7_copy_59 : decode cX7_copy 59 = .ok (.aload 7, 2) := by decide +kernel
theorem dX7_copy_61 : decode cX7_copy 61 = .ok (.getfield 267, 3) := by decide +kernel
theorem dX7_copy_64 : decode cX7_copy 64 = .ok (.if_icmp .eq 6, 3) := by decide +kernel
theorem dX7_copy_67 : decode cX7_copy 67 = .ok (.bipush (-13), 2) := by decide +kernel
theorem dX7_copy_69 : decode cX7_copy 69 = .ok (.ireturn, 1) := by decide +kernel
theorem dX7_copy_70 : decode cX7_copy 70 = .ok (.aload 6, 2) := by decide +kernel
theorem dX7_copy_72 : decode cX7_copy 72 = .ok (.iload_n 2, 1) := by decide +kernel
theorem dX7_copy_73 : decode cX7_copy 73 = .ok (.iload 5, 2) := by decide +kernel
theorem dX7_copy_75 : decode cX7_copy 75 = .ok (.invokevirtual 271, 3) := by decide +kernel
theorem dX7_copy_78 : decode cX7_copy 78 = .ok (.ifCond .eq 15, 3) := by decide +kernel
theorem dX7_copy_81 : decode cX7_copy 81 = .ok (.aload 7, 2) := by decide +kernel
theorem dX7_copy_83 : decode cX7_copy 83 = .ok (.iload 4, 2) := by decide +kernel
theorem dX7_copy_85 : decode cX7_copy 85 = .ok (.iload 5, 2) := by decide +kernel
theorem dX7_copy_87 : decode cX7_copy 87 = .ok (.invokevirtual 271, 3) := by decide +kernel
theorem dX7_copy_90 : decode cX7_copy 90 = .ok (.ifCond .ne 6, 3) := by decide +kernel
theorem dX7_copy_93 : decode cX7_copy 93 = .ok (.bipush (-12), 2) := by decide +kernel
theorem dX7_copy_95 : decode cX7_copy 95 = .ok (.ireturn, 1) := by decide +kernel
theorem dX7_copy_96 : decode cX7_copy 96 = .ok (.aload 6, 2) := by decide +kernel
theorem dX7_copy_98 : decode cX7_copy 98 = .ok (.getfield 274, 3) := by decide +kernel
theorem dX7_copy_101 : decode cX7_copy 101 = .ok (.iload_n 2, 1) := by decide +kernel
theorem dX7_copy_102 : decode cX7_copy 102 = .ok (.aload 7, 2) := by decide +kernel
theorem dX7_copy_104 : decode cX7_copy 104 = .ok (.getfield 274, 3) := by decide +kernel
theorem dX7_copy_107 : decode cX7_copy 107 = .ok (.iload 4, 2) := by decide +kernel
theorem dX7_copy_109 : decode cX7_copy 109 = .ok (.iload 5, 2) := by decide +kernel
theorem dX7_copy_111 : decode cX7_copy 111 = .ok (.invokestatic 277, 3) := by decide +kernel
theorem dX7_copy_114 : decode cX7_copy 114 = .ok (.iload 5, 2) := by decide +kernel
theorem dX7_copy_116 : decode cX7_copy 116 = .ok (.ireturn, 1) := by decide +kernel
theorem dX7_rains_0 : decode cX7_rains 0 = .ok (.iload_n 1, 1) := by decide +kernel
theorem dX7_rains_1 : decode cX7_rains 1 = .ok (.invokestatic 262, 3) := by decide +kernel
theorem dX7_rains_4 : decode cX7_rains 4 = .ok (.ifCond .eq 23, 3) := by decide +kernel
theorem dX7_rains_7 : decode cX7_rains 7 = .ok (.iload_n 2, 1) := by decide +kernel
theorem dX7_rains_8 : decode cX7_rains 8 = .ok (.iconst 0, 1) := by decide +kernel
theorem dX7_rains_9 : decode cX7_rains 9 = .ok (.iconst 2, 1) := by decide +kernel
theorem dX7_rains_10 : decode cX7_rains 10 = .ok (.invokestatic 85, 3) := by decide +kernel
theorem dX7_rains_13 : decode cX7_rains 13 = .ok (.ifCond .eq 14, 3) := by decide +kernel
theorem dX7_rains_16 : decode cX7_rains 16 = .ok (.iload 4, 2) := by decide +kernel
theorem dX7_rains_18 : decode cX7_rains 18 = .ok (.iconst 0, 1) := by decide +kernel
theorem dX7_rains_19 : decode cX7_rains 19 = .ok (.bipush 20, 2) := by decide +kernel
theorem dX7_rains_21 : decode cX7_rains 21 = .ok (.invokestatic 85, 3) := by decide +kernel
theorem dX7_rains_24 : decode cX7_rains 24 = .ok (.ifCond .ne 6, 3) := by decide +kernel
theorem dX7_rains_27 : decode cX7_rains 27 = .ok (.bipush (-2), 2) := by decide +kernel
theorem dX7_rains_29 : decode cX7_rains 29 = .ok (.ireturn, 1) := by decide +kernel
theorem dX7_rains_30 : decode cX7_rains 30 = .ok (.aload_n 0, 1) := by decide +kernel
theorem dX7_rains_31 : decode cX7_rains 31 = .ok (.getfield 34, 3) := by decide +kernel
theorem dX7_rains_34 : decode cX7_rains 34 = .ok (.iload_n 1, 1) := by decide +kernel
theorem dX7_rains_35 : decode cX7_rains 35 = .ok (.aaload, 1) := by decide +kernel
theorem dX7_rains_36 : decode cX7_rains 36 = .ok (.astore 5, 2) := by decide +kernel
theorem dX7_rains_38 : decode cX7_rains 38 = .ok (.aload 5, 2) := by decide +kernel
theorem dX7_rains_40 : decode cX7_rains 40 = .ok (.getfield 267, 3) := by decide +kernel
theorem dX7_rains_43 : decode cX7_rains 43 = .ok (.iconst (-1), 1) := by decide +kernel
theorem dX7_rains_44 : decode cX7_rains 44 = .ok (.if_icmp .ne 6, 3) := by decide +kernel
theorem dX7_rains_47 : decode cX7_rains 47 = .ok (.bipush (-11), 2) := by decide +kernel
theorem dX7_rains_49 : decode cX7_rains 49 = .ok (.ireturn, 1) := by decide +kernel
theorem dX7_rains_50 : decode cX7_rains 50 = .ok (.aload 5, 2) := by decide +kernel
theorem dX7_rains_52 : decode cX7_rains 52 = .ok (.getfield 267, 3) := by decide +kernel
theorem dX7_rains_55 : decode cX7_rains 55 = .ok (.iload_n 2, 1) := by decide +kernel
theorem dX7_rains_56 : decode cX7_rains 56 = .ok (.if_icmp .ne 15, 3) := by decide +kernel
theorem dX7_rains_59 : decode cX7_rains 59 = .ok (.aload_n 0, 1) := by decide +kernel
theorem dX7_rains_60 : decode cX7_rains 60 = .ok (.aload 5, 2) := by decide +kernel
theorem dX7_rains_62 : decode cX7_rains 62 = .ok (.iload_n 3, 1) := by decide +kernel
theorem dX7_rains_63 : decode cX7_rains 63 = .ok (.iload 4, 2) := by decide +kernel
theorem dX7_rains_65 : decode cX7_rains 65 = .ok (.invokevirtual 283, 3) := by decide +kernel
theorem dX7_rains_68 : decode cX7_rains 68 = .ok (.goto 5, 3) := by decide +kernel
theorem dX7_rains_71 : decode cX7_rains 71 = .ok (.bipush (-13), 2) := by decide +kernel
theorem dX7_rains_73 : decode cX7_rains 73 = .ok (.ireturn, 1) := by decide +kernel
theorem dX7_taken_0 : decode cX7_taken 0 = .ok (.iload_n 2, 1) := by decide +kernel
theorem dX7_taken_1 : decode cX7_taken 1 = .ok (.invokestatic 116, 3) := by decide +kernel
theorem dX7_taken_4 : decode cX7_taken 4 = .ok (.ifCond .ne 6, 3) := by decide +kernel
theorem dX7_taken_7 : decode cX7_taken 7 = .ok (.bipush (-2), 2) := by decide +kernel
theorem dX7_taken_9 : decode cX7_taken 9 = .ok (.ireturn, 1) := by decide +kernel
theorem dX7_taken_10 : decode cX7_taken 10 = .ok (.aload_n 0, 1) := by decide +kernel
theorem dX7_taken_11 : decode cX7_taken 11 = .ok (.iload_n 1, 1) := by decide +kernel
theorem dX7_taken_12 : decode cX7_taken 12 = .ok (.invokevirtual 101, 3) := by decide +kernel
theorem dX7_taken_15 : decode cX7_taken 15 = .ok (.ifCond .ne 6, 3) := by decide +kernel
theorem dX7_taken_18 : decode cX7_taken 18 = .ok (.bipush (-11), 2) := by decide +kernel
theorem dX7_taken_20 : decode cX7_taken 20 = .ok (.ireturn, 1) := by decide +kernel
theorem dX7_taken_21 : decode cX7_taken 21 = .ok (.aload_n 0, 1) := by decide +kernel
theorem dX7_taken_22 : decode cX7_taken 22 = .ok (.getfield 12, 3) := by decide +kernel
theorem dX7_taken_25 : decode cX7_taken 25 = .ok (.getfield 122, 3) := by decide +kernel
theorem dX7_taken_28 : decode cX7_taken 28 = .ok (.iload_n 1, 1) := by decide +kernel
theorem dX7_taken_29 : decode cX7_taken 29 = .ok (.iaload, 1) := by decide +kernel
theorem dX7_taken_30 : decode cX7_taken 30 = .ok (.iload_n 2, 1) := by decide +kernel
theorem dX7_taken_31 : decode cX7_taken 31 = .ok (.invokestatic 287, 3) := by decide +kernel
theorem dX7_taken_34 : decode cX7_taken 34 = .ok (.ifCond .eq 15, 3) := by decide +kernel
theorem dX7_taken_37 : decode cX7_taken 37 = .ok (.aload_n 0, 1) := by decide +kernel
theorem dX7_taken_38 : decode cX7_taken 38 = .ok (.getfield 12, 3) := by decide +kernel
theorem dX7_taken_41 : decode cX7_taken 41 = .ok (.getfield 104, 3) := by decide +kernel
theorem dX7_taken_44 : decode cX7_taken 44 = .ok (.iload_n 1, 1) := by decide +kernel
theorem dX7_taken_45 : decode cX7_taken 45 = .ok (.iaload, 1) := by decide +kernel
theorem dX7_taken_46 : decode cX7_taken 46 = .ok (.goto 5, 3) := by decide +kernel
theorem dX7_taken_49 : decode cX7_taken 49 = .ok (.bipush (-13), 2) := by decide +kernel
theorem dX7_taken_51 : decode cX7_taken 51 = .ok (.ireturn, 1) := by decide +kernel
theorem dX7_isIn_0 : decode cX7_isIn 0 = .ok (.iload_n 0, 1) := by decide +kernel
theorem dX7_isIn_1 : decode cX7_isIn 1 = .ok (.iload_n 1, 1) := by decide +kernel
theorem dX7_isIn_2 : decode cX7_isIn 2 = .ok (.if_icmp .lt 12, 3) := by decide +kernel
theorem dX7_isIn_5 : decode cX7_isIn 5 = .ok (.iload_n 0, 1) := by decide +kernel
theorem dX7_isIn_6 : decode cX7_isIn 6 = .ok (.iload_n 2, 1) := by decide +kernel
theorem dX7_isIn_7 : decode cX7_isIn 7 = .ok (.if_icmp .gt 7, 3) := by decide +kernel
theorem dX7_isIn_10 : decode cX7_isIn 10 = .ok (.iconst 1, 1) := by decide +kernel
theorem dX7_isIn_11 : decode cX7_isIn 11 = .ok (.goto 4, 3) := by decide +kernel
theorem dX7_isIn_14 : decode cX7_isIn 14 = .ok (.iconst 0, 1) := by decide +kernel
theorem dX7_isIn_15 : decode cX7_isIn 15 = .ok (.ireturn, 1) := by decide +kernel
theorem dX7_isHour_0 : decode cX7_isHour 0 = .ok (.iload_n 0, 1) := by decide +kernel
theorem dX7_isHour_1 : decode cX7_isHour 1 = .ok (.iconst 0, 1) := by decide +kernel
theorem dX7_isHour_2 : decode cX7_isHour 2 = .ok (.bipush 23, 2) := by decide +kernel
theorem dX7_isHour_4 : decode cX7_isHour 4 = .ok (.invokestatic 85, 3) := by decide +kernel
theorem dX7_isHour_7 : decode cX7_isHour 7 = .ok (.ireturn, 1) := by decide +kernel
theorem dX7_isPlace_0 : decode cX7_isPlace 0 = .ok (.iload_n 0, 1) := by decide +kernel
theorem dX7_isPlace_1 : decode cX7_isPlace 1 = .ok (.iconst 0, 1) := by decide +kernel
theorem dX7_isPlace_2 : decode cX7_isPlace 2 = .ok (.bipush 7, 2) := by decide +kernel
theorem dX7_isPlace_4 : decode cX7_isPlace 4 = .ok (.invokestatic 85, 3) := by decide +kernel
theorem dX7_isPlace_7 : decode cX7_isPlace 7 = .ok (.ireturn, 1) := by decide +kernel
theorem dX7_isKind_0 : decode cX7_isKind 0 = .ok (.iload_n 0, 1) := by decide +kernel
theorem dX7_isKind_1 : decode cX7_isKind 1 = .ok (.iconst 0, 1) := by decide +kernel
theorem dX7_isKind_2 : decode cX7_isKind 2 = .ok (.getstatic 290, 3) := by decide +kernel
theorem dX7_isKind_5 : decode cX7_isKind 5 = .ok (.arraylength, 1) := by decide +kernel
theorem dX7_isKind_6 : decode cX7_isKind 6 = .ok (.iconst 1, 1) := by decide +kernel
theorem dX7_isKind_7 : decode cX7_isKind 7 = .ok (.isub, 1) := by decide +kernel
theorem dX7_isKind_8 : decode cX7_isKind 8 = .ok (.invokestatic 85, 3) := by decide +kernel
theorem dX7_isKind_11 : decode cX7_isKind 11 = .ok (.ireturn, 1) := by decide +kernel
theorem dX7_isSheet_0 : decode cX7_isSheet 0 = .ok (.iload_n 0, 1) := by decide +kernel
theorem dX7_isSheet_1 : decode cX7_isSheet 1 = .ok (.iconst 0, 1) := by decide +kernel
theorem dX7_isSheet_2 : decode cX7_isSheet 2 = .ok (.iconst 3, 1) := by decide +kernel
theorem dX7_isSheet_3 : decode cX7_isSheet 3 = .ok (.invokestatic 85, 3) := by decide +kernel
theorem dX7_isSheet_6 : decode cX7_isSheet 6 = .ok (.ireturn, 1) := by decide +kernel
theorem dX7_isDrip_0 : decode cX7_isDrip 0 = .ok (.iload_n 1, 1) := by decide +kernel
theorem dX7_isDrip_1 : decode cX7_isDrip 1 = .ok (.iconst 0, 1) := by decide +kernel
theorem dX7_isDrip_2 : decode cX7_isDrip 2 = .ok (.aload_n 0, 1) := by decide +kernel
theorem dX7_isDrip_3 : decode cX7_isDrip 3 = .ok (.getfield 12, 3) := by decide +kernel
theorem dX7_isDrip_6 : decode cX7_isDrip 6 = .ok (.getfield 119, 3) := by decide +kernel
theorem dX7_isDrip_9 : decode cX7_isDrip 9 = .ok (.iconst 1, 1) := by decide +kernel
theorem dX7_isDrip_10 : decode cX7_isDrip 10 = .ok (.isub, 1) := by decide +kernel
theorem dX7_isDrip_11 : decode cX7_isDrip 11 = .ok (.invokestatic 85, 3) := by decide +kernel
theorem dX7_isDrip_14 : decode cX7_isDrip 14 = .ok (.ireturn, 1) := by decide +kernel
theorem dX7_isVessel_0 : decode cX7_isVessel 0 = .ok (.iload_n 1, 1) := by decide +kernel
theorem dX7_isVessel_1 : decode cX7_isVessel 1 = .ok (.iconst 0, 1) := by decide +kernel
theorem dX7_isVessel_2 : decode cX7_isVessel 2 = .ok (.aload_n 0, 1) := by decide +kernel
theorem dX7_isVessel_3 : decode cX7_isVessel 3 = .ok (.getfield 12, 3) := by decide +kernel
theorem dX7_isVessel_6 : decode cX7_isVessel 6 = .ok (.getfield 125, 3) := by decide +kernel
theorem dX7_isVessel_9 : decode cX7_isVessel 9 = .ok (.iconst 1, 1) := by decide +kernel
theorem dX7_isVessel_10 : decode cX7_isVessel 10 = .ok (.isub, 1) := by decide +kernel
theorem dX7_isVessel_11 : decode cX7_isVessel 11 = .ok (.invokestatic 85, 3) := by decide +kernel
theorem dX7_isVessel_14 : decode cX7_isVessel 14 = .ok (.ireturn, 1) := by decide +kernel
theorem dX7_swapped_0 : decode cX7_swapped 0 = .ok (.iload_n 1, 1) := by decide +kernel
theorem dX7_swapped_1 : decode cX7_swapped 1 = .ok (.iconst 0, 1) := by decide +kernel
theorem dX7_swapped_2 : decode cX7_swapped 2 = .ok (.aload_n 0, 1) := by decide +kernel
theorem dX7_swapped_3 : decode cX7_swapped 3 = .ok (.arraylength, 1) := by decide +kernel
theorem dX7_swapped_4 : decode cX7_swapped 4 = .ok (.iconst 1, 1) := by decide +kernel
theorem dX7_swapped_5 : decode cX7_swapped 5 = .ok (.isub, 1) := by decide +kernel
theorem dX7_swapped_6 : decode cX7_swapped 6 = .ok (.invokestatic 85, 3) := by decide +kernel
theorem dX7_swapped_9 : decode cX7_swapped 9 = .ok (.ifCond .ne 6, 3) := by decide +kernel
theorem dX7_swapped_12 : decode cX7_swapped 12 = .ok (.bipush (-2), 2) := by decide +kernel
theorem dX7_swapped_14 : decode cX7_swapped 14 = .ok (.ireturn, 1) := by decide +kernel
theorem dX7_swapped_15 : decode cX7_swapped 15 = .ok (.aload_n 0, 1) := by decide +kernel
theorem dX7_swapped_16 : decode cX7_swapped 16 = .ok (.iload_n 1, 1) := by decide +kernel
theorem dX7_swapped_17 : decode cX7_swapped 17 = .ok (.iaload, 1) := by decide +kernel
theorem dX7_swapped_18 : decode cX7_swapped 18 = .ok (.istore_n 3, 1) := by decide +kernel
theorem dX7_swapped_19 : decode cX7_swapped 19 = .ok (.aload_n 0, 1) := by decide +kernel
theorem dX7_swapped_20 : decode cX7_swapped 20 = .ok (.iload_n 1, 1) := by decide +kernel
theorem dX7_swapped_21 : decode cX7_swapped 21 = .ok (.iload_n 2, 1) := by decide +kernel
theorem dX7_swapped_22 : decode cX7_swapped 22 = .ok (.iastore, 1) := by decide +kernel
theorem dX7_swapped_23 : decode cX7_swapped 23 = .ok (.iload_n 3, 1) := by decide +kernel
theorem dX7_swapped_24 : decode cX7_swapped 24 = .ok (.ireturn, 1) := by decide +kernel
theorem dX7_changed_0 : decode cX7_changed 0 = .ok (.iload_n 1, 1) := by decide +kernel
theorem dX7_changed_1 : decode cX7_changed 1 = .ok (.iconst 1, 1) := by decide +kernel
theorem dX7_changed_2 : decode cX7_changed 2 = .ok (.if_icmp .ne 13, 3) := by decide +kernel
theorem dX7_changed_5 : decode cX7_changed 5 = .ok (.aload_n 0, 1) := by decide +kernel
theorem dX7_changed_6 : decode cX7_changed 6 = .ok (.getfield 12, 3) := by decide +kernel
theorem dX7_changed_9 : decode cX7_changed 9 = .ok (.getfield 257, 3) := by decide +kernel
theorem dX7_changed_12 : decode cX7_changed 12 = .ok (.goto 25, 3) := by decide +kernel
theorem dX7_changed_15 : decode cX7_changed 15 = .ok (.iload_n 1, 1) := by decide +kernel
theorem dX7_changed_16 : decode cX7_changed 16 = .ok (.iconst 2, 1) := by decide +kernel
theorem dX7_changed_17 : decode cX7_changed 17 = .ok (.if_icmp .ne 13, 3) := by decide +kernel
theorem dX7_changed_20 : decode cX7_changed 20 = .ok (.aload_n 0, 1) := by decide +kernel
theorem dX7_changed_21 : decode cX7_changed 21 = .ok (.getfield 12, 3) := by decide +kernel
theorem dX7_changed_24 : decode cX7_changed 24 = .ok (.getfield 258, 3) := by decide +kernel
theorem dX7_changed_27 : decode cX7_changed 27 = .ok (.goto 10, 3) := by decide +kernel
theorem dX7_changed_30 : decode cX7_changed 30 = .ok (.aload_n 0, 1) := by decide +kernel
theorem dX7_changed_31 : decode cX7_changed 31 = .ok (.getfield 12, 3) := by decide +kernel
theorem dX7_changed_34 : decode cX7_changed 34 = .ok (.getfield 227, 3) := by decide +kernel
theorem dX7_changed_37 : decode cX7_changed 37 = .ok (.istore_n 3, 1) := by decide +kernel
theorem dX7_changed_38 : decode cX7_changed 38 = .ok (.iload_n 1, 1) := by decide +kernel
theorem dX7_changed_39 : decode cX7_changed 39 = .ok (.iconst 1, 1) := by decide +kernel
theorem dX7_changed_40 : decode cX7_changed 40 = .ok (.if_icmp .ne 25, 3) := by decide +kernel
theorem dX7_changed_43 : decode cX7_changed 43 = .ok (.iload_n 2, 1) := by decide +kernel
theorem dX7_changed_44 : decode cX7_changed 44 = .ok (.iconst 0, 1) := by decide +kernel
theorem dX7_changed_45 : decode cX7_changed 45 = .ok (.ldc_w 293, 3) := by decide +kernel
theorem dX7_changed_48 : decode cX7_changed 48 = .ok (.invokestatic 85, 3) := by decide +kernel
theorem dX7_changed_51 : decode cX7_changed 51 = .ok (.ifCond .eq 14, 3) := by decide +kernel
theorem dX7_changed_54 : decode cX7_changed 54 = .ok (.aload_n 0, 1) := by decide +kernel
theorem dX7_changed_55 : decode cX7_changed 55 = .ok (.getfield 12, 3) := by decide +kernel
theorem dX7_changed_58 : decode cX7_changed 58 = .ok (.iload_n 2, 1) := by decide +kernel
theorem dX7_changed_59 : decode cX7_changed 59 = .ok (.putfield 257, 3) := by decide +kernel
theorem dX7_changed_62 : decode cX7_changed 62 = .ok (.goto 56, 3) := by decide +kernel
theorem dX7_changed_65 : decode cX7_changed 65 = .ok (.iload_n 1, 1) := by decide +kernel
theorem dX7_changed_66 : decode cX7_changed 66 = .ok (.iconst 2, 1) := by decide +kernel
theorem dX7_changed_67 : decode cX7_changed 67 = .ok (.if_icmp .ne 23, 3) := by decide +kernel
theorem dX7_changed_70 : decode cX7_changed 70 = .ok (.iload_n 2, 1) := by decide +kernel
theorem dX7_changed_71 : decode cX7_changed 71 = .ok (.iconst 1, 1) := by decide +kernel
theorem dX7_changed_72 : decode cX7_changed 72 = .ok (.iconst 5, 1) := by decide +kernel
theorem dX7_changed_73 : decode cX7_changed 73 = .ok (.invokestatic 85, 3) := by decide +kernel
theorem dX7_changed_76 : decode cX7_changed 76 = .ok (.ifCond .eq 14, 3) := by decide +kernel
theorem dX7_changed_79 : decode cX7_changed 79 = .ok (.aload_n 0, 1) := by decide +kernel
theorem dX7_changed_80 : decode cX7_changed 80 = .ok (.getfield 12, 3) := by decide +kernel
theorem dX7_changed_83 : decode cX7_changed 83 = .ok (.iload_n 2, 1) := by decide +kernel
theorem dX7_changed_84 : decode cX7_changed 84 = .ok (.putfield 258, 3) := by decide +kernel
theorem dX7_changed_87 : decode cX7_changed 87 = .ok (.goto 31, 3) := by decide +kernel
theorem dX7_changed_90 : decode cX7_changed 90 = .ok (.iload_n 1, 1) := by decide +kernel
theorem dX7_changed_91 : decode cX7_changed 91 = .ok (.iconst 3, 1) := by decide +kernel
theorem dX7_changed_92 : decode cX7_changed 92 = .ok (.if_icmp .ne 23, 3) := by decide +kernel
theorem dX7_changed_95 : decode cX7_changed 95 = .ok (.iload_n 2, 1) := by decide +kernel
theorem dX7_changed_96 : decode cX7_changed 96 = .ok (.iconst 0, 1) := by decide +kernel
theorem dX7_changed_97 : decode cX7_changed 97 = .ok (.iconst 1, 1) := by decide +kernel
theorem dX7_changed_98 : decode cX7_changed 98 = .ok (.invokestatic 85, 3) := by decide +kernel
theorem dX7_changed_101 : decode cX7_changed 101 = .ok (.ifCond .eq 14, 3) := by decide +kernel
theorem dX7_changed_104 : decode cX7_changed 104 = .ok (.aload_n 0, 1) := by decide +kernel
theorem dX7_changed_105 : decode cX7_changed 105 = .ok (.getfield 12, 3) := by decide +kernel
theorem dX7_changed_108 : decode cX7_changed 108 = .ok (.iload_n 2, 1) := by decide +kernel
theorem dX7_changed_109 : decode cX7_changed 109 = .ok (.putfield 227, 3) := by decide +kernel
theorem dX7_changed_112 : decode cX7_changed 112 = .ok (.goto 6, 3) := by decide +kernel
theorem dX7_changed_115 : decode cX7_changed 115 = .ok (.bipush (-2), 2) := by decide +kernel
theorem dX7_changed_117 : decode cX7_changed 117 = .ok (.ireturn, 1) := by decide +kernel
theorem dX7_changed_118 : decode cX7_changed 118 = .ok (.iload_n 3, 1) := by decide +kernel
theorem dX7_changed_119 : decode cX7_changed 119 = .ok (.ireturn, 1) := by decide +kernel
theorem dX7_dawn_0 : decode cX7_dawn 0 = .ok (.aload_n 0, 1) := by decide +kernel
theorem dX7_dawn_1 : decode cX7_dawn 1 = .ok (.getfield 12, 3) := by decide +kernel
theorem dX7_dawn_4 : decode cX7_dawn 4 = .ok (.getfield 159, 3) := by decide +kernel
theorem dX7_dawn_7 : decode cX7_dawn 7 = .ok (.iconst 0, 1) := by decide +kernel
theorem dX7_dawn_8 : decode cX7_dawn 8 = .ok (.iconst 5, 1) := by decide +kernel
theorem dX7_dawn_9 : decode cX7_dawn 9 = .ok (.invokestatic 85, 3) := by decide +kernel
theorem dX7_dawn_12 : decode cX7_dawn 12 = .ok (.ifCond .eq 22, 3) := by decide +kernel
theorem dX7_dawn_15 : decode cX7_dawn 15 = .ok (.aload_n 0, 1) := by decide +kernel
theorem dX7_dawn_16 : decode cX7_dawn 16 = .ok (.getfield 69, 3) := by decide +kernel
theorem dX7_dawn_19 : decode cX7_dawn 19 = .ok (.aload_n 0, 1) := by decide +kernel
theorem dX7_dawn_20 : decode cX7_dawn 20 = .ok (.getfield 28, 3) := by decide +kernel
theorem dX7_dawn_23 : decode cX7_dawn 23 = .ok (.aload_n 0, 1) := by decide +kernel
theorem dX7_dawn_24 : decode cX7_dawn 24 = .ok (.getfield 12, 3) := by decide +kernel
theorem dX7_dawn_27 : decode cX7_dawn 27 = .ok (.getfield 159, 3) := by decide +kernel
theorem dX7_dawn_30 : decode cX7_dawn 30 = .ok (.aaload, 1) := by decide +kernel
theorem dX7_dawn_31 : decode cX7_dawn 31 = .ok (.putfield 294, 3) := by decide +kernel
theorem dX7_dawn_34 : decode cX7_dawn 34 = .ok (.aload_n 0, 1) := by decide +kernel
theorem dX7_dawn_35 : decode cX7_dawn 35 = .ok (.getfield 78, 3) := by decide +kernel
theorem dX7_dawn_38 : decode cX7_dawn 38 = .ok (.invokevirtual 298, 3) := by decide +kernel
theorem dX7_dawn_41 : decode cX7_dawn 41 = .ok (.aload_n 0, 1) := by decide +kernel
theorem dX7_dawn_42 : decode cX7_dawn 42 = .ok (.getfield 78, 3) := by decide +kernel
theorem dX7_dawn_45 : decode cX7_dawn 45 = .ok (.areturn, 1) := by decide +kernel
theorem dX7_bestHours_0 : decode cX7_bestHours 0 = .ok (.iload_n 1, 1) := by decide +kernel
theorem dX7_bestHours_1 : decode cX7_bestHours 1 = .ok (.ifCond .le 8, 3) := by decide +kernel
theorem dX7_bestHours_4 : decode cX7_bestHours 4 = .ok (.iload_n 1, 1) := by decide +kernel
theorem dX7_bestHours_5 : decode cX7_bestHours 5 = .ok (.iconst 3, 1) := by decide +kernel
theorem dX7_bestHours_6 : decode cX7_bestHours 6 = .ok (.if_icmp .le 16, 3) := by decide +kernel
theorem dX7_bestHours_9 : decode cX7_bestHours 9 = .ok (.aload_n 0, 1) := by decide +kernel
theorem dX7_bestHours_10 : decode cX7_bestHours 10 = .ok (.iload_n 3, 1) := by decide +kernel
theorem dX7_bestHours_11 : decode cX7_bestHours 11 = .ok (.putfield 220, 3) := by decide +kernel
theorem dX7_bestHours_14 : decode cX7_bestHours 14 = .ok (.aload_n 0, 1) := by decide +kernel
theorem dX7_bestHours_15 : decode cX7_bestHours 15 = .ok (.lload 4, 2) := by decide +kernel
theorem dX7_bestHours_17 : decode cX7_bestHours 17 = .ok (.iload_n 3, 1) := by decide +kernel
theorem dX7_bestHours_18 : decode cX7_bestHours 18 = .ok (.invokevirtual 199, 3) := by decide +kernel
theorem dX7_bestHours_21 : decode cX7_bestHours 21 = .ok (.lreturn, 1) := by decide +kernel
theorem dX7_bestHours_22 : decode cX7_bestHours 22 = .ok (.iconst 0, 1) := by decide +kernel
theorem dX7_bestHours_23 : decode cX7_bestHours 23 = .ok (.istore 6, 2) := by decide +kernel
theorem dX7_bestHours_25 : decode cX7_bestHours 25 = .ok (.iload 6, 2) := by decide +kernel
theorem dX7_bestHours_27 : decode cX7_bestHours 27 = .ok (.iload_n 2, 1) := by decide +kernel
theorem dX7_bestHours_28 : decode cX7_bestHours 28 = .ok (.if_icmp .ge 28, 3) := by decide +kernel
theorem dX7_bestHours_31 : decode cX7_bestHours 31 = .ok (.aload_n 0, 1) := by decide +kernel
theorem dX7_bestHours_32 : decode cX7_bestHours 32 = .ok (.iload_n 1, 1) := by decide +kernel
theorem dX7_bestHours_33 : decode cX7_bestHours 33 = .ok (.iconst 1, 1) := by decide +kernel
theorem dX7_bestHours_34 : decode cX7_bestHours 34 = .ok (.isub, 1) := by decide +kernel
theorem dX7_bestHours_35 : decode cX7_bestHours 35 = .ok (.iload 6, 2) := by decide +kernel
theorem dX7_bestHours_37 : decode cX7_bestHours 37 = .ok (.iload_n 3, 1) := by decide +kernel
theorem dX7_bestHours_38 : decode cX7_bestHours 38 = .ok (.iconst 1, 1) := by decide +kernel
theorem dX7_bestHours_39 : decode cX7_bestHours 39 = .ok (.iload 6, 2) := by decide +kernel
theorem dX7_bestHours_41 : decode cX7_bestHours 41 = .ok (.ishl, 1) := by decide +kernel
theorem dX7_bestHours_42 : decode cX7_bestHours 42 = .ok (.ior, 1) := by decide +kernel
theorem dX7_bestHours_43 : decode cX7_bestHours 43 = .ok (.lload 4, 2) := by decide +kernel
theorem dX7_bestHours_45 : decode cX7_bestHours 45 = .ok (.invokestatic 213, 3) := by decide +kernel
theorem dX7_bestHours_48 : decode cX7_bestHours 48 = .ok (.lstore 4, 2) := by decide +kernel
theorem dX7_bestHours_50 : decode cX7_bestHours 50 = .ok (.iinc 6 1, 3) := by decide +kernel
theorem dX7_bestHours_53 : decode cX7_bestHours 53 = .ok (.goto (-28), 3) := by decide +kernel
theorem dX7_bestHours_56 : decode cX7_bestHours 56 = .ok (.lload 4, 2) := by decide +kernel
theorem dX7_bestHours_58 : decode cX7_bestHours 58 = .ok (.lreturn, 1) := by decide +kernel
theorem dX7_costOf_0 : decode cX7_costOf 0 = .ok (.lload_n 0, 1) := by decide +kernel
theorem dX7_costOf_1 : decode cX7_costOf 1 = .ok (.bipush 32, 2) := by decide +kernel
theorem dX7_costOf_3 : decode cX7_costOf 3 = .ok (.lshr, 1) := by decide +kernel
theorem dX7_costOf_4 : decode cX7_costOf 4 = .ok (.l2i, 1) := by decide +kernel
theorem dX7_costOf_5 : decode cX7_costOf 5 = .ok (.ireturn, 1) := by decide +kernel
theorem dX7_choiceOf_0 : decode cX7_choiceOf 0 = .ok (.lload_n 0, 1) := by decide +kernel
theorem dX7_choiceOf_1 : decode cX7_choiceOf 1 = .ok (.l2i, 1) := by decide +kernel
theorem dX7_choiceOf_2 : decode cX7_choiceOf 2 = .ok (.ireturn, 1) := by decide +kernel
theorem dX7_refusalOfSight_0 : decode cX7_refusalOfSight 0 = .ok (.iload_n 1, 1) := by decide +kernel
theorem dX7_refusalOfSight_1 : decode cX7_refusalOfSight 1 = .ok (.invokestatic 262, 3) := by decide +kernel
theorem dX7_refusalOfSight_4 : decode cX7_refusalOfSight 4 = .ok (.ifCond .eq 10, 3) := by decide +kernel
theorem dX7_refusalOfSight_7 : decode cX7_refusalOfSight 7 = .ok (.iload_n 2, 1) := by decide +kernel
theorem dX7_refusalOfSight_8 : decode cX7_refusalOfSight 8 = .ok (.invokestatic 82, 3) := by decide +kernel
theorem dX7_refusalOfSight_11 : decode cX7_refusalOfSight 11 = .ok (.ifCond .ne 6, 3) := by decide +kernel
theorem dX7_refusalOfSight_14 : decode cX7_refusalOfSight 14 = .ok (.bipush (-2), 2) := by decide +kernel
theorem dX7_refusalOfSight_16 : decode cX7_refusalOfSight 16 = .ok (.ireturn, 1) := by decide +kernel
theorem dX7_refusalOfSight_17 : decode cX7_refusalOfSight 17 = .ok (.aload_n 0, 1) := by decide +kernel
theorem dX7_refusalOfSight_18 : decode cX7_refusalOfSight 18 = .ok (.getfield 34, 3) := by decide +kernel
theorem dX7_refusalOfSight_21 : decode cX7_refusalOfSight 21 = .ok (.iload_n 1, 1) := by decide +kernel
theorem dX7_refusalOfSight_22 : decode cX7_refusalOfSight 22 = .ok (.aaload, 1) := by decide +kernel
theorem dX7_refusalOfSight_23 : decode cX7_refusalOfSight 23 = .ok (.getfield 267, 3) := by decide +kernel
theorem dX7_refusalOfSight_26 : decode cX7_refusalOfSight 26 = .ok (.iconst (-1), 1) := by decide +kernel
theorem dX7_refusalOfSight_27 : decode cX7_refusalOfSight 27 = .ok (.if_icmp .ne 6, 3) := by decide +kernel
theorem dX7_refusalOfSight_30 : decode cX7_refusalOfSight 30 = .ok (.bipush (-11), 2) := by decide +kernel
theorem dX7_refusalOfSight_32 : decode cX7_refusalOfSight 32 = .ok (.ireturn, 1) := by decide +kernel
theorem dX7_refusalOfSight_33 : decode cX7_refusalOfSight 33 = .ok (.aload_n 0, 1) := by decide +kernel
theorem dX7_refusalOfSight_34 : decode cX7_refusalOfSight 34 = .ok (.getfield 34, 3) := by decide +kernel
theorem dX7_refusalOfSight_37 : decode cX7_refusalOfSight 37 = .ok (.iload_n 1, 1) := by decide +kernel
theorem dX7_refusalOfSight_38 : decode cX7_refusalOfSight 38 = .ok (.aaload, 1) := by decide +kernel
theorem dX7_refusalOfSight_39 : decode cX7_refusalOfSight 39 = .ok (.getfield 301, 3) := by decide +kernel
theorem dX7_refusalOfSight_42 : decode cX7_refusalOfSight 42 = .ok (.aload_n 0, 1) := by decide +kernel
theorem dX7_refusalOfSight_43 : decode cX7_refusalOfSight 43 = .ok (.getfield 12, 3) := by decide +kernel
theorem dX7_refusalOfSight_46 : decode cX7_refusalOfSight 46 = .ok (.getfield 125, 3) := by decide +kernel
theorem dX7_refusalOfSight_49 : decode cX7_refusalOfSight 49 = .ok (.if_icmp .ne 7, 3) := by decide +kernel
theorem dX7_refusalOfSight_52 : decode cX7_refusalOfSight 52 = .ok (.iconst 0, 1) := by decide +kernel
theorem dX7_refusalOfSight_53 : decode cX7_refusalOfSight 53 = .ok (.goto 5, 3) := by decide +kernel
theorem dX7_refusalOfSight_56 : decode cX7_refusalOfSight 56 = .ok (.bipush (-2), 2) := by decide +kernel
theorem dX7_refusalOfSight_58 : decode cX7_refusalOfSight 58 = .ok (.ireturn, 1) := by decide +kernel
theorem dX7_isAsSeen_0 : decode cX7_isAsSeen 0 = .ok (.aload_n 0, 1) := by decide +kernel
theorem dX7_isAsSeen_1 : decode cX7_isAsSeen 1 = .ok (.invokevirtual 140, 3) := by decide +kernel
theorem dX7_isAsSeen_4 : decode cX7_isAsSeen 4 = .ok (.getfield 144, 3) := by decide +kernel
theorem dX7_isAsSeen_7 : decode cX7_isAsSeen 7 = .ok (.iload_n 3, 1) := by decide +kernel
theorem dX7_isAsSeen_8 : decode cX7_isAsSeen 8 = .ok (.invokevirtual 302, 3) := by decide +kernel
theorem dX7_isAsSeen_11 : decode cX7_isAsSeen 11 = .ok (.aload_n 0, 1) := by decide +kernel
theorem dX7_isAsSeen_12 : decode cX7_isAsSeen 12 = .ok (.getfield 78, 3) := by decide +kernel
theorem dX7_isAsSeen_15 : decode cX7_isAsSeen 15 = .ok (.invokevirtual 179, 3) := by decide +kernel
theorem dX7_isAsSeen_18 : decode cX7_isAsSeen 18 = .ok (.aload_n 0, 1) := by decide +kernel
theorem dX7_isAsSeen_19 : decode cX7_isAsSeen 19 = .ok (.getfield 78, 3) := by decide +kernel
theorem dX7_isAsSeen_22 : decode cX7_isAsSeen 22 = .ok (.iload_n 2, 1) := by decide +kernel
theorem dX7_isAsSeen_23 : decode cX7_isAsSeen 23 = .ok (.iconst 1, 1) := by decide +kernel
theorem dX7_isAsSeen_24 : decode cX7_isAsSeen 24 = .ok (.iadd, 1) := by decide +kernel
theorem dX7_isAsSeen_25 : decode cX7_isAsSeen 25 = .ok (.ldc 182, 2) := by decide +kernel
theorem dX7_isAsSeen_27 : decode cX7_isAsSeen 27 = .ok (.invokevirtual 183, 3) := by decide +kernel
theorem dX7_isAsSeen_30 : decode cX7_isAsSeen 30 = .ok (.iconst 0, 1) := by decide +kernel
theorem dX7_isAsSeen_31 : decode cX7_isAsSeen 31 = .ok (.istore 4, 2) := by decide +kernel
theorem dX7_isAsSeen_33 : decode cX7_isAsSeen 33 = .ok (.iload 4, 2) := by decide +kernel
theorem dX7_isAsSeen_35 : decode cX7_isAsSeen 35 = .ok (.aload_n 0, 1) := by decide +kernel
theorem dX7_isAsSeen_36 : decode cX7_isAsSeen 36 = .ok (.getfield 12, 3) := by decide +kernel
theorem dX7_isAsSeen_39 : decode cX7_isAsSeen 39 = .ok (.getfield 125, 3) := by decide +kernel
theorem dX7_isAsSeen_42 : decode cX7_isAsSeen 42 = .ok (.if_icmp .ge 42, 3) := by decide +kernel
theorem dX7_isAsSeen_45 : decode cX7_isAsSeen 45 = .ok (.iload 4, 2) := by decide +kernel
theorem dX7_isAsSeen_47 : decode cX7_isAsSeen 47 = .ok (.iconst 5, 1) := by decide +kernel
theorem dX7_isAsSeen_48 : decode cX7_isAsSeen 48 = .ok (.if_icmp .ge 36, 3) := by decide +kernel
theorem dX7_isAsSeen_51 : decode cX7_isAsSeen 51 = .ok (.aload_n 0, 1) := by decide +kernel
theorem dX7_isAsSeen_52 : decode cX7_isAsSeen 52 = .ok (.getfield 78, 3) := by decide +kernel
theorem dX7_isAsSeen_55 : decode cX7_isAsSeen 55 = .ok (.getfield 187, 3) := by decide +kernel
theorem dX7_isAsSeen_58 : decode cX7_isAsSeen 58 = .ok (.iload 4, 2) := by decide +kernel
theorem dX7_isAsSeen_60 : decode cX7_isAsSeen 60 = .ok (.iaload, 1) := by decide +kernel
theorem dX7_isAsSeen_61 : decode cX7_isAsSeen 61 = .ok (.aload_n 0, 1) := by decide +kernel
theorem dX7_isAsSeen_62 : decode cX7_isAsSeen 62 = .ok (.getfield 34, 3) := by decide +kernel
theorem dX7_isAsSeen_65 : decode cX7_isAsSeen 65 = .ok (.iload_n 1, 1) := by decide +kernel
theorem dX7_isAsSeen_66 : decode cX7_isAsSeen 66 = .ok (.aaload, 1) := by decide +kernel
theorem dX7_isAsSeen_67 : decode cX7_isAsSeen 67 = .ok (.getfield 274, 3) := by decide +kernel
theorem dX7_isAsSeen_70 : decode cX7_isAsSeen 70 = .ok (.iload 4, 2) := by decide +kernel
theorem dX7_isAsSeen_72 : decode cX7_isAsSeen 72 = .ok (.iaload, 1) := by decide +kernel
theorem dX7_isAsSeen_73 : decode cX7_isAsSeen 73 = .ok (.if_icmp .eq 5, 3) := by decide +kernel
theorem dX7_isAsSeen_76 : decode cX7_isAsSeen 76 = .ok (.iconst 0, 1) := by decide +kernel
theorem dX7_isAsSeen_77 : decode cX7_isAsSeen 77 = .ok (.ireturn, 1) := by decide +kernel
theorem dX7_isAsSeen_78 : decode cX7_isAsSeen 78 = .ok (.iinc 4 1, 3) := by decide +kernel
theorem dX7_isAsSeen_81 : decode cX7_isAsSeen 81 = .ok (.goto (-48), 3) := by decide +kernel
theorem dX7_isAsSeen_84 : decode cX7_isAsSeen 84 = .ok (.iconst 1, 1) := by decide +kernel
theorem dX7_isAsSeen_85 : decode cX7_isAsSeen 85 = .ok (.ireturn, 1) := by decide +kernel
theorem dX7_sharedDivisor_0 : decode cX7_sharedDivisor 0 = .ok (.iload_n 1, 1) := by decide +kernel
theorem dX7_sharedDivisor_1 : decode cX7_sharedDivisor 1 = .ok (.istore_n 2, 1) := by decide +kernel
theorem dX7_sharedDivisor_2 : decode cX7_sharedDivisor 2 = .ok (.iload_n 2, 1) := by decide +kernel
theorem dX7_sharedDivisor_3 : decode cX7_sharedDivisor 3 = .ok (.iconst 1, 1) := by decide +kernel
theorem dX7_sharedDivisor_4 : decode cX7_sharedDivisor 4 = .ok (.if_icmp .le 23, 3) := by decide +kernel
theorem dX7_sharedDivisor_7 : decode cX7_sharedDivisor 7 = .ok (.iload_n 0, 1) := by decide +kernel
theorem dX7_sharedDivisor_8 : decode cX7_sharedDivisor 8 = .ok (.iload_n 2, 1) := by decide +kernel
theorem dX7_sharedDivisor_9 : decode cX7_sharedDivisor 9 = .ok (.irem, 1) := by decide +kernel
theorem dX7_sharedDivisor_10 : decode cX7_sharedDivisor 10 = .ok (.ifCond .ne 11, 3) := by decide +kernel
theorem dX7_sharedDivisor_13 : decode cX7_sharedDivisor 13 = .ok (.iload_n 1, 1) := by decide +kernel
theorem dX7_sharedDivisor_14 : decode cX7_sharedDivisor 14 = .ok (.iload_n 2, 1) := by decide +kernel
theorem dX7_sharedDivisor_15 : decode cX7_sharedDivisor 15 = .ok (.irem, 1) := by decide +kernel
theorem dX7_sharedDivisor_16 : decode cX7_sharedDivisor 16 = .ok (.ifCond .ne 5, 3) := by decide +kernel
theorem dX7_sharedDivisor_19 : decode cX7_sharedDivisor 19 = .ok (.iload_n 2, 1) := by decide +kernel
theorem dX7_sharedDivisor_20 : decode cX7_sharedDivisor 20 = .ok (.ireturn, 1) := by decide +kernel
theorem dX7_sharedDivisor_21 : decode cX7_sharedDivisor 21 = .ok (.iinc 2 (-1), 3) := by decide +kernel
theorem dX7_sharedDivisor_24 : decode cX7_sharedDivisor 24 = .ok (.goto (-22), 3) := by decide +kernel
theorem dX7_sharedDivisor_27 : decode cX7_sharedDivisor 27 = .ok (.iconst 1, 1) := by decide +kernel
theorem dX7_sharedDivisor_28 : decode cX7_sharedDivisor 28 = .ok (.ireturn, 1) := by decide +kernel
theorem dX7_waterInAll_0 : decode cX7_waterInAll 0 = .ok (.iconst 0, 1) := by decide +kernel
theorem dX7_waterInAll_1 : decode cX7_waterInAll 1 = .ok (.istore_n 1, 1) := by decide +kernel
theorem dX7_waterInAll_2 : decode cX7_waterInAll 2 = .ok (.iconst 0, 1) := by decide +kernel
theorem dX7_waterInAll_3 : decode cX7_waterInAll 3 = .ok (.istore_n 2, 1) := by decide +kernel
theorem dX7_waterInAll_4 : decode cX7_waterInAll 4 = .ok (.iload_n 2, 1) := by decide +kernel
theorem dX7_waterInAll_5 : decode cX7_waterInAll 5 = .ok (.aload_n 0, 1) := by decide +kernel
theorem dX7_waterInAll_6 : decode cX7_waterInAll 6 = .ok (.getfield 12, 3) := by decide +kernel
theorem dX7_waterInAll_9 : decode cX7_waterInAll 9 = .ok (.getfield 125, 3) := by decide +kernel
theorem dX7_waterInAll_12 : decode cX7_waterInAll 12 = .ok (.if_icmp .ge 26, 3) := by decide +kernel
theorem dX7_waterInAll_15 : decode cX7_waterInAll 15 = .ok (.iload_n 2, 1) := by decide +kernel
theorem dX7_waterInAll_16 : decode cX7_waterInAll 16 = .ok (.iconst 5, 1) := by decide +kernel
theorem dX7_waterInAll_17 : decode cX7_waterInAll 17 = .ok (.if_icmp .ge 21, 3) := by decide +kernel
theorem dX7_waterInAll_20 : decode cX7_waterInAll 20 = .ok (.iload_n 1, 1) := by decide +kernel
theorem dX7_waterInAll_21 : decode cX7_waterInAll 21 = .ok (.aload_n 0, 1) := by decide +kernel
theorem dX7_waterInAll_22 : decode cX7_waterInAll 22 = .ok (.getfield 12, 3) := by decide +kernel
theorem dX7_waterInAll_25 : decode cX7_waterInAll 25 = .ok (.getfield 134, 3) := by decide +kernel
theorem dX7_waterInAll_28 : decode cX7_waterInAll 28 = .ok (.iload_n 2, 1) := by decide +kernel
theorem dX7_waterInAll_29 : decode cX7_waterInAll 29 = .ok (.iaload, 1) := by decide +kernel
theorem dX7_waterInAll_30 : decode cX7_waterInAll 30 = .ok (.iadd, 1) := by decide +kernel
theorem dX7_waterInAll_31 : decode cX7_waterInAll 31 = .ok (.istore_n 1, 1) := by decide +kernel
theorem dX7_waterInAll_32 : decode cX7_waterInAll 32 = .ok (.iinc 2 1, 3) := by decide +kernel
theorem dX7_waterInAll_35 : decode cX7_waterInAll 35 = .ok (.goto (-31), 3) := by decide +kernel
theorem dX7_waterInAll_38 : decode cX7_waterInAll 38 = .ok (.iload_n 1, 1) := by decide +kernel
theorem dX7_waterInAll_39 : decode cX7_waterInAll 39 = .ok (.ireturn, 1) := by decide +kernel
theorem dX7_rainBy_0 : decode cX7_rainBy 0 = .ok (.iconst 0, 1) := by decide +kernel
theorem dX7_rainBy_1 : decode cX7_rainBy 1 = .ok (.istore 4, 2) := by decide +kernel
theorem dX7_rainBy_3 : decode cX7_rainBy 3 = .ok (.iconst 0, 1) := by decide +kernel
theorem dX7_rainBy_4 : decode cX7_rainBy 4 = .ok (.istore 5, 2) := by decide +kernel
theorem dX7_rainBy_6 : decode cX7_rainBy 6 = .ok (.iload 5, 2) := by decide +kernel
theorem dX7_rainBy_8 : decode cX7_rainBy 8 = .ok (.iload_n 3, 1) := by decide +kernel
theorem dX7_rainBy_9 : decode cX7_rainBy 9 = .ok (.if_icmp .ge 84, 3) := by decide +kernel
theorem dX7_rainBy_12 : decode cX7_rainBy 12 = .ok (.iload_n 2, 1) := by decide +kernel
theorem dX7_rainBy_13 : decode cX7_rainBy 13 = .ok (.iconst 2, 1) := by decide +kernel
theorem dX7_rainBy_14 : decode cX7_rainBy 14 = .ok (.iload 5, 2) := by decide +kernel
theorem dX7_rainBy_16 : decode cX7_rainBy 16 = .ok (.imul, 1) := by decide +kernel
theorem dX7_rainBy_17 : decode cX7_rainBy 17 = .ok (.iadd, 1) := by decide +kernel
theorem dX7_rainBy_18 : decode cX7_rainBy 18 = .ok (.istore 6, 2) := by decide +kernel
theorem dX7_rainBy_20 : decode cX7_rainBy 20 = .ok (.aload_n 1, 1) := by decide +kernel
theorem dX7_rainBy_21 : decode cX7_rainBy 21 = .ok (.iload 6, 2) := by decide +kernel
theorem dX7_rainBy_23 : decode cX7_rainBy 23 = .ok (.iconst 2, 1) := by decide +kernel
theorem dX7_rainBy_24 : decode cX7_rainBy 24 = .ok (.invokevirtual 271, 3) := by decide +kernel
theorem dX7_rainBy_27 : decode cX7_rainBy 27 = .ok (.ifCond .ne 6, 3) := by decide +kernel
theorem dX7_rainBy_30 : decode cX7_rainBy 30 = .ok (.bipush (-12), 2) := by decide +kernel
theorem dX7_rainBy_32 : decode cX7_rainBy 32 = .ok (.ireturn, 1) := by decide +kernel
theorem dX7_rainBy_33 : decode cX7_rainBy 33 = .ok (.aload_n 1, 1) := by decide +kernel
theorem dX7_rainBy_34 : decode cX7_rainBy 34 = .ok (.getfield 274, 3) := by decide +kernel
theorem dX7_rainBy_37 : decode cX7_rainBy 37 = .ok (.iload 6, 2) := by decide +kernel
theorem dX7_rainBy_39 : decode cX7_rainBy 39 = .ok (.iaload, 1) := by decide +kernel
theorem dX7_rainBy_40 : decode cX7_rainBy 40 = .ok (.istore 7, 2) := by decide +kernel
theorem dX7_rainBy_42 : decode cX7_rainBy 42 = .ok (.aload_n 1, 1) := by decide +kernel
theorem dX7_rainBy_43 : decode cX7_rainBy 43 = .ok (.getfield 274, 3) := by decide +kernel
theorem dX7_rainBy_46 : decode cX7_rainBy 46 = .ok (.iload 6, 2) := by decide +kernel
theorem dX7_rainBy_48 : decode cX7_rainBy 48 = .ok (.iconst 1, 1) := by decide +kernel
theorem dX7_rainBy_49 : decode cX7_rainBy 49 = .ok (.iadd, 1) := by decide +kernel
theorem dX7_rainBy_50 : decode cX7_rainBy 50 = .ok (.iaload, 1) := by decide +kernel
theorem dX7_rainBy_51 : decode cX7_rainBy 51 = .ok (.istore 8, 2) := by decide +kernel
theorem dX7_rainBy_53 : decode cX7_rainBy 53 = .ok (.iload 7, 2) := by decide +kernel
theorem dX7_rainBy_55 : decode cX7_rainBy 55 = .ok (.invokestatic 82, 3) := by decide +kernel
theorem dX7_rainBy_58 : decode cX7_rainBy 58 = .ok (.ifCond .eq 29, 3) := by decide +kernel
theorem dX7_rainBy_61 : decode cX7_rainBy 61 = .ok (.iload 8, 2) := by decide +kernel
theorem dX7_rainBy_63 : decode cX7_rainBy 63 = .ok (.iconst 0, 1) := by decide +kernel
theorem dX7_rainBy_64 : decode cX7_rainBy 64 = .ok (.bipush 9, 2) := by decide +kernel
theorem dX7_rainBy_66 : decode cX7_rainBy 66 = .ok (.invokestatic 85, 3) := by decide +kernel
theorem dX7_rainBy_69 : decode cX7_rainBy 69 = .ok (.ifCond .eq 18, 3) := by decide +kernel
theorem dX7_rainBy_72 : decode cX7_rainBy 72 = .ok (.aload_n 0, 1) := by decide +kernel
theorem dX7_rainBy_73 : decode cX7_rainBy 73 = .ok (.getfield 12, 3) := by decide +kernel
theorem dX7_rainBy_76 : decode cX7_rainBy 76 = .ok (.getfield 89, 3) := by decide +kernel
theorem dX7_rainBy_79 : decode cX7_rainBy 79 = .ok (.iload 7, 2) := by decide +kernel
theorem dX7_rainBy_81 : decode cX7_rainBy 81 = .ok (.iload 8, 2) := by decide +kernel
theorem dX7_rainBy_83 : decode cX7_rainBy 83 = .ok (.iastore, 1) := by decide +kernel
theorem dX7_rainBy_84 : decode cX7_rainBy 84 = .ok (.iinc 4 1, 3) := by decide +kernel
theorem dX7_rainBy_87 : decode cX7_rainBy 87 = .ok (.iinc 5 1, 3) := by decide +kernel
theorem dX7_rainBy_90 : decode cX7_rainBy 90 = .ok (.goto (-84), 3) := by decide +kernel
theorem dX7_rainBy_93 : decode cX7_rainBy 93 = .ok (.iload 4, 2) := by decide +kernel
theorem dX7_rainBy_95 : decode cX7_rainBy 95 = .ok (.ireturn, 1) := by decide +kernel
theorem dX7_isUnder_0 : decode cX7_isUnder 0 = .ok (.iload_n 0, 1) := by decide +kernel
theorem dX7_isUnder_1 : decode cX7_isUnder 1 = .ok (.istore_n 2, 1) := by decide +kernel
theorem dX7_isUnder_2 : decode cX7_isUnder 2 = .ok (.iconst 0, 1) := by decide +kernel
theorem dX7_isUnder_3 : decode cX7_isUnder 3 = .ok (.istore_n 3, 1) := by decide +kernel
theorem dX7_isUnder_4 : decode cX7_isUnder 4 = .ok (.iload_n 3, 1) := by decide +kernel
theorem dX7_isUnder_5 : decode cX7_isUnder 5 = .ok (.getstatic 290, 3) := by decide +kernel
theorem dX7_isUnder_8 : decode cX7_isUnder 8 = .ok (.arraylength, 1) := by decide +kernel
theorem dX7_isUnder_9 : decode cX7_isUnder 9 = .ok (.if_icmp .ge 29, 3) := by decide +kernel
theorem dX7_isUnder_12 : decode cX7_isUnder 12 = .ok (.iload_n 2, 1) := by decide +kernel
theorem dX7_isUnder_13 : decode cX7_isUnder 13 = .ok (.invokestatic 116, 3) := by decide +kernel
theorem dX7_isUnder_16 : decode cX7_isUnder 16 = .ok (.ifCond .eq 22, 3) := by decide +kernel
theorem dX7_isUnder_19 : decode cX7_isUnder 19 = .ok (.iload_n 2, 1) := by decide +kernel
theorem dX7_isUnder_20 : decode cX7_isUnder 20 = .ok (.iload_n 1, 1) := by decide +kernel
theorem dX7_isUnder_21 : decode cX7_isUnder 21 = .ok (.if_icmp .ne 5, 3) := by decide +kernel
theorem dX7_isUnder_24 : decode cX7_isUnder 24 = .ok (.iconst 1, 1) := by decide +kernel
theorem dX7_isUnder_25 : decode cX7_isUnder 25 = .ok (.ireturn, 1) := by decide +kernel
theorem dX7_isUnder_26 : decode cX7_isUnder 26 = .ok (.getstatic 290, 3) := by decide +kernel
theorem dX7_isUnder_29 : decode cX7_isUnder 29 = .ok (.iload_n 2, 1) := by decide +kernel
theorem dX7_isUnder_30 : decode cX7_isUnder 30 = .ok (.iaload, 1) := by decide +kernel
theorem dX7_isUnder_31 : decode cX7_isUnder 31 = .ok (.istore_n 2, 1) := by decide +kernel
theorem dX7_isUnder_32 : decode cX7_isUnder 32 = .ok (.iinc 3 1, 3) := by decide +kernel
theorem dX7_isUnder_35 : decode cX7_isUnder 35 = .ok (.goto (-31), 3) := by decide +kernel
theorem dX7_isUnder_38 : decode cX7_isUnder 38 = .ok (.iconst 0, 1) := by decide +kernel
theorem dX7_isUnder_39 : decode cX7_isUnder 39 = .ok (.ireturn, 1) := by decide +kernel
theorem dX8_in_0 : decode cX8_in 0 = .ok (.lload_n 0, 1) := by decide +kernel
theorem dX8_in_1 : decode cX8_in 1 = .ok (.lload_n 2, 1) := by decide +kernel
theorem dX8_in_2 : decode cX8_in 2 = .ok (.lcmp, 1) := by decide +kernel
theorem dX8_in_3 : decode cX8_in 3 = .ok (.ifCond .lt 14, 3) := by decide +kernel
theorem dX8_in_6 : decode cX8_in 6 = .ok (.lload_n 0, 1) := by decide +kernel
theorem dX8_in_7 : decode cX8_in 7 = .ok (.lload 4, 2) := by decide +kernel
theorem dX8_in_9 : decode cX8_in 9 = .ok (.lcmp, 1) := by decide +kernel
theorem dX8_in_10 : decode cX8_in 10 = .ok (.ifCond .gt 7, 3) := by decide +kernel
theorem dX8_in_13 : decode cX8_in 13 = .ok (.iconst 1, 1) := by decide +kernel
theorem dX8_in_14 : decode cX8_in 14 = .ok (.goto 4, 3) := by decide +kernel
theorem dX8_in_17 : decode cX8_in 17 = .ok (.iconst 0, 1) := by decide +kernel
theorem dX8_in_18 : decode cX8_in 18 = .ok (.ireturn, 1) := by decide +kernel
theorem dX8_within_0 : decode cX8_within 0 = .ok (.iload_n 0, 1) := by decide +kernel
theorem dX8_within_1 : decode cX8_within 1 = .ok (.iload_n 1, 1) := by decide +kernel
theorem dX8_within_2 : decode cX8_within 2 = .ok (.if_icmp .ge 7, 3) := by decide +kernel
theorem dX8_within_5 : decode cX8_within 5 = .ok (.iload_n 1, 1) := by decide +kernel
theorem dX8_within_6 : decode cX8_within 6 = .ok (.goto 13, 3) := by decide +kernel
theorem dX8_within_9 : decode cX8_within 9 = .ok (.iload_n 0, 1) := by decide +kernel
theorem dX8_within_10 : decode cX8_within 10 = .ok (.iload_n 2, 1) := by decide +kernel
theorem dX8_within_11 : decode cX8_within 11 = .ok (.if_icmp .le 7, 3) := by decide +kernel
theorem dX8_within_14 : decode cX8_within 14 = .ok (.iload_n 2, 1) := by decide +kernel
theorem dX8_within_15 : decode cX8_within 15 = .ok (.goto 4, 3) := by decide +kernel
theorem dX8_within_18 : decode cX8_within 18 = .ok (.iload_n 0, 1) := by decide +kernel
theorem dX8_within_19 : decode cX8_within 19 = .ok (.ireturn, 1) := by decide +kernel
theorem dX8_init_0 : decode cX8_init 0 = .ok (.aload_n 0, 1) := by decide +kernel
theorem dX8_init_1 : decode cX8_init 1 = .ok (.invokespecial 7, 3) := by decide +kernel
theorem dX8_init_4 : decode cX8_init 4 = .ok (.aload_n 0, 1) := by decide +kernel
theorem dX8_init_5 : decode cX8_init 5 = .ok (.sipush 960, 3) := by decide +kernel
theorem dX8_init_8 : decode cX8_init 8 = .ok (.newarray .int, 2) := by decide +kernel
theorem dX8_init_10 : decode cX8_init 10 = .ok (.putfield 13, 3) := by decide +kernel
theorem dX8_init_13 : decode cX8_init 13 = .ok (.aload_n 0, 1) := by decide +kernel
theorem dX8_init_14 : decode cX8_init 14 = .ok (.bipush 6, 2) := by decide +kernel
theorem dX8_init_16 : decode cX8_init 16 = .ok (.newarray .int, 2) := by decide +kernel
theorem dX8_init_18 : decode cX8_init 18 = .ok (.putfield 17, 3) := by decide +kernel
theorem dX8_init_21 : decode cX8_init 21 = .ok (.aload_n 0, 1) := by decide +kernel
theorem dX8_init_22 : decode cX8_init 22 = .ok (.sipush 160, 3) := by decide +kernel
theorem dX8_init_25 : decode cX8_init 25 = .ok (.newarray .int, 2) := by decide +kernel
theorem dX8_init_27 : decode cX8_init 27 = .ok (.putfield 20, 3) := by decide +kernel
theorem dX8_init_30 : decode cX8_init 30 = .ok (.aload_n 0, 1) := by decide +kernel
theorem dX8_init_31 : decode cX8_init 31 = .ok (.bipush 24, 2) := by decide +kernel
theorem dX8_init_33 : decode cX8_init 33 = .ok (.newarray .int, 2) := by decide +kernel
theorem dX8_init_35 : decode cX8_init 35 = .ok (.putfield 23, 3) := by decide +kernel
theorem dX8_init_38 : decode cX8_init 38 = .ok (.aload_n 0, 1) := by decide +kernel
theorem dX8_init_39 : decode cX8_init 39 = .ok (.iconst 2, 1) := by decide +kernel
theorem dX8_init_40 : decode cX8_init 40 = .ok (.putfield 26, 3) := by decide +kernel
theorem dX8_init_43 : decode cX8_init 43 = .ok (.aload_n 0, 1) := by decide +kernel
theorem dX8_init_44 : decode cX8_init 44 = .ok (.bipush 6, 2) := by decide +kernel
theorem dX8_init_46 : decode cX8_init 46 = .ok (.newarray .int, 2) := by decide +kernel
theorem dX8_init_48 : decode cX8_init 48 = .ok (.putfield 29, 3) := by decide +kernel
theorem dX8_init_51 : decode cX8_init 51 = .ok (.aload_n 0, 1) := by decide +kernel
theorem dX8_init_52 : decode cX8_init 52 = .ok (.bipush 6, 2) := by decide +kernel
theorem dX8_init_54 : decode cX8_init 54 = .ok (.newarray .int, 2) := by decide +kernel
theorem dX8_init_56 : decode cX8_init 56 = .ok (.putfield 32, 3) := by decide +kernel
theorem dX8_init_59 : decode cX8_init 59 = .ok (.aload_n 0, 1) := by decide +kernel
theorem dX8_init_60 : decode cX8_init 60 = .ok (.bipush 6, 2) := by decide +kernel
theorem dX8_init_62 : decode cX8_init 62 = .ok (.newarray .int, 2) := by decide +kernel
theorem dX8_init_64 : decode cX8_init 64 = .ok (.putfield 35, 3) := by decide +kernel
theorem dX8_init_67 : decode cX8_init 67 = .ok (.aload_n 0, 1) := by decide +kernel
theorem dX8_init_68 : decode cX8_init 68 = .ok (.bipush 6, 2) := by decide +kernel
theorem dX8_init_70 : decode cX8_init 70 = .ok (.newarray .int, 2) := by decide +kernel
theorem dX8_init_72 : decode cX8_init 72 = .ok (.putfield 38, 3) := by decide +kernel
theorem dX8_init_75 : decode cX8_init 75 = .ok (.aload_n 0, 1) := by decide +kernel
theorem dX8_init_76 : decode cX8_init 76 = .ok (.iconst 5, 1) := by decide +kernel
theorem dX8_init_77 : decode cX8_init 77 = .ok (.newarray .int, 2) := by decide +kernel
theorem dX8_init_79 : decode cX8_init 79 = .ok (.putfield 41, 3) := by decide +kernel
theorem dX8_init_82 : decode cX8_init 82 = .ok (.aload_n 0, 1) := by decide +kernel
theorem dX8_init_83 : decode cX8_init 83 = .ok (.iconst 5, 1) := by decide +kernel
theorem dX8_init_84 : decode cX8_init 84 = .ok (.newarray .int, 2) := by decide +kernel
theorem dX8_init_86 : decode cX8_init 86 = .ok (.putfield 44, 3) := by decide +kernel
theorem dX8_init_89 : decode cX8_init 89 = .ok (.aload_n 0, 1) := by decide +kernel
theorem dX8_init_90 : decode cX8_init 90 = .ok (.iconst 5, 1) := by decide +kernel
theorem dX8_init_91 : decode cX8_init 91 = .ok (.newarray .int, 2) := by decide +kernel
theorem dX8_init_93 : decode cX8_init 93 = .ok (.putfield 47, 3) := by decide +kernel
theorem dX8_init_96 : decode cX8_init 96 = .ok (.aload_n 0, 1) := by decide +kernel
theorem dX8_init_97 : decode cX8_init 97 = .ok (.sipush 192, 3) := by decide +kernel
theorem dX8_init_100 : decode cX8_init 100 = .ok (.newarray .int, 2) := by decide +kernel
theorem dX8_init_102 : decode cX8_init 102 = .ok (.putfield 50, 3) := by decide +kernel
theorem dX8_init_105 : decode cX8_init 105 = .ok (.aload_n 0, 1) := by decide +kernel
theorem dX8_init_106 : decode cX8_init 106 = .ok (.iconst 5, 1) := by decide +kernel
theorem dX8_init_107 : decode cX8_init 107 = .ok (.newarray .int, 2) := by decide +kernel
theorem dX8_init_109 : decode cX8_init 109 = .ok (.putfield 53, 3) := by decide +kernel
theorem dX8_init_112 : decode cX8_init 112 = .ok (.aload_n 0, 1) := by decide +kernel
theorem dX8_init_113 : decode cX8_init 113 = .ok (.bipush 120, 2) := by decide +kernel
theorem dX8_init_115 : decode cX8_init 115 = .ok (.newarray .int, 2) := by decide +kernel
theorem dX8_init_117 : decode cX8_init 117 = .ok (.putfield 56, 3) := by decide +kernel
theorem dX8_init_120 : decode cX8_init 120 = .ok (.aload_n 0, 1) := by decide +kernel
theorem dX8_init_121 : decode cX8_init 121 = .ok (.sipush 192, 3) := by decide +kernel
theorem dX8_init_124 : decode cX8_init 124 = .ok (.newarray .int, 2) := by decide +kernel
theorem dX8_init_126 : decode cX8_init 126 = .ok (.putfield 59, 3) := by decide +kernel
theorem dX8_init_129 : decode cX8_init 129 = .ok (.aload_n 0, 1) := by decide +kernel
theorem dX8_init_130 : decode cX8_init 130 = .ok (.ldc 62, 2) := by decide +kernel
theorem dX8_init_132 : decode cX8_init 132 = .ok (.newarray .int, 2) := by decide +kernel
theorem dX8_init_134 : decode cX8_init 134 = .ok (.putfield 63, 3) := by decide +kernel
theorem dX8_init_137 : decode cX8_init 137 = .ok (.aload_n 0, 1) := by decide +kernel
theorem dX8_init_138 : decode cX8_init 138 = .ok (.iconst 5, 1) := by decide +kernel
theorem dX8_init_139 : decode cX8_init 139 = .ok (.newarray .int, 2) := by decide +kernel
theorem dX8_init_141 : decode cX8_init 141 = .ok (.putfield 66, 3) := by decide +kernel
theorem dX8_init_144 : decode cX8_init 144 = .ok (.aload_n 0, 1) := by decide +kernel
theorem dX8_init_145 : decode cX8_init 145 = .ok (.iconst 5, 1) := by decide +kernel
theorem dX8_init_146 : decode cX8_init 146 = .ok (.newarray .int, 2) := by decide +kernel
theorem dX8_init_148 : decode cX8_init 148 = .ok (.putfield 69, 3) := by decide +kernel
theorem dX8_init_151 : decode cX8_init 151 = .ok (.aload_n 0, 1) := by decide +kernel
theorem dX8_init_152 : decode cX8_init 152 = .ok (.bipush 24, 2) := by decide +kernel
theorem dX8_init_154 : decode cX8_init 154 = .ok (.newarray .int, 2) := by decide +kernel
theorem dX8_init_156 : decode cX8_init 156 = .ok (.putfield 72, 3) := by decide +kernel
theorem dX8_init_159 : decode cX8_init 159 = .ok (.aload_n 0, 1) := by decide +kernel
theorem dX8_init_160 : decode cX8_init 160 = .ok (.bipush 24, 2) := by decide +kernel
theorem dX8_init_162 : decode cX8_init 162 = .ok (.newarray .int, 2) := by decide +kernel
theorem dX8_init_164 : decode cX8_init 164 = .ok (.putfield 75, 3) := by decide +kernel
theorem dX8_init_167 : decode cX8_init 167 = .ok (.aload_n 0, 1) := by decide +kernel
theorem dX8_init_168 : decode cX8_init 168 = .ok (.bipush 18, 2) := by decide +kernel
theorem dX8_init_170 : decode cX8_init 170 = .ok (.newarray .int, 2) := by decide +kernel
theorem dX8_init_172 : decode cX8_init 172 = .ok (.putfield 78, 3) := by decide +kernel
theorem dX8_init_175 : decode cX8_init 175 = .ok (.aload_n 0, 1) := by decide +kernel
theorem dX8_init_176 : decode cX8_init 176 = .ok (.bipush 10, 2) := by decide +kernel
theorem dX8_init_178 : decode cX8_init 178 = .ok (.newarray .int, 2) := by decide +kernel
theorem dX8_init_180 : decode cX8_init 180 = .ok (.putfield 81, 3) := by decide +kernel
theorem dX8_init_183 : decode cX8_init 183 = .ok (.aload_n 0, 1) := by decide +kernel
theorem dX8_init_184 : decode cX8_init 184 = .ok (.iconst (-1), 1) := by decide +kernel
theorem dX8_init_185 : decode cX8_init 185 = .ok (.putfield 84, 3) := by decide +kernel
theorem dX8_init_188 : decode cX8_init 188 = .ok (.aload_n 0, 1) := by decide +kernel
theorem dX8_init_189 : decode cX8_init 189 = .ok (.iconst 4, 1) := by decide +kernel
theorem dX8_init_190 : decode cX8_init 190 = .ok (.newarray .boolean, 2) := by decide +kernel
theorem dX8_init_192 : decode cX8_init 192 = .ok (.putfield 87, 3) := by decide +kernel
theorem dX8_init_195 : decode cX8_init 195 = .ok (.aload_n 0, 1) := by decide +kernel
theorem dX8_init_196 : decode cX8_init 196 = .ok (.iconst 4, 1) := by decide +kernel
theorem dX8_init_197 : decode cX8_init 197 = .ok (.newarray .int, 2) := by decide +kernel
theorem dX8_init_199 : decode cX8_init 199 = .ok (.putfield 91, 3) := by decide +kernel
theorem dX8_init_202 : decode cX8_init 202 = .ok (.aload_n 0, 1) := by decide +kernel
theorem dX8_init_203 : decode cX8_init 203 = .ok (.iconst 4, 1) := by decide +kernel
theorem dX8_init_204 : decode cX8_init 204 = .ok (.newarray .int, 2) := by decide +kernel
theorem dX8_init_206 : decode cX8_init 206 = .ok (.putfield 94, 3) := by decide +kernel
theorem dX8_init_209 : decode cX8_init 209 = .ok (.aload_n 0, 1) := by decide +kernel
theorem dX8_init_210 : decode cX8_init 210 = .ok (.sipush 160, 3) := by decide +kernel
theorem dX8_init_213 : decode cX8_init 213 = .ok (.newarray .int, 2) := by decide +kernel
theorem dX8_init_215 : decode cX8_init 215 = .ok (.putfield 97, 3) := by decide +kernel
theorem dX8_init_218 : decode cX8_init 218 = .ok (.aload_n 0, 1) := by decide +kernel
theorem dX8_init_219 : decode cX8_init 219 = .ok (.iconst 0, 1) := by decide +kernel
theorem dX8_init_220 : decode cX8_init 220 = .ok (.bipush 102, 2) := by decide +kernel
theorem dX8_init_222 : decode cX8_init 222 = .ok (.bipush 97, 2) := by decide +kernel
theorem dX8_init_224 : decode cX8_init 224 = .ok (.bipush 108, 2) := by decide +kernel
theorem dX8_init_226 : decode cX8_init 226 = .ok (.bipush 108, 2) := by decide +kernel
theorem dX8_init_228 : decode cX8_init 228 = .ok (.bipush 115, 2) := by decide +kernel
theorem dX8_init_230 : decode cX8_init 230 = .ok (.bipush 32, 2) := by decide +kernel
theorem dX8_init_232 : decode cX8_init 232 = .ok (.bipush 114, 2) := by decide +kernel
theorem dX8_init_234 : decode cX8_init 234 = .ok (.bipush 97, 2) := by decide +kernel
theorem dX8_init_236 : decode cX8_init 236 = .ok (.invokevirtual 100, 3) := by decide +kernel
theorem dX8_init_239 : decode cX8_init 239 = .ok (.aload_n 0, 1) := by decide +kernel
theorem dX8_init_240 : decode cX8_init 240 = .ok (.bipush 8, 2) := by decide +kernel
theorem dX8_init_242 : decode cX8_init 242 = .ok (.bipush 116, 2) := by decide +kernel
theorem dX8_init_244 : decode cX8_init 244 = .ok (.bipush 101, 2) := by decide +kernel
theorem dX8_init_246 : decode cX8_init 246 = .ok (.bipush 32, 2) := by decide +kernel
theorem dX8_init_248 : decode cX8_init 248 = .ok (.bipush 42, 2) := by decide +kernel
theorem dX8_init_250 : decode cX8_init 250 = .ok (.bipush 32, 2) := by decide +kernel
theorem dX8_init_252 : decode cX8_init 252 = .ok (.bipush 114, 2) := by decide +kernel
theorem dX8_init_254 : decode cX8_init 254 = .ok (.bipush 97, 2) := by decide +kernel
theorem dX8_init_256 : decode cX8_init 256 = .ok (.bipush 105, 2) := by decide +kernel
theorem dX8_init_258 : decode cX8_init 258 = .ok (.invokevirtual 100, 3) := by decide +kernel
theorem dX8_init_261 : decode cX8_init 261 = .ok (.aload_n 0, 1) := by decide +kernel
theorem dX8_init_262 : decode cX8_init 262 = .ok (.bipush 16, 2) := by decide +kernel
theorem dX8_init_264 : decode cX8_init 264 = .ok (.bipush 110, 2) := by decide +kernel
theorem dX8_init_266 : decode cX8_init 266 = .ok (.bipush 32, 2) := by decide +kernel
theorem dX8_init_268 : decode cX8_init 268 = .ok (.bipush 59, 2) := by decide +kernel
theorem dX8_init_270 : decode cX8_init 270 = .ok (.bipush 32, 2) := by decide +kernel
theorem dX8_init_272 : decode cX8_init 272 = .ok (.bipush 104, 2) := by decide +kernel
theorem dX8_init_274 : decode cX8_init 274 = .ok (.bipush 97, 2) := by decide +kernel
theorem dX8_init_276 : decode cX8_init 276 = .ok (.bipush 114, 2) := by decide +kernel
theorem dX8_init_278 : decode cX8_init 278 = .ok (.bipush 109, 2) := by decide +kernel
theorem dX8_init_280 : decode cX8_init 280 = .ok (.invokevirtual 100, 3) := by decide +kernel
theorem dX8_init_283 : decode cX8_init 283 = .ok (.aload_n 0, 1) := by decide +kernel
theorem dX8_init_284 : decode cX8_init 284 = .ok (.bipush 24, 2) := by decide +kernel
theorem dX8_init_286 : decode cX8_init 286 = .ok (.bipush 115, 2) := by decide +kernel
theorem dX8_init_288 : decode cX8_init 288 = .ok (.bipush 32, 2) := by decide +kernel
theorem dX8_init_290 : decode cX8_init 290 = .ok (.bipush 115, 2) := by decide +kernel
theorem dX8_init_292 : decode cX8_init 292 = .ok (.bipush 105, 2) := by decide +kernel
theorem dX8_init_294 : decode cX8_init 294 = .ok (.bipush 122, 2) := by decide +kernel
theorem dX8_init_296 : decode cX8_init 296 = .ok (.bipush 101, 2) := by decide +kernel
theorem dX8_init_298 : decode cX8_init 298 = .ok (.bipush 32, 2) := by decide +kernel
theorem dX8_init_300 : decode cX8_init 300 = .ok (.bipush 42, 2) := by decide +kernel
theorem dX8_init_302 : decode cX8_init 302 = .ok (.invokevirtual 100, 3) := by decide +kernel
theorem dX8_init_305 : decode cX8_init 305 = .ok (.aload_n 0, 1) := by decide +kernel
theorem dX8_init_306 : decode cX8_init 306 = .ok (.bipush 32, 2) := by decide +kernel
theorem dX8_init_308 : decode cX8_init 308 = .ok (.bipush 32, 2) := by decide +kernel
theorem dX8_init_310 : decode cX8_init 310 = .ok (.bipush 50, 2) := by decide +kernel
theorem dX8_init_312 : decode cX8_init 312 = .ok (.bipush 32, 2) := by decide +kernel
theorem dX8_init_314 : decode cX8_init 314 = .ok (.bipush 59, 2) := by decide +kernel
theorem dX8_init_316 : decode cX8_init 316 = .ok (.bipush 32, 2) := by decide +kernel
theorem dX8_init_318 : decode cX8_init 318 = .ok (.bipush 119, 2) := by decide +kernel
theorem dX8_init_320 : decode cX8_init 320 = .ok (.bipush 97, 2) := by decide +kernel
theorem dX8_init_322 : decode cX8_init 322 = .ok (.bipush 107, 2) := by decide +kernel
theorem dX8_init_324 : decode cX8_init 324 = .ok (.invokevirtual 100, 3) := by decide +kernel
theorem dX8_init_327 : decode cX8_init 327 = .ok (.aload_n 0, 1) := by decide +kernel
theorem dX8_init_328 : decode cX8_init 328 = .ok (.bipush 40, 2) := by decide +kernel
theorem dX8_init_330 : decode cX8_init 330 = .ok (.bipush 101, 2) := by decide +kernel
theorem dX8_init_332 : decode cX8_init 332 = .ok (.bipush 115, 2) := by decide +kernel
theorem dX8_init_334 : decode cX8_init 334 = .ok (.bipush 32, 2) := by decide +kernel
theorem dX8_init_336 : decode cX8_init 336 = .ok (.bipush 53, 2) := by decide +kernel
theorem dX8_init_338 : decode cX8_init 338 = .ok (.bipush 32, 2) := by decide +kernel
theorem dX8_init_340 : decode cX8_init 340 = .ok (.bipush 59, 2) := by decide +kernel
theorem dX8_init_342 : decode cX8_init 342 = .ok (.bipush 32, 2) := by decide +kernel
theorem dX8_init_344 : decode cX8_init 344 = .ok (.bipush 32, 2) := by decide +kernel
theorem dX8_init_346 : decode cX8_init 346 = .ok (.invokevirtual 100, 3) := by decide +kernel
theorem dX8_init_349 : decode cX8_init 349 = .ok (.aload_n 0, 1) := by decide +kernel
theorem dX8_init_350 : decode cX8_init 350 = .ok (.getfield 17, 3) := by decide +kernel
theorem dX8_init_353 : decode cX8_init 353 = .ok (.iconst 0, 1) := by decide +kernel
theorem dX8_init_354 : decode cX8_init 354 = .ok (.bipush 48, 2) := by decide +kernel
theorem dX8_init_356 : decode cX8_init 356 = .ok (.iastore, 1) := by decide +kernel
theorem dX8_init_357 : decode cX8_init 357 = .ok (.aload_n 0, 1) := by decide +kernel
theorem dX8_init_358 : decode cX8_init 358 = .ok (.iconst 1, 1) := by decide +kernel
theorem dX8_init_359 : decode cX8_init 359 = .ok (.putfield 104, 3) := by decide +kernel
theorem dX8_init_362 : decode cX8_init 362 = .ok (.return_, 1) := by decide +kernel
theorem dX8_spell_0 : decode cX8_spell 0 = .ok (.aload_n 0, 1) := by decide +kernel
theorem dX8_spell_1 : decode cX8_spell 1 = .ok (.getfield 13, 3) := by decide +kernel
theorem dX8_spell_4 : decode cX8_spell 4 = .ok (.iload_n 1, 1) := by decide +kernel
theorem dX8_spell_5 : decode cX8_spell 5 = .ok (.iload_n 2, 1) := by decide +kernel
theorem dX8_spell_6 : decode cX8_spell 6 = .ok (.iastore, 1) := by decide +kernel
theorem dX8_spell_7 : decode cX8_spell 7 = .ok (.aload_n 0, 1) := by decide +kernel
theorem dX8_spell_8 : decode cX8_spell 8 = .ok (.getfield 13, 3) := by decide +kernel
theorem dX8_spell_11 : decode cX8_spell 11 = .ok (.iload_n 1, 1) := by decide +kernel
theorem dX8_spell_12 : decode cX8_spell 12 = .ok (.iconst 1, 1) := by decide +kernel
theorem dX8_spell_13 : decode cX8_spell 13 = .ok (.iadd, 1) := by decide +kernel
theorem dX8_spell_14 : decode cX8_spell 14 = .ok (.iload_n 3, 1) := by decide +kernel
theorem dX8_spell_15 : decode cX8_spell 15 = .ok (.iastore, 1) := by decide +kernel
theorem dX8_spell_16 : decode cX8_spell 16 = .ok (.aload_n 0, 1) := by decide +kernel
theorem dX8_spell_17 : decode cX8_spell 17 = .ok (.getfield 13, 3) := by decide +kernel
theorem dX8_spell_20 : decode cX8_spell 20 = .ok (.iload_n 1, 1) := by decide +kernel
theorem dX8_spell_21 : decode cX8_spell 21 = .ok (.iconst 2, 1) := by decide +kernel
theorem dX8_spell_22 : decode cX8_spell 22 = .ok (.iadd, 1) := by decide +kernel
theorem dX8_spell_23 : decode cX8_spell 23 = .ok (.iload 4, 2) := by decide +kernel
theorem dX8_spell_25 : decode cX8_spell 25 = .ok (.iastore, 1) := by decide +kernel
theorem dX8_spell_26 : decode cX8_spell 26 = .ok (.aload_n 0, 1) := by decide +kernel
theorem dX8_spell_27 : decode cX8_spell 27 = .ok (.getfield 13, 3) := by decide +kernel
theorem dX8_spell_30 : decode cX8_spell 30 = .ok (.iload_n 1, 1) := by decide +kernel
theorem dX8_spell_31 : decode cX8_spell 31 = .ok (.iconst 3, 1) := by decide +kernel
theorem dX8_spell_32 : decode cX8_spell 32 = .ok (.iadd, 1) := by decide +kernel
theorem dX8_spell_33 : decode cX8_spell 33 = .ok (.iload 5, 2) := by decide +kernel
theorem dX8_spell_35 : decode cX8_spell 35 = .ok (.iastore, 1) := by decide +kernel
theorem dX8_spell_36 : decode cX8_spell 36 = .ok (.aload_n 0, 1) := by decide +kernel
theorem dX8_spell_37 : decode cX8_spell 37 = .ok (.getfield 13, 3) := by decide +kernel
theorem dX8_spell_40 : decode cX8_spell 40 = .ok (.iload_n 1, 1) := by decide +kernel
theorem dX8_spell_41 : decode cX8_spell 41 = .ok (.iconst 4, 1) := by decide +kernel
theorem dX8_spell_42 : decode cX8_spell 42 = .ok (.iadd, 1) := by decide +kernel
theorem dX8_spell_43 : decode cX8_spell 43 = .ok (.iload 6, 2) := by decide +kernel
theorem dX8_spell_45 : decode cX8_spell 45 = .ok (.iastore, 1) := by decide +kernel
theorem dX8_spell_46 : decode cX8_spell 46 = .ok (.aload_n 0, 1) := by decide +kernel
theorem dX8_spell_47 : decode cX8_spell 47 = .ok (.getfield 13, 3) := by decide +kernel
theorem dX8_spell_50 : decode cX8_spell 50 = .ok (.iload_n 1, 1) := by decide +kernel
theorem dX8_spell_51 : decode cX8_spell 51 = .ok (.iconst 5, 1) := by decide +kernel
theorem dX8_spell_52 : decode cX8_spell 52 = .ok (.iadd, 1) := by decide +kernel
theorem dX8_spell_53 : decode cX8_spell 53 = .ok (.iload 7, 2) := by decide +kernel
theorem dX8_spell_55 : decode cX8_spell 55 = .ok (.iastore, 1) := by decide +kernel
theorem dX8_spell_56 : decode cX8_spell 56 = .ok (.aload_n 0, 1) := by decide +kernel
theorem dX8_spell_57 : decode cX8_spell 57 = .ok (.getfield 13, 3) := by decide +kernel
theorem dX8_spell_60 : decode cX8_spell 60 = .ok (.iload_n 1, 1) := by decide +kernel
theorem dX8_spell_61 : decode cX8_spell 61 = .ok (.bipush 6, 2) := by decide +kernel
theorem dX8_spell_63 : decode cX8_spell 63 = .ok (.iadd, 1) := by decide +kernel
theorem dX8_spell_64 : decode cX8_spell 64 = .ok (.iload 8, 2) := by decide +kernel
theorem dX8_spell_66 : decode cX8_spell 66 = .ok (.iastore, 1) := by decide +kernel
theorem dX8_spell_67 : decode cX8_spell 67 = .ok (.aload_n 0, 1) := by decide +kernel
theorem dX8_spell_68 : decode cX8_spell 68 = .ok (.getfield 13, 3) := by decide +kernel
theorem dX8_spell_71 : decode cX8_spell 71 = .ok (.iload_n 1, 1) := by decide +kernel
theorem dX8_spell_72 : decode cX8_spell 72 = .ok (.bipush 7, 2) := by decide +kernel
theorem dX8_spell_74 : decode cX8_spell 74 = .ok (.iadd, 1) := by decide +kernel
theorem dX8_spell_75 : decode cX8_spell 75 = .ok (.iload 9, 2) := by decide +kernel
theorem dX8_spell_77 : decode cX8_spell 77 = .ok (.iastore, 1) := by decide +kernel
theorem dX8_spell_78 : decode cX8_spell 78 = .ok (.return_, 1) := by decide +kernel
theorem dX8_isDrip_0 : decode cX8_isDrip 0 = .ok (.iload_n 1, 1) := by decide +kernel
theorem dX8_isDrip_1 : decode cX8_isDrip 1 = .ok (.i2l, 1) := by decide +kernel
theorem dX8_isDrip_2 : decode cX8_isDrip 2 = .ok (.lconst 0, 1) := by decide +kernel
theorem dX8_isDrip_3 : decode cX8_isDrip 3 = .ok (.aload_n 0, 1) := by decide +kernel
theorem dX8_isDrip_4 : decode cX8_isDrip 4 = .ok (.getfield 107, 3) := by decide +kernel
theorem dX8_isDrip_7 : decode cX8_isDrip 7 = .ok (.iconst 1, 1) := by decide +kernel
theorem dX8_isDrip_8 : decode cX8_isDrip 8 = .ok (.isub, 1) := by decide +kernel
theorem dX8_isDrip_9 : decode cX8_isDrip 9 = .ok (.i2l, 1) := by decide +kernel
theorem dX8_isDrip_10 : decode cX8_isDrip 10 = .ok (.invokestatic 110, 3) := by decide +kernel
theorem dX8_isDrip_13 : decode cX8_isDrip 13 = .ok (.ireturn, 1) := by decide +kernel
theorem dX8_isVessel_0 : decode cX8_isVessel 0 = .ok (.iload_n 1, 1) := by decide +kernel
theorem dX8_isVessel_1 : decode cX8_isVessel 1 = .ok (.i2l, 1) := by decide +kernel
theorem dX8_isVessel_2 : decode cX8_isVessel 2 = .ok (.lconst 0, 1) := by decide +kernel
theorem dX8_isVessel_3 : decode cX8_isVessel 3 = .ok (.aload_n 0, 1) := by decide +kernel
theorem dX8_isVessel_4 : decode cX8_isVessel 4 = .ok (.getfield 114, 3) := by decide +kernel
theorem dX8_isVessel_7 : decode cX8_isVessel 7 = .ok (.iconst 1, 1) := by decide +kernel
theorem dX8_isVessel_8 : decode cX8_isVessel 8 = .ok (.isub, 1) := by decide +kernel
theorem dX8_isVessel_9 : decode cX8_isVessel 9 = .ok (.i2l, 1) := by decide +kernel
theorem dX8_isVessel_10 : decode cX8_isVessel 10 = .ok (.invokestatic 110, 3) := by decide +kernel
theorem dX8_isVessel_13 : decode cX8_isVessel 13 = .ok (.ireturn, 1) := by decide +kernel
theorem dX8_isHour_0 : decode cX8_isHour 0 = .ok (.iload_n 0, 1) := by decide +kernel
theorem dX8_isHour_1 : decode cX8_isHour 1 = .ok (.i2l, 1) := by decide +kernel
theorem dX8_isHour_2 : decode cX8_isHour 2 = .ok (.lconst 0, 1) := by decide +kernel
theorem dX8_isHour_3 : decode cX8_isHour 3 = .ok (.ldc2_w 117, 3) := by decide +kernel
theorem dX8_isHour_6 : decode cX8_isHour 6 = .ok (.invokestatic 110, 3) := by decide +kernel
theorem dX8_isHour_9 : decode cX8_isHour 9 = .ok (.ireturn, 1) := by decide +kernel
theorem dX8_isPlace_0 : decode cX8_isPlace 0 = .ok (.iload_n 0, 1) := by decide +kernel
theorem dX8_isPlace_1 : decode cX8_isPlace 1 = .ok (.i2l, 1) := by decide +kernel
theorem dX8_isPlace_2 : decode cX8_isPlace 2 = .ok (.lconst 0, 1) := by decide +kernel
theorem dX8_isPlace_3 : decode cX8_isPlace 3 = .ok (.ldc2_w 119, 3) := by decide +kernel
theorem dX8_isPlace_6 : decode cX8_isPlace 6 = .ok (.invokestatic 110, 3) := by decide +kernel
theorem dX8_isPlace_9 : decode cX8_isPlace 9 = .ok (.ireturn, 1) := by decide +kernel
theorem dX8_set_0 : decode cX8_set 0 = .ok (.iload_n 1, 1) := by decide +kernel
theorem dX8_set_1 : decode cX8_set 1 = .ok (.i2l, 1) := by decide +kernel
theorem dX8_set_2 : decode cX8_set 2 = .ok (.lconst 0, 1) := by decide +kernel
theorem dX8_set_3 : decode cX8_set 3 = .ok (.ldc2_w 121, 3) := by decide +kernel
theorem dX8_set_6 : decode cX8_set 6 = .ok (.invokestatic 110, 3) := by decide +kernel
theorem dX8_set_9 : decode cX8_set 9 = .ok (.ifCond .eq 27, 3) := by decide +kernel
theorem dX8_set_12 : decode cX8_set 12 = .ok (.iload_n 1, 1) := by decide +kernel
theorem dX8_set_13 : decode cX8_set 13 = .ok (.ifCond .ne 10, 3) := by decide +kernel
theorem dX8_set_16 : decode cX8_set 16 = .ok (.iload_n 2, 1) := by decide +kernel
theorem dX8_set_17 : decode cX8_set 17 = .ok (.invokestatic 123, 3) := by decide +kernel
theorem dX8_set_20 : decode cX8_set 20 = .ok (.ifCond .eq 16, 3) := by decide +kernel
theorem dX8_set_23 : decode cX8_set 23 = .ok (.iload_n 1, 1) := by decide +kernel
theorem dX8_set_24 : decode cX8_set 24 = .ok (.iconst 3, 1) := by decide +kernel
theorem dX8_set_25 : decode cX8_set 25 = .ok (.if_icmp .le 14, 3) := by decide +kernel
theorem dX8_set_28 : decode cX8_set 28 = .ok (.aload_n 0, 1) := by decide +kernel
theorem dX8_set_29 : decode cX8_set 29 = .ok (.iload_n 2, 1) := by decide +kernel
theorem dX8_set_30 : decode cX8_set 30 = .ok (.invokevirtual 127, 3) := by decide +kernel
theorem dX8_set_33 : decode cX8_set 33 = .ok (.ifCond .ne 6, 3) := by decide +kernel
theorem dX8_set_36 : decode cX8_set 36 = .ok (.bipush (-2), 2) := by decide +kernel
theorem dX8_set_38 : decode cX8_set 38 = .ok (.ireturn, 1) := by decide +kernel
theorem dX8_set_39 : decode cX8_set 39 = .ok (.iload_n 3, 1) := by decide +kernel
theorem dX8_set_40 : decode cX8_set 40 = .ok (.i2l, 1) := by decide +kernel
theorem dX8_set_41 : decode cX8_set 41 = .ok (.iload_n 1, 1) := by decide +kernel
theorem dX8_set_42 : decode cX8_set 42 = .ok (.iconst 2, 1) := by decide +kernel
theorem dX8_set_43 : decode cX8_set 43 = .ok (.if_icmp .ne 7, 3) := by decide +kernel
theorem dX8_set_46 : decode cX8_set 46 = .ok (.lconst 1, 1) := by decide +kernel
theorem dX8_set_47 : decode cX8_set 47 = .ok (.goto 4, 3) := by decide +kernel
theorem dX8_set_50 : decode cX8_set 50 = .ok (.lconst 0, 1) := by decide +kernel
theorem dX8_set_51 : decode cX8_set 51 = .ok (.iload_n 1, 1) := by decide +kernel
theorem dX8_set_52 : decode cX8_set 52 = .ok (.iconst 1, 1) := by decide +kernel
theorem dX8_set_53 : decode cX8_set 53 = .ok (.if_icmp .ne 9, 3) := by decide +kernel
theorem dX8_set_56 : decode cX8_set 56 = .ok (.ldc2_w 130, 3) := by decide +kernel
theorem dX8_set_59 : decode cX8_set 59 = .ok (.goto 38, 3) := by decide +kernel
theorem dX8_set_62 : decode cX8_set 62 = .ok (.iload_n 1, 1) := by decide +kernel
theorem dX8_set_63 : decode cX8_set 63 = .ok (.iconst 2, 1) := by decide +kernel
theorem dX8_set_64 : decode cX8_set 64 = .ok (.if_icmp .ne 9, 3) := by decide +kernel
theorem dX8_set_67 : decode cX8_set 67 = .ok (.ldc2_w 132, 3) := by decide +kernel
theorem dX8_set_70 : decode cX8_set 70 = .ok (.goto 27, 3) := by decide +kernel
theorem dX8_set_73 : decode cX8_set 73 = .ok (.iload_n 1, 1) := by decide +kernel
theorem dX8_set_74 : decode cX8_set 74 = .ok (.iconst 3, 1) := by decide +kernel
theorem dX8_set_75 : decode cX8_set 75 = .ok (.if_icmp .ne 7, 3) := by decide +kernel
theorem dX8_set_78 : decode cX8_set 78 = .ok (.lconst 1, 1) := by decide +kernel
theorem dX8_set_79 : decode cX8_set 79 = .ok (.goto 18, 3) := by decide +kernel
theorem dX8_set_82 : decode cX8_set 82 = .ok (.iload_n 1, 1) := by decide +kernel
theorem dX8_set_83 : decode cX8_set 83 = .ok (.bipush 6, 2) := by decide +kernel
theorem dX8_set_85 : decode cX8_set 85 = .ok (.if_icmp .ne 9, 3) := by decide +kernel
theorem dX8_set_88 : decode cX8_set 88 = .ok (.ldc2_w 119, 3) := by decide +kernel
theorem dX8_set_91 : decode cX8_set 91 = .ok (.goto 6, 3) := by decide +kernel
theorem dX8_set_94 : decode cX8_set 94 = .ok (.ldc2_w 134, 3) := by decide +kernel
theorem dX8_set_97 : decode cX8_set 97 = .ok (.invokestatic 110, 3) := by decide +kernel
theorem dX8_set_100 : decode cX8_set 100 = .ok (.ifCond .ne 6, 3) := by decide +kernel
theorem dX8_set_103 : decode cX8_set 103 = .ok (.bipush (-2), 2) := by decide +kernel
theorem dX8_set_105 : decode cX8_set 105 = .ok (.ireturn, 1) := by decide +kernel
theorem dX8_set_106 : decode cX8_set 106 = .ok (.iload_n 1, 1) := by decide +kernel
theorem dX8_set_107 : decode cX8_set 107 = .ok (.ifCond .ne 12, 3) := by decide +kernel
theorem dX8_set_110 : decode cX8_set 110 = .ok (.aload_n 0, 1) := by decide +kernel
theorem dX8_set_111 : decode cX8_set 111 = .ok (.getfield 23, 3) := by decide +kernel
theorem dX8_set_114 : decode cX8_set 114 = .ok (.iload_n 2, 1) := by decide +kernel
theorem dX8_set_115 : decode cX8_set 115 = .ok (.iaload, 1) := by decide +kernel
theorem dX8_set_116 : decode cX8_set 116 = .ok (.goto 73, 3) := by decide +kernel
theorem dX8_set_119 : decode cX8_set 119 = .ok (.iload_n 1, 1) := by decide +kernel
theorem dX8_set_120 : decode cX8_set 120 = .ok (.iconst 1, 1) := by decide +kernel
theorem dX8_set_121 : decode cX8_set 121 = .ok (.if_icmp .ne 10, 3) := by decide +kernel
theorem dX8_set_124 : decode cX8_set 124 = .ok (.aload_n 0, 1) := by decide +kernel
theorem dX8_set_125 : decode cX8_set 125 = .ok (.getfield 136, 3) := by decide +kernel
theorem dX8_set_128 : decode cX8_set 128 = .ok (.goto 61, 3) := by decide +kernel
theorem dX8_set_131 : decode cX8_set 131 = .ok (.iload_n 1, 1) := by decide +kernel
theorem dX8_set_132 : decode cX8_set 132 = .ok (.iconst 2, 1) := by decide +kernel
theorem dX8_set_133 : decode cX8_set 133 = .ok (.if_icmp .ne 10, 3) := by decide +kernel
theorem dX8_set_136 : decode cX8_set 136 = .ok (.aload_n 0, 1) := by decide +kernel
theorem dX8_set_137 : decode cX8_set 137 = .ok (.getfield 26, 3) := by decide +kernel
theorem dX8_set_140 : decode cX8_set 140 = .ok (.goto 49, 3) := by decide +kernel
theorem dX8_set_143 : decode cX8_set 143 = .ok (.iload_n 1, 1) := by decide +kernel
theorem dX8_set_144 : decode cX8_set 144 = .ok (.iconst 3, 1) := by decide +kernel
theorem dX8_set_145 : decode cX8_set 145 = .ok (.if_icmp .ne 10, 3) := by decide +kernel
theorem dX8_set_148 : decode cX8_set 148 = .ok (.aload_n 0, 1) := by decide +kernel
theorem dX8_set_149 : decode cX8_set 149 = .ok (.getfield 139, 3) := by decide +kernel
theorem dX8_set_152 : decode cX8_set 152 = .ok (.goto 37, 3) := by decide +kernel
theorem dX8_set_155 : decode cX8_set 155 = .ok (.iload_n 1, 1) := by decide +kernel
theorem dX8_set_156 : decode cX8_set 156 = .ok (.iconst 4, 1) := by decide +kernel
theorem dX8_set_157 : decode cX8_set 157 = .ok (.if_icmp .ne 12, 3) := by decide +kernel
theorem dX8_set_160 : decode cX8_set 160 = .ok (.aload_n 0, 1) := by decide +kernel
theorem dX8_set_161 : decode cX8_set 161 = .ok (.getfield 32, 3) := by decide +kernel
theorem dX8_set_164 : decode cX8_set 164 = .ok (.iload_n 2, 1) := by decide +kernel
theorem dX8_set_165 : decode cX8_set 165 = .ok (.iaload, 1) := by decide +kernel
theorem dX8_set_166 : decode cX8_set 166 = .ok (.goto 23, 3) := by decide +kernel
theorem dX8_set_169 : decode cX8_set 169 = .ok (.iload_n 1, 1) := by decide +kernel
theorem dX8_set_170 : decode cX8_set 170 = .ok (.iconst 5, 1) := by decide +kernel
theorem dX8_set_171 : decode cX8_set 171 = .ok (.if_icmp .ne 12, 3) := by decide +kernel
theorem dX8_set_174 : decode cX8_set 174 = .ok (.aload_n 0, 1) := by decide +kernel
theorem dX8_set_175 : decode cX8_set 175 = .ok (.getfield 35, 3) := by decide +kernel
theorem dX8_set_178 : decode cX8_set 178 = .ok (.iload_n 2, 1) := by decide +kernel
theorem dX8_set_179 : decode cX8_set 179 = .ok (.iaload, 1) := by decide +kernel
theorem dX8_set_180 : decode cX8_set 180 = .ok (.goto 9, 3) := by decide +kernel
theorem dX8_set_183 : decode cX8_set 183 = .ok (.aload_n 0, 1) := by decide +kernel
theorem dX8_set_184 : decode cX8_set 184 = .ok (.getfield 38, 3) := by decide +kernel
theorem dX8_set_187 : decode cX8_set 187 = .ok (.iload_n 2, 1) := by decide +kernel
theorem dX8_set_188 : decode cX8_set 188 = .ok (.iaload, 1) := by decide +kernel
theorem dX8_set_189 : decode cX8_set 189 = .ok (.istore 4, 2) := by decide +kernel
theorem dX8_set_191 : decode cX8_set 191 = .ok (.iload_n 1, 1) := by decide +kernel
theorem dX8_set_192 : decode cX8_set 192 = .ok (.ifCond .ne 13, 3) := by decide +kernel
theorem dX8_set_195 : decode cX8_set 195 = .ok (.aload_n 0, 1) := by decide +kernel
theorem dX8_set_196 : decode cX8_set 196 = .ok (.getfield 23, 3) := by decide +kernel
theorem dX8_set_199 : decode cX8_set 199 = .ok (.iload_n 2, 1) := by decide +kernel
theorem dX8_set_200 : decode cX8_set 200 = .ok (.iload_n 3, 1) := by decide +kernel
theorem dX8_set_201 : decode cX8_set 201 = .ok (.iastore, 1) := by decide +kernel
theorem dX8_set_202 : decode cX8_set 202 = .ok (.goto 79, 3) := by decide +kernel
theorem dX8_set_205 : decode cX8_set 205 = .ok (.iload_n 1, 1) := by decide +kernel
theorem dX8_set_206 : decode cX8_set 206 = .ok (.iconst 1, 1) := by decide +kernel
theorem dX8_set_207 : decode cX8_set 207 = .ok (.if_icmp .ne 11, 3) := by decide +kernel
theorem dX8_set_210 : decode cX8_set 210 = .ok (.aload_n 0, 1) := by decide +kernel
theorem dX8_set_211 : decode cX8_set 211 = .ok (.iload_n 3, 1) := by decide +kernel
theorem dX8_set_212 : decode cX8_set 212 = .ok (.putfield 136, 3) := by decide +kernel
theorem dX8_set_215 : decode cX8_set 215 = .ok (.goto 66, 3) := by decide +kernel
theorem dX8_set_218 : decode cX8_set 218 = .ok (.iload_n 1, 1) := by decide +kernel
theorem dX8_set_219 : decode cX8_set 219 = .ok (.iconst 2, 1) := by decide +kernel
theorem dX8_set_220 : decode cX8_set 220 = .ok (.if_icmp .ne 11, 3) := by decide +kernel
theorem dX8_set_223 : decode cX8_set 223 = .ok (.aload_n 0, 1) := by decide +kernel
theorem dX8_set_224 : decode cX8_set 224 = .ok (.iload_n 3, 1) := by decide +kernel
theorem dX8_set_225 : decode cX8_set 225 = .ok (.putfield 26, 3) := by decide +kernel
theorem dX8_set_228 : decode cX8_set 228 = .ok (.goto 53, 3) := by decide +kernel
theorem dX8_set_231 : decode cX8_set 231 = .ok (.iload_n 1, 1) := by decide +kernel
theorem dX8_set_232 : decode cX8_set 232 = .ok (.iconst 3, 1) := by decide +kernel
theorem dX8_set_233 : decode cX8_set 233 = .ok (.if_icmp .ne 11, 3) := by decide +kernel
theorem dX8_set_236 : decode cX8_set 236 = .ok (.aload_n 0, 1) := by decide +kernel
theorem dX8_set_237 : decode cX8_set 237 = .ok (.iload_n 3, 1) := by decide +kernel
theorem dX8_set_238 : decode cX8_set 238 = .ok (.putfield 139, 3) := by decide +kernel
theorem dX8_set_241 : decode cX8_set 241 = .ok (.goto 40, 3) := by decide +kernel
theorem dX8_set_244 : decode cX8_set 244 = .ok (.iload_n 1, 1) := by decide +kernel
theorem dX8_set_245 : decode cX8_set 245 = .ok (.iconst 4, 1) := by decide +kernel
theorem dX8_set_246 : decode cX8_set 246 = .ok (.if_icmp .ne 13, 3) := by decide +kernel
theorem dX8_set_249 : decode cX8_set 249 = .ok (.aload_n 0, 1) := by decide +kernel
theorem dX8_set_250 : decode cX8_set 250 = .ok (.getfield 32, 3) := by decide +kernel
theorem dX8_set_253 : decode cX8_set 253 = .ok (.iload_n 2, 1) := by decide +kernel
theorem dX8_set_254 : decode cX8_set 254 = .ok (.iload_n 3, 1) := by decide +kernel
theorem dX8_set_255 : decode cX8_set 255 = .ok (.iastore, 1) := by decide +kernel
theorem dX8_set_256 : decode cX8_set 256 = .ok (.goto 25, 3) := by decide +kernel
theorem dX8_set_259 : decode cX8_set 259 = .ok (.iload_n 1, 1) := by decide +kernel
theorem dX8_set_260 : decode cX8_set 260 = .ok (.iconst 5, 1) := by decide +kernel
theorem dX8_set_261 : decode cX8_set 261 = .ok (.if_icmp .ne 13, 3) := by decide +kernel
theorem dX8_set_264 : decode cX8_set 264 = .ok (.aload_n 0, 1) := by decide +kernel
theorem dX8_set_265 : decode cX8_set 265 = .ok (.getfield 35, 3) := by decide +kernel
theorem dX8_set_268 : decode cX8_set 268 = .ok (.iload_n 2, 1) := by decide +kernel
theorem dX8_set_269 : decode cX8_set 269 = .ok (.iload_n 3, 1) := by decide +kernel
theorem dX8_set_270 : decode cX8_set 270 = .ok (.iastore, 1) := by decide +kernel
theorem dX8_set_271 : decode cX8_set 271 = .ok (.goto 10, 3) := by decide +kernel
theorem dX8_set_274 : decode cX8_set 274 = .ok (.aload_n 0, 1) := by decide +kernel
theorem dX8_set_275 : decode cX8_set 275 = .ok (.getfield 38, 3) := by decide +kernel
theorem dX8_set_278 : decode cX8_set 278 = .ok (.iload_n 2, 1) := by decide +kernel
theorem dX8_set_279 : decode cX8_set 279 = .ok (.iload_n 3, 1) := by decide +kernel
theorem dX8_set_280 : decode cX8_set 280 = .ok (.iastore, 1) := by decide +kernel
theorem dX8_set_281 : decode cX8_set 281 = .ok (.iload 4, 2) := by decide +kernel
theorem dX8_set_283 : decode cX8_set 283 = .ok (.ireturn, 1) := by decide +kernel
theorem dX8_drip_0 : decode cX8_drip 0 = .ok (.iload_n 1, 1) := by decide +kernel
theorem dX8_drip_1 : decode cX8_drip 1 = .ok (.i2l, 1) := by decide +kernel
theorem dX8_drip_2 : decode cX8_drip 2 = .ok (.lconst 0, 1) := by decide +kernel
theorem dX8_drip_3 : decode cX8_drip 3 = .ok (.ldc2_w 132, 3) := by decide +kernel
theorem dX8_drip_6 : decode cX8_drip 6 = .ok (.invokestatic 110, 3) := by decide +kernel
theorem dX8_drip_9 : decode cX8_drip 9 = .ok (.ifCond .eq 22, 3) := by decide +kernel
theorem dX8_drip_12 : decode cX8_drip 12 = .ok (.iload_n 2, 1) := by decide +kernel
theorem dX8_drip_13 : decode cX8_drip 13 = .ok (.i2l, 1) := by decide +kernel
theorem dX8_drip_14 : decode cX8_drip 14 = .ok (.lconst 0, 1) := by decide +kernel
theorem dX8_drip_15 : decode cX8_drip 15 = .ok (.ldc2_w 142, 3) := by decide +kernel
theorem dX8_drip_18 : decode cX8_drip 18 = .ok (.invokestatic 110, 3) := by decide +kernel
theorem dX8_drip_21 : decode cX8_drip 21 = .ok (.ifCond .eq 10, 3) := by decide +kernel
theorem dX8_drip_24 : decode cX8_drip 24 = .ok (.iload_n 3, 1) := by decide +kernel
theorem dX8_drip_25 : decode cX8_drip 25 = .ok (.invokestatic 144, 3) := by decide +kernel
theorem dX8_drip_28 : decode cX8_drip 28 = .ok (.ifCond .ne 6, 3) := by decide +kernel
theorem dX8_drip_31 : decode cX8_drip 31 = .ok (.bipush (-2), 2) := by decide +kernel
theorem dX8_drip_33 : decode cX8_drip 33 = .ok (.ireturn, 1) := by decide +kernel
theorem dX8_drip_34 : decode cX8_drip 34 = .ok (.aload_n 0, 1) := by decide +kernel
theorem dX8_drip_35 : decode cX8_drip 35 = .ok (.getfield 107, 3) := by decide +kernel
theorem dX8_drip_38 : decode cX8_drip 38 = .ok (.bipush 6, 2) := by decide +kernel
theorem dX8_drip_40 : decode cX8_drip 40 = .ok (.if_icmp .ne 6, 3) := by decide +kernel
theorem dX8_drip_43 : decode cX8_drip 43 = .ok (.bipush (-4), 2) := by decide +kernel
theorem dX8_drip_45 : decode cX8_drip 45 = .ok (.ireturn, 1) := by decide +kernel
theorem dX8_drip_46 : decode cX8_drip 46 = .ok (.aload_n 0, 1) := by decide +kernel
theorem dX8_drip_47 : decode cX8_drip 47 = .ok (.getfield 29, 3) := by decide +kernel
theorem dX8_drip_50 : decode cX8_drip 50 = .ok (.aload_n 0, 1) := by decide +kernel
theorem dX8_drip_51 : decode cX8_drip 51 = .ok (.getfield 107, 3) := by decide +kernel
theorem dX8_drip_54 : decode cX8_drip 54 = .ok (.iload_n 1, 1) := by decide +kernel
theorem dX8_drip_55 : decode cX8_drip 55 = .ok (.iastore, 1) := by decide +kernel
theorem dX8_drip_56 : decode cX8_drip 56 = .ok (.aload_n 0, 1) := by decide +kernel
theorem dX8_drip_57 : decode cX8_drip 57 = .ok (.getfield 32, 3) := by decide +kernel
theorem dX8_drip_60 : decode cX8_drip 60 = .ok (.aload_n 0, 1) := by decide +kernel
theorem dX8_drip_61 : decode cX8_drip 61 = .ok (.getfield 107, 3) := by decide +kernel
theorem dX8_drip_64 : decode cX8_drip 64 = .ok (.iload_n 2, 1) := by decide +kernel
theorem dX8_drip_65 : decode cX8_drip 65 = .ok (.bipush 10, 2) := by decide +kernel
theorem dX8_drip_67 : decode cX8_drip 67 = .ok (.idiv, 1) := by decide +kernel
theorem dX8_drip_68 : decode cX8_drip 68 = .ok (.iastore, 1) := by decide +kernel
theorem dX8_drip_69 : decode cX8_drip 69 = .ok (.aload_n 0, 1) := by decide +kernel
theorem dX8_drip_70 : decode cX8_drip 70 = .ok (.getfield 35, 3) := by decide +kernel
theorem dX8_drip_73 : decode cX8_drip 73 = .ok (.aload_n 0, 1) := by decide +kernel
theorem dX8_drip_74 : decode cX8_drip 74 = .ok (.getfield 107, 3) := by decide +kernel
theorem dX8_drip_77 : decode cX8_drip 77 = .ok (.iload_n 2, 1) := by decide +kernel
theorem dX8_drip_78 : decode cX8_drip 78 = .ok (.bipush 10, 2) := by decide +kernel
theorem dX8_drip_80 : decode cX8_drip 80 = .ok (.irem, 1) := by decide +kernel
theorem dX8_drip_81 : decode cX8_drip 81 = .ok (.iastore, 1) := by decide +kernel
theorem dX8_drip_82 : decode cX8_drip 82 = .ok (.aload_n 0, 1) := by decide +kernel
theorem dX8_drip_83 : decode cX8_drip 83 = .ok (.getfield 38, 3) := by decide +kernel
theorem dX8_drip_86 : decode cX8_drip 86 = .ok (.aload_n 0, 1) := by decide +kernel
theorem dX8_drip_87 : decode cX8_drip 87 = .ok (.getfield 107, 3) := by decide +kernel
theorem dX8_drip_90 : decode cX8_drip 90 = .ok (.iload_n 3, 1) := by decide +kernel
theorem dX8_drip_91 : decode cX8_drip 91 = .ok (.iastore, 1) := by decide +kernel
theorem dX8_drip_92 : decode cX8_drip 92 = .ok (.aload_n 0, 1) := by decide +kernel
theorem dX8_drip_93 : decode cX8_drip 93 = .ok (.dup, 1) := by decide +kernel
theorem dX8_drip_94 : decode cX8_drip 94 = .ok (.getfield 107, 3) := by decide +kernel
theorem dX8_drip_97 : decode cX8_drip 97 = .ok (.iconst 1, 1) := by decide +kernel
theorem dX8_drip_98 : decode cX8_drip 98 = .ok (.iadd, 1) := by decide +kernel
theorem dX8_drip_99 : decode cX8_drip 99 = .ok (.putfield 107, 3) := by decide +kernel
theorem dX8_drip_102 : decode cX8_drip 102 = .ok (.aload_n 0, 1) := by decide +kernel
theorem dX8_drip_103 : decode cX8_drip 103 = .ok (.getfield 107, 3) := by decide +kernel
theorem dX8_drip_106 : decode cX8_drip 106 = .ok (.iconst 1, 1) := by decide +kernel
theorem dX8_drip_107 : decode cX8_drip 107 = .ok (.isub, 1) := by decide +kernel
theorem dX8_drip_108 : decode cX8_drip 108 = .ok (.ireturn, 1) := by decide +kernel
theorem dX8_vessel_0 : decode cX8_vessel 0 = .ok (.iload_n 1, 1) := by decide +kernel
theorem dX8_vessel_1 : decode cX8_vessel 1 = .ok (.i2l, 1) := by decide +kernel
theorem dX8_vessel_2 : decode cX8_vessel 2 = .ok (.lconst 1, 1) := by decide +kernel
theorem dX8_vessel_3 : decode cX8_vessel 3 = .ok (.ldc2_w 142, 3) := by decide +kernel
theorem dX8_vessel_6 : decode cX8_vessel 6 = .ok (.invokestatic 110, 3) := by decide +kernel
theorem dX8_vessel_9 : decode cX8_vessel 9 = .ok (.ifCond .ne 6, 3) := by decide +kernel
theorem dX8_vessel_12 : decode cX8_vessel 12 = .ok (.bipush (-2), 2) := by decide +kernel
theorem dX8_vessel_14 : decode cX8_vessel 14 = .ok (.ireturn, 1) := by decide +kernel
theorem dX8_vessel_15 : decode cX8_vessel 15 = .ok (.aload_n 0, 1) := by decide +kernel
theorem dX8_vessel_16 : decode cX8_vessel 16 = .ok (.getfield 114, 3) := by decide +kernel
theorem dX8_vessel_19 : decode cX8_vessel 19 = .ok (.iconst 5, 1) := by decide +kernel
theorem dX8_vessel_20 : decode cX8_vessel 20 = .ok (.if_icmp .ne 6, 3) := by decide +kernel
theorem dX8_vessel_23 : decode cX8_vessel 23 = .ok (.bipush (-4), 2) := by decide +kernel
theorem dX8_vessel_25 : decode cX8_vessel 25 = .ok (.ireturn, 1) := by decide +kernel
theorem dX8_vessel_26 : decode cX8_vessel 26 = .ok (.aload_n 0, 1) := by decide +kernel
theorem dX8_vessel_27 : decode cX8_vessel 27 = .ok (.getfield 41, 3) := by decide +kernel
theorem dX8_vessel_30 : decode cX8_vessel 30 = .ok (.aload_n 0, 1) := by decide +kernel
theorem dX8_vessel_31 : decode cX8_vessel 31 = .ok (.getfield 114, 3) := by decide +kernel
theorem dX8_vessel_34 : decode cX8_vessel 34 = .ok (.iload_n 1, 1) := by decide +kernel
theorem dX8_vessel_35 : decode cX8_vessel 35 = .ok (.iastore, 1) := by decide +kernel
theorem dX8_vessel_36 : decode cX8_vessel 36 = .ok (.aload_n 0, 1) := by decide +kernel
theorem dX8_vessel_37 : decode cX8_vessel 37 = .ok (.getfield 44, 3) := by decide +kernel
theorem dX8_vessel_40 : decode cX8_vessel 40 = .ok (.aload_n 0, 1) := by decide +kernel
theorem dX8_vessel_41 : decode cX8_vessel 41 = .ok (.getfield 114, 3) := by decide +kernel
theorem dX8_vessel_44 : decode cX8_vessel 44 = .ok (.iconst (-1), 1) := by decide +kernel
theorem dX8_vessel_45 : decode cX8_vessel 45 = .ok (.iastore, 1) := by decide +kernel
theorem dX8_vessel_46 : decode cX8_vessel 46 = .ok (.aload_n 0, 1) := by decide +kernel
theorem dX8_vessel_47 : decode cX8_vessel 47 = .ok (.getfield 47, 3) := by decide +kernel
theorem dX8_vessel_50 : decode cX8_vessel 50 = .ok (.aload_n 0, 1) := by decide +kernel
theorem dX8_vessel_51 : decode cX8_vessel 51 = .ok (.getfield 114, 3) := by decide +kernel
theorem dX8_vessel_54 : decode cX8_vessel 54 = .ok (.iconst 0, 1) := by decide +kernel
theorem dX8_vessel_55 : decode cX8_vessel 55 = .ok (.iastore, 1) := by decide +kernel
theorem dX8_vessel_56 : decode cX8_vessel 56 = .ok (.aload_n 0, 1) := by decide +kernel
theorem dX8_vessel_57 : decode cX8_vessel 57 = .ok (.dup, 1) := by decide +kernel
theorem dX8_vessel_58 : decode cX8_vessel 58 = .ok (.getfield 114, 3) := by decide +kernel
theorem dX8_vessel_61 : decode cX8_vessel 61 = .ok (.iconst 1, 1) := by decide +kernel
theorem dX8_vessel_62 : decode cX8_vessel 62 = .ok (.iadd, 1) := by decide +kernel
theorem dX8_vessel_63 : decode cX8_vessel 63 = .ok (.putfield 114, 3) := by decide +kernel
theorem dX8_vessel_66 : decode cX8_vessel 66 = .ok (.aload_n 0, 1) := by decide +kernel
theorem dX8_vessel_67 : decode cX8_vessel 67 = .ok (.getfield 114, 3) := by decide +kernel
theorem dX8_vessel_70 : decode cX8_vessel 70 = .ok (.iconst 1, 1) := by decide +kernel
theorem dX8_vessel_71 : decode cX8_vessel 71 = .ok (.isub, 1) := by decide +kernel
theorem dX8_vessel_72 : decode cX8_vessel 72 = .ok (.ireturn, 1) := by decide +kernel
theorem dX8_vesselOn_0 : decode cX8_vesselOn 0 = .ok (.iconst 0, 1) := by decide +kernel
theorem dX8_vesselOn_1 : decode cX8_vesselOn 1 = .ok (.istore_n 2, 1) := by decide +kernel
theorem dX8_vesselOn_2 : decode cX8_vesselOn 2 = .ok (.iload_n 2, 1) := by decide +kernel
theorem dX8_vesselOn_3 : decode cX8_vesselOn 3 = .ok (.aload_n 0, 1) := by decide +kernel
theorem dX8_vesselOn_4 : decode cX8_vesselOn 4 = .ok (.getfield 114, 3) := by decide +kernel
theorem dX8_vesselOn_7 : decode cX8_vesselOn 7 = .ok (.if_icmp .ge 21, 3) := by decide +kernel
theorem dX8_vesselOn_10 : decode cX8_vesselOn 10 = .ok (.aload_n 0, 1) := by decide +kernel
theorem dX8_vesselOn_11 : decode cX8_vesselOn 11 = .ok (.getfield 44, 3) := by decide +kernel
theorem dX8_vesselOn_14 : decode cX8_vesselOn 14 = .ok (.iload_n 2, 1) := by decide +kernel
theorem dX8_vesselOn_15 : decode cX8_vesselOn 15 = .ok (.iaload, 1) := by decide +kernel
theorem dX8_vesselOn_16 : decode cX8_vesselOn 16 = .ok (.iload_n 1, 1) := by decide +kernel
theorem dX8_vesselOn_17 : decode cX8_vesselOn 17 = .ok (.if_icmp .ne 5, 3) := by decide +kernel
theorem dX8_vesselOn_20 : decode cX8_vesselOn 20 = .ok (.iload_n 2, 1) := by decide +kernel
theorem dX8_vesselOn_21 : decode cX8_vesselOn 21 = .ok (.ireturn, 1) := by decide +kernel
theorem dX8_vesselOn_22 : decode cX8_vesselOn 22 = .ok (.iinc 2 1, 3) := by decide +kernel
theorem dX8_vesselOn_25 : decode cX8_vesselOn 25 = .ok (.goto (-23), 3) := by decide +kernel
theorem dX8_vesselOn_28 : decode cX8_vesselOn 28 = .ok (.iconst (-1), 1) := by decide +kernel
theorem dX8_vesselOn_29 : decode cX8_vesselOn 29 = .ok (.ireturn, 1) := by decide +kernel
theorem dX8_put_0 : decode cX8_put 0 = .ok (.aload_n 0, 1) := by decide +kernel
theorem dX8_put_1 : decode cX8_put 1 = .ok (.iload_n 1, 1) := by decide +kernel
theorem dX8_put_2 : decode cX8_put 2 = .ok (.invokevirtual 147, 3) := by decide +kernel
theorem dX8_put_5 : decode cX8_put 5 = .ok (.ifCond .eq 15, 3) := by decide +kernel
theorem dX8_put_8 : decode cX8_put 8 = .ok (.iload_n 2, 1) := by decide +kernel
theorem dX8_put_9 : decode cX8_put 9 = .ok (.iconst (-1), 1) := by decide +kernel
theorem dX8_put_10 : decode cX8_put 10 = .ok (.if_icmp .eq 13, 3) := by decide +kernel
theorem dX8_put_13 : decode cX8_put 13 = .ok (.iload_n 2, 1) := by decide +kernel
theorem dX8_put_14 : decode cX8_put 14 = .ok (.invokestatic 144, 3) := by decide +kernel
theorem dX8_put_17 : decode cX8_put 17 = .ok (.ifCond .ne 6, 3) := by decide +kernel
theorem dX8_put_20 : decode cX8_put 20 = .ok (.bipush (-2), 2) := by decide +kernel
theorem dX8_put_22 : decode cX8_put 22 = .ok (.ireturn, 1) := by decide +kernel
theorem dX8_put_23 : decode cX8_put 23 = .ok (.iload_n 2, 1) := by decide +kernel
theorem dX8_put_24 : decode cX8_put 24 = .ok (.iconst (-1), 1) := by decide +kernel
theorem dX8_put_25 : decode cX8_put 25 = .ok (.if_icmp .ne 7, 3) := by decide +kernel
theorem dX8_put_28 : decode cX8_put 28 = .ok (.iconst (-1), 1) := by decide +kernel
theorem dX8_put_29 : decode cX8_put 29 = .ok (.goto 8, 3) := by decide +kernel
theorem dX8_put_32 : decode cX8_put 32 = .ok (.aload_n 0, 1) := by decide +kernel
theorem dX8_put_33 : decode cX8_put 33 = .ok (.iload_n 2, 1) := by decide +kernel
theorem dX8_put_34 : decode cX8_put 34 = .ok (.invokevirtual 150, 3) := by decide +kernel
theorem dX8_put_37 : decode cX8_put 37 = .ok (.istore_n 3, 1) := by decide +kernel
theorem dX8_put_38 : decode cX8_put 38 = .ok (.iload_n 3, 1) := by decide +kernel
theorem dX8_put_39 : decode cX8_put 39 = .ok (.iconst (-1), 1) := by decide +kernel
theorem dX8_put_40 : decode cX8_put 40 = .ok (.if_icmp .eq 11, 3) := by decide +kernel
theorem dX8_put_43 : decode cX8_put 43 = .ok (.iload_n 3, 1) := by decide +kernel
theorem dX8_put_44 : decode cX8_put 44 = .ok (.iload_n 1, 1) := by decide +kernel
theorem dX8_put_45 : decode cX8_put 45 = .ok (.if_icmp .eq 6, 3) := by decide +kernel
theorem dX8_put_48 : decode cX8_put 48 = .ok (.bipush (-3), 2) := by decide +kernel
theorem dX8_put_50 : decode cX8_put 50 = .ok (.ireturn, 1) := by decide +kernel
theorem dX8_put_51 : decode cX8_put 51 = .ok (.aload_n 0, 1) := by decide +kernel
theorem dX8_put_52 : decode cX8_put 52 = .ok (.getfield 44, 3) := by decide +kernel
theorem dX8_put_55 : decode cX8_put 55 = .ok (.iload_n 1, 1) := by decide +kernel
theorem dX8_put_56 : decode cX8_put 56 = .ok (.iaload, 1) := by decide +kernel
theorem dX8_put_57 : decode cX8_put 57 = .ok (.istore 4, 2) := by decide +kernel
theorem dX8_put_59 : decode cX8_put 59 = .ok (.aload_n 0, 1) := by decide +kernel
