theorem dX5_isTime_5 : decode cX5_isTime 5 = .ok (.dstore 4, 2) := by decide +kernel
theorem dX5_isTime_7 : decode cX5_isTime 7 = .ok (.dload_n 0, 1) := by decide +kernel
theorem dX5_isTime_8 : decode cX5_isTime 8 = .ok (.dload_n 2, 1) := by decide +kernel
theorem dX5_isTime_9 : decode cX5_isTime 9 = .ok (.dcmp .l, 1) := by decide +kernel
theorem dX5_isTime_10 : decode cX5_isTime 10 = .ok (.ifCond .lt 25, 3) := by decide +kernel
theorem dX5_isTime_13 : decode cX5_isTime 13 = .ok (.dload_n 0, 1) := by decide +kernel
theorem dX5_isTime_14 : decode cX5_isTime 14 = .ok (.ldc2_w 90, 3) := by decide +kernel
theorem dX5_isTime_17 : decode cX5_isTime 17 = .ok (.dcmp .g, 1) := by decide +kernel
theorem dX5_isTime_18 : decode cX5_isTime 18 = .ok (.ifCond .gt 17, 3) := by decide +kernel
theorem dX5_isTime_21 : decode cX5_isTime 21 = .ok (.dload 4, 2) := by decide +kernel
theorem dX5_isTime_23 : decode cX5_isTime 23 = .ok (.dload 4, 2) := by decide +kernel
theorem dX5_isTime_25 : decode cX5_isTime 25 = .ok (.d2l, 1) := by decide +kernel
theorem dX5_isTime_26 : decode cX5_isTime 26 = .ok (.l2d, 1) := by decide +kernel
theorem dX5_isTime_27 : decode cX5_isTime 27 = .ok (.dcmp .l, 1) := by decide +kernel
theorem dX5_isTime_28 : decode cX5_isTime 28 = .ok (.ifCond .ne 7, 3) := by decide +kernel
theorem dX5_isTime_31 : decode cX5_isTime 31 = .ok (.iconst 1, 1) := by decide +kernel
theorem dX5_isTime_32 : decode cX5_isTime 32 = .ok (.goto 4, 3) := by decide +kernel
theorem dX5_isTime_35 : decode cX5_isTime 35 = .ok (.iconst 0, 1) := by decide +kernel
theorem dX5_isTime_36 : decode cX5_isTime 36 = .ok (.ireturn, 1) := by decide +kernel
theorem dX5_pin_0 : decode cX5_pin 0 = .ok (.aload_n 0, 1) := by decide +kernel
theorem dX5_pin_1 : decode cX5_pin 1 = .ok (.aload_n 0, 1) := by decide +kernel
theorem dX5_pin_2 : decode cX5_pin 2 = .ok (.getfield 85, 3) := by decide +kernel
theorem dX5_pin_5 : decode cX5_pin 5 = .ok (.bipush 60, 2) := by decide +kernel
theorem dX5_pin_7 : decode cX5_pin 7 = .ok (.if_icmp .ne 7, 3) := by decide +kernel
theorem dX5_pin_10 : decode cX5_pin 10 = .ok (.iconst 1, 1) := by decide +kernel
theorem dX5_pin_11 : decode cX5_pin 11 = .ok (.goto 4, 3) := by decide +kernel
theorem dX5_pin_14 : decode cX5_pin 14 = .ok (.iconst 0, 1) := by decide +kernel
theorem dX5_pin_15 : decode cX5_pin 15 = .ok (.putfield 81, 3) := by decide +kernel
theorem dX5_pin_18 : decode cX5_pin 18 = .ok (.aload_n 0, 1) := by decide +kernel
theorem dX5_pin_19 : decode cX5_pin 19 = .ok (.getfield 81, 3) := by decide +kernel
theorem dX5_pin_22 : decode cX5_pin 22 = .ok (.ifCond .le 5, 3) := by decide +kernel
theorem dX5_pin_25 : decode cX5_pin 25 = .ok (.iconst 0, 1) := by decide +kernel
theorem dX5_pin_26 : decode cX5_pin 26 = .ok (.ireturn, 1) := by decide +kernel
theorem dX5_pin_27 : decode cX5_pin 27 = .ok (.aload_n 0, 1) := by decide +kernel
theorem dX5_pin_28 : decode cX5_pin 28 = .ok (.getfield 7, 3) := by decide +kernel
theorem dX5_pin_31 : decode cX5_pin 31 = .ok (.aload_n 0, 1) := by decide +kernel
theorem dX5_pin_32 : decode cX5_pin 32 = .ok (.getfield 85, 3) := by decide +kernel
theorem dX5_pin_35 : decode cX5_pin 35 = .ok (.iconst (-1), 1) := by decide +kernel
theorem dX5_pin_36 : decode cX5_pin 36 = .ok (.iastore, 1) := by decide +kernel
theorem dX5_pin_37 : decode cX5_pin 37 = .ok (.aload_n 0, 1) := by decide +kernel
theorem dX5_pin_38 : decode cX5_pin 38 = .ok (.dup, 1) := by decide +kernel
theorem dX5_pin_39 : decode cX5_pin 39 = .ok (.getfield 85, 3) := by decide +kernel
theorem dX5_pin_42 : decode cX5_pin 42 = .ok (.iconst 1, 1) := by decide +kernel
theorem dX5_pin_43 : decode cX5_pin 43 = .ok (.iadd, 1) := by decide +kernel
theorem dX5_pin_44 : decode cX5_pin 44 = .ok (.putfield 85, 3) := by decide +kernel
theorem dX5_pin_47 : decode cX5_pin 47 = .ok (.aload_n 0, 1) := by decide +kernel
theorem dX5_pin_48 : decode cX5_pin 48 = .ok (.iconst 0, 1) := by decide +kernel
theorem dX5_pin_49 : decode cX5_pin 49 = .ok (.putfield 92, 3) := by decide +kernel
theorem dX5_pin_52 : decode cX5_pin 52 = .ok (.aload_n 0, 1) := by decide +kernel
theorem dX5_pin_53 : decode cX5_pin 53 = .ok (.getfield 85, 3) := by decide +kernel
theorem dX5_pin_56 : decode cX5_pin 56 = .ok (.iconst 1, 1) := by decide +kernel
theorem dX5_pin_57 : decode cX5_pin 57 = .ok (.isub, 1) := by decide +kernel
theorem dX5_pin_58 : decode cX5_pin 58 = .ok (.ireturn, 1) := by decide +kernel
theorem dX5_spread_0 : decode cX5_spread 0 = .ok (.iconst 0, 1) := by decide +kernel
theorem dX5_spread_1 : decode cX5_spread 1 = .ok (.istore_n 3, 1) := by decide +kernel
theorem dX5_spread_2 : decode cX5_spread 2 = .ok (.iload_n 3, 1) := by decide +kernel
theorem dX5_spread_3 : decode cX5_spread 3 = .ok (.bipush 60, 2) := by decide +kernel
theorem dX5_spread_5 : decode cX5_spread 5 = .ok (.if_icmp .ge 25, 3) := by decide +kernel
theorem dX5_spread_8 : decode cX5_spread 8 = .ok (.aload_n 0, 1) := by decide +kernel
theorem dX5_spread_9 : decode cX5_spread 9 = .ok (.getfield 65, 3) := by decide +kernel
theorem dX5_spread_12 : decode cX5_spread 12 = .ok (.iload_n 3, 1) := by decide +kernel
theorem dX5_spread_13 : decode cX5_spread 13 = .ok (.iload_n 3, 1) := by decide +kernel
theorem dX5_spread_14 : decode cX5_spread 14 = .ok (.iload_n 1, 1) := by decide +kernel
theorem dX5_spread_15 : decode cX5_spread 15 = .ok (.if_icmp .ne 7, 3) := by decide +kernel
theorem dX5_spread_18 : decode cX5_spread 18 = .ok (.iconst 1, 1) := by decide +kernel
theorem dX5_spread_19 : decode cX5_spread 19 = .ok (.goto 4, 3) := by decide +kernel
theorem dX5_spread_22 : decode cX5_spread 22 = .ok (.iconst 0, 1) := by decide +kernel
theorem dX5_spread_23 : decode cX5_spread 23 = .ok (.bastore, 1) := by decide +kernel
theorem dX5_spread_24 : decode cX5_spread 24 = .ok (.iinc 3 1, 3) := by decide +kernel
theorem dX5_spread_27 : decode cX5_spread 27 = .ok (.goto (-25), 3) := by decide +kernel
theorem dX5_spread_30 : decode cX5_spread 30 = .ok (.iconst 1, 1) := by decide +kernel
theorem dX5_spread_31 : decode cX5_spread 31 = .ok (.istore_n 3, 1) := by decide +kernel
theorem dX5_spread_32 : decode cX5_spread 32 = .ok (.iload_n 3, 1) := by decide +kernel
theorem dX5_spread_33 : decode cX5_spread 33 = .ok (.ifCond .eq 120, 3) := by decide +kernel
theorem dX5_spread_36 : decode cX5_spread 36 = .ok (.iconst 0, 1) := by decide +kernel
theorem dX5_spread_37 : decode cX5_spread 37 = .ok (.istore_n 3, 1) := by decide +kernel
theorem dX5_spread_38 : decode cX5_spread 38 = .ok (.iconst 0, 1) := by decide +kernel
theorem dX5_spread_39 : decode cX5_spread 39 = .ok (.istore 4, 2) := by decide +kernel
theorem dX5_spread_41 : decode cX5_spread 41 = .ok (.iload 4, 2) := by decide +kernel
theorem dX5_spread_43 : decode cX5_spread 43 = .ok (.aload_n 0, 1) := by decide +kernel
theorem dX5_spread_44 : decode cX5_spread 44 = .ok (.getfield 96, 3) := by decide +kernel
theorem dX5_spread_47 : decode cX5_spread 47 = .ok (.if_icmp .ge 103, 3) := by decide +kernel
theorem dX5_spread_50 : decode cX5_spread 50 = .ok (.iload_n 2, 1) := by decide +kernel
theorem dX5_spread_51 : decode cX5_spread 51 = .ok (.iconst (-1), 1) := by decide +kernel
theorem dX5_spread_52 : decode cX5_spread 52 = .ok (.if_icmp .eq 35, 3) := by decide +kernel
theorem dX5_spread_55 : decode cX5_spread 55 = .ok (.aload_n 0, 1) := by decide +kernel
theorem dX5_spread_56 : decode cX5_spread 56 = .ok (.getfield 7, 3) := by decide +kernel
theorem dX5_spread_59 : decode cX5_spread 59 = .ok (.aload_n 0, 1) := by decide +kernel
theorem dX5_spread_60 : decode cX5_spread 60 = .ok (.getfield 13, 3) := by decide +kernel
theorem dX5_spread_63 : decode cX5_spread 63 = .ok (.iload 4, 2) := by decide +kernel
theorem dX5_spread_65 : decode cX5_spread 65 = .ok (.iaload, 1) := by decide +kernel
theorem dX5_spread_66 : decode cX5_spread 66 = .ok (.iaload, 1) := by decide +kernel
theorem dX5_spread_67 : decode cX5_spread 67 = .ok (.iload_n 2, 1) := by decide +kernel
theorem dX5_spread_68 : decode cX5_spread 68 = .ok (.if_icmp .ne 23, 3) := by decide +kernel
theorem dX5_spread_71 : decode cX5_spread 71 = .ok (.aload_n 0, 1) := by decide +kernel
theorem dX5_spread_72 : decode cX5_spread 72 = .ok (.getfield 7, 3) := by decide +kernel
theorem dX5_spread_75 : decode cX5_spread 75 = .ok (.aload_n 0, 1) := by decide +kernel
theorem dX5_spread_76 : decode cX5_spread 76 = .ok (.getfield 16, 3) := by decide +kernel
theorem dX5_spread_79 : decode cX5_spread 79 = .ok (.iload 4, 2) := by decide +kernel
theorem dX5_spread_81 : decode cX5_spread 81 = .ok (.iaload, 1) := by decide +kernel
theorem dX5_spread_82 : decode cX5_spread 82 = .ok (.iaload, 1) := by decide +kernel
theorem dX5_spread_83 : decode cX5_spread 83 = .ok (.iload_n 2, 1) := by decide +kernel
theorem dX5_spread_84 : decode cX5_spread 84 = .ok (.if_icmp .ne 7, 3) := by decide +kernel
theorem dX5_spread_87 : decode cX5_spread 87 = .ok (.iconst 1, 1) := by decide +kernel
theorem dX5_spread_88 : decode cX5_spread 88 = .ok (.goto 4, 3) := by decide +kernel
theorem dX5_spread_91 : decode cX5_spread 91 = .ok (.iconst 0, 1) := by decide +kernel
theorem dX5_spread_92 : decode cX5_spread 92 = .ok (.istore 5, 2) := by decide +kernel
theorem dX5_spread_94 : decode cX5_spread 94 = .ok (.iload 5, 2) := by decide +kernel
theorem dX5_spread_96 : decode cX5_spread 96 = .ok (.ifCond .eq 48, 3) := by decide +kernel
theorem dX5_spread_99 : decode cX5_spread 99 = .ok (.aload_n 0, 1) := by decide +kernel
theorem dX5_spread_100 : decode cX5_spread 100 = .ok (.getfield 65, 3) := by decide +kernel
theorem dX5_spread_103 : decode cX5_spread 103 = .ok (.aload_n 0, 1) := by decide +kernel
theorem dX5_spread_104 : decode cX5_spread 104 = .ok (.getfield 13, 3) := by decide +kernel
theorem dX5_spread_107 : decode cX5_spread 107 = .ok (.iload 4, 2) := by decide +kernel
theorem dX5_spread_109 : decode cX5_spread 109 = .ok (.iaload, 1) := by decide +kernel
theorem dX5_spread_110 : decode cX5_spread 110 = .ok (.baload, 1) := by decide +kernel
theorem dX5_spread_111 : decode cX5_spread 111 = .ok (.ifCond .eq 33, 3) := by decide +kernel
theorem dX5_spread_114 : decode cX5_spread 114 = .ok (.aload_n 0, 1) := by decide +kernel
theorem dX5_spread_115 : decode cX5_spread 115 = .ok (.getfield 65, 3) := by decide +kernel
theorem dX5_spread_118 : decode cX5_spread 118 = .ok (.aload_n 0, 1) := by decide +kernel
theorem dX5_spread_119 : decode cX5_spread 119 = .ok (.getfield 16, 3) := by decide +kernel
theorem dX5_spread_122 : decode cX5_spread 122 = .ok (.iload 4, 2) := by decide +kernel
theorem dX5_spread_124 : decode cX5_spread 124 = .ok (.iaload, 1) := by decide +kernel
theorem dX5_spread_125 : decode cX5_spread 125 = .ok (.baload, 1) := by decide +kernel
theorem dX5_spread_126 : decode cX5_spread 126 = .ok (.ifCond .ne 18, 3) := by decide +kernel
theorem dX5_spread_129 : decode cX5_spread 129 = .ok (.aload_n 0, 1) := by decide +kernel
theorem dX5_spread_130 : decode cX5_spread 130 = .ok (.getfield 65, 3) := by decide +kernel
theorem dX5_spread_133 : decode cX5_spread 133 = .ok (.aload_n 0, 1) := by decide +kernel
theorem dX5_spread_134 : decode cX5_spread 134 = .ok (.getfield 16, 3) := by decide +kernel
theorem dX5_spread_137 : decode cX5_spread 137 = .ok (.iload 4, 2) := by decide +kernel
theorem dX5_spread_139 : decode cX5_spread 139 = .ok (.iaload, 1) := by decide +kernel
theorem dX5_spread_140 : decode cX5_spread 140 = .ok (.iconst 1, 1) := by decide +kernel
theorem dX5_spread_141 : decode cX5_spread 141 = .ok (.bastore, 1) := by decide +kernel
theorem dX5_spread_142 : decode cX5_spread 142 = .ok (.iconst 1, 1) := by decide +kernel
theorem dX5_spread_143 : decode cX5_spread 143 = .ok (.istore_n 3, 1) := by decide +kernel
theorem dX5_spread_144 : decode cX5_spread 144 = .ok (.iinc 4 1, 3) := by decide +kernel
theorem dX5_spread_147 : decode cX5_spread 147 = .ok (.goto (-106), 3) := by decide +kernel
theorem dX5_spread_150 : decode cX5_spread 150 = .ok (.goto (-118), 3) := by decide +kernel
theorem dX5_spread_153 : decode cX5_spread 153 = .ok (.return_, 1) := by decide +kernel
theorem dX5_arc_0 : decode cX5_arc 0 = .ok (.aload_n 0, 1) := by decide +kernel
theorem dX5_arc_1 : decode cX5_arc 1 = .ok (.aload_n 0, 1) := by decide +kernel
theorem dX5_arc_2 : decode cX5_arc 2 = .ok (.iload_n 1, 1) := by decide +kernel
theorem dX5_arc_3 : decode cX5_arc 3 = .ok (.invokevirtual 99, 3) := by decide +kernel
theorem dX5_arc_6 : decode cX5_arc 6 = .ok (.ifCond .eq 11, 3) := by decide +kernel
theorem dX5_arc_9 : decode cX5_arc 9 = .ok (.aload_n 0, 1) := by decide +kernel
theorem dX5_arc_10 : decode cX5_arc 10 = .ok (.iload_n 2, 1) := by decide +kernel
theorem dX5_arc_11 : decode cX5_arc 11 = .ok (.invokevirtual 99, 3) := by decide +kernel
theorem dX5_arc_14 : decode cX5_arc 14 = .ok (.ifCond .ne 7, 3) := by decide +kernel
theorem dX5_arc_17 : decode cX5_arc 17 = .ok (.iconst 1, 1) := by decide +kernel
theorem dX5_arc_18 : decode cX5_arc 18 = .ok (.goto 30, 3) := by decide +kernel
theorem dX5_arc_21 : decode cX5_arc 21 = .ok (.aload_n 0, 1) := by decide +kernel
theorem dX5_arc_22 : decode cX5_arc 22 = .ok (.getfield 96, 3) := by decide +kernel
theorem dX5_arc_25 : decode cX5_arc 25 = .ok (.sipush 150, 3) := by decide +kernel
theorem dX5_arc_28 : decode cX5_arc 28 = .ok (.if_icmp .ne 7, 3) := by decide +kernel
theorem dX5_arc_31 : decode cX5_arc 31 = .ok (.iconst 2, 1) := by decide +kernel
theorem dX5_arc_32 : decode cX5_arc 32 = .ok (.goto 16, 3) := by decide +kernel
theorem dX5_arc_35 : decode cX5_arc 35 = .ok (.dload_n 3, 1) := by decide +kernel
theorem dX5_arc_36 : decode cX5_arc 36 = .ok (.dconst 0, 1) := by decide +kernel
theorem dX5_arc_37 : decode cX5_arc 37 = .ok (.invokestatic 103, 3) := by decide +kernel
theorem dX5_arc_40 : decode cX5_arc 40 = .ok (.ifCond .ne 7, 3) := by decide +kernel
theorem dX5_arc_43 : decode cX5_arc 43 = .ok (.iconst 3, 1) := by decide +kernel
theorem dX5_arc_44 : decode cX5_arc 44 = .ok (.goto 4, 3) := by decide +kernel
theorem dX5_arc_47 : decode cX5_arc 47 = .ok (.iconst 0, 1) := by decide +kernel
theorem dX5_arc_48 : decode cX5_arc 48 = .ok (.putfield 81, 3) := by decide +kernel
theorem dX5_arc_51 : decode cX5_arc 51 = .ok (.aload_n 0, 1) := by decide +kernel
theorem dX5_arc_52 : decode cX5_arc 52 = .ok (.getfield 81, 3) := by decide +kernel
theorem dX5_arc_55 : decode cX5_arc 55 = .ok (.ifCond .le 5, 3) := by decide +kernel
theorem dX5_arc_58 : decode cX5_arc 58 = .ok (.iconst 0, 1) := by decide +kernel
theorem dX5_arc_59 : decode cX5_arc 59 = .ok (.ireturn, 1) := by decide +kernel
theorem dX5_arc_60 : decode cX5_arc 60 = .ok (.aload_n 0, 1) := by decide +kernel
theorem dX5_arc_61 : decode cX5_arc 61 = .ok (.iload_n 2, 1) := by decide +kernel
theorem dX5_arc_62 : decode cX5_arc 62 = .ok (.iconst (-1), 1) := by decide +kernel
theorem dX5_arc_63 : decode cX5_arc 63 = .ok (.invokevirtual 107, 3) := by decide +kernel
theorem dX5_arc_66 : decode cX5_arc 66 = .ok (.aload_n 0, 1) := by decide +kernel
theorem dX5_arc_67 : decode cX5_arc 67 = .ok (.aload_n 0, 1) := by decide +kernel
theorem dX5_arc_68 : decode cX5_arc 68 = .ok (.getfield 65, 3) := by decide +kernel
theorem dX5_arc_71 : decode cX5_arc 71 = .ok (.iload_n 1, 1) := by decide +kernel
theorem dX5_arc_72 : decode cX5_arc 72 = .ok (.baload, 1) := by decide +kernel
theorem dX5_arc_73 : decode cX5_arc 73 = .ok (.ifCond .eq 7, 3) := by decide +kernel
theorem dX5_arc_76 : decode cX5_arc 76 = .ok (.iconst 3, 1) := by decide +kernel
theorem dX5_arc_77 : decode cX5_arc 77 = .ok (.goto 4, 3) := by decide +kernel
theorem dX5_arc_80 : decode cX5_arc 80 = .ok (.iconst 0, 1) := by decide +kernel
theorem dX5_arc_81 : decode cX5_arc 81 = .ok (.putfield 81, 3) := by decide +kernel
theorem dX5_arc_84 : decode cX5_arc 84 = .ok (.aload_n 0, 1) := by decide +kernel
theorem dX5_arc_85 : decode cX5_arc 85 = .ok (.getfield 81, 3) := by decide +kernel
theorem dX5_arc_88 : decode cX5_arc 88 = .ok (.ifCond .le 5, 3) := by decide +kernel
theorem dX5_arc_91 : decode cX5_arc 91 = .ok (.iconst 0, 1) := by decide +kernel
theorem dX5_arc_92 : decode cX5_arc 92 = .ok (.ireturn, 1) := by decide +kernel
theorem dX5_arc_93 : decode cX5_arc 93 = .ok (.aload_n 0, 1) := by decide +kernel
theorem dX5_arc_94 : decode cX5_arc 94 = .ok (.getfield 13, 3) := by decide +kernel
theorem dX5_arc_97 : decode cX5_arc 97 = .ok (.aload_n 0, 1) := by decide +kernel
theorem dX5_arc_98 : decode cX5_arc 98 = .ok (.getfield 96, 3) := by decide +kernel
theorem dX5_arc_101 : decode cX5_arc 101 = .ok (.iload_n 1, 1) := by decide +kernel
theorem dX5_arc_102 : decode cX5_arc 102 = .ok (.iastore, 1) := by decide +kernel
theorem dX5_arc_103 : decode cX5_arc 103 = .ok (.aload_n 0, 1) := by decide +kernel
theorem dX5_arc_104 : decode cX5_arc 104 = .ok (.getfield 16, 3) := by decide +kernel
theorem dX5_arc_107 : decode cX5_arc 107 = .ok (.aload_n 0, 1) := by decide +kernel
theorem dX5_arc_108 : decode cX5_arc 108 = .ok (.getfield 96, 3) := by decide +kernel
theorem dX5_arc_111 : decode cX5_arc 111 = .ok (.iload_n 2, 1) := by decide +kernel
theorem dX5_arc_112 : decode cX5_arc 112 = .ok (.iastore, 1) := by decide +kernel
theorem dX5_arc_113 : decode cX5_arc 113 = .ok (.aload_n 0, 1) := by decide +kernel
theorem dX5_arc_114 : decode cX5_arc 114 = .ok (.getfield 19, 3) := by decide +kernel
theorem dX5_arc_117 : decode cX5_arc 117 = .ok (.aload_n 0, 1) := by decide +kernel
theorem dX5_arc_118 : decode cX5_arc 118 = .ok (.getfield 96, 3) := by decide +kernel
theorem dX5_arc_121 : decode cX5_arc 121 = .ok (.dload_n 3, 1) := by decide +kernel
theorem dX5_arc_122 : decode cX5_arc 122 = .ok (.dconst 0, 1) := by decide +kernel
theorem dX5_arc_123 : decode cX5_arc 123 = .ok (.dadd, 1) := by decide +kernel
theorem dX5_arc_124 : decode cX5_arc 124 = .ok (.dastore, 1) := by decide +kernel
theorem dX5_arc_125 : decode cX5_arc 125 = .ok (.aload_n 0, 1) := by decide +kernel
theorem dX5_arc_126 : decode cX5_arc 126 = .ok (.dup, 1) := by decide +kernel
theorem dX5_arc_127 : decode cX5_arc 127 = .ok (.getfield 96, 3) := by decide +kernel
theorem dX5_arc_130 : decode cX5_arc 130 = .ok (.iconst 1, 1) := by decide +kernel
theorem dX5_arc_131 : decode cX5_arc 131 = .ok (.iadd, 1) := by decide +kernel
theorem dX5_arc_132 : decode cX5_arc 132 = .ok (.putfield 96, 3) := by decide +kernel
theorem dX5_arc_135 : decode cX5_arc 135 = .ok (.aload_n 0, 1) := by decide +kernel
theorem dX5_arc_136 : decode cX5_arc 136 = .ok (.iconst 0, 1) := by decide +kernel
theorem dX5_arc_137 : decode cX5_arc 137 = .ok (.putfield 92, 3) := by decide +kernel
theorem dX5_arc_140 : decode cX5_arc 140 = .ok (.aload_n 0, 1) := by decide +kernel
theorem dX5_arc_141 : decode cX5_arc 141 = .ok (.getfield 96, 3) := by decide +kernel
theorem dX5_arc_144 : decode cX5_arc 144 = .ok (.iconst 1, 1) := by decide +kernel
theorem dX5_arc_145 : decode cX5_arc 145 = .ok (.isub, 1) := by decide +kernel
theorem dX5_arc_146 : decode cX5_arc 146 = .ok (.ireturn, 1) := by decide +kernel
theorem dX5_end_0 : decode cX5_end 0 = .ok (.aload_n 0, 1) := by decide +kernel
theorem dX5_end_1 : decode cX5_end 1 = .ok (.aload_n 0, 1) := by decide +kernel
theorem dX5_end_2 : decode cX5_end 2 = .ok (.iload_n 1, 1) := by decide +kernel
theorem dX5_end_3 : decode cX5_end 3 = .ok (.invokevirtual 99, 3) := by decide +kernel
theorem dX5_end_6 : decode cX5_end 6 = .ok (.ifCond .ne 7, 3) := by decide +kernel
theorem dX5_end_9 : decode cX5_end 9 = .ok (.iconst 1, 1) := by decide +kernel
theorem dX5_end_10 : decode cX5_end 10 = .ok (.goto 31, 3) := by decide +kernel
theorem dX5_end_13 : decode cX5_end 13 = .ok (.aload_n 0, 1) := by decide +kernel
theorem dX5_end_14 : decode cX5_end 14 = .ok (.getfield 111, 3) := by decide +kernel
theorem dX5_end_17 : decode cX5_end 17 = .ok (.bipush 30, 2) := by decide +kernel
theorem dX5_end_19 : decode cX5_end 19 = .ok (.if_icmp .ne 7, 3) := by decide +kernel
theorem dX5_end_22 : decode cX5_end 22 = .ok (.iconst 2, 1) := by decide +kernel
theorem dX5_end_23 : decode cX5_end 23 = .ok (.goto 18, 3) := by decide +kernel
theorem dX5_end_26 : decode cX5_end 26 = .ok (.dload_n 2, 1) := by decide +kernel
theorem dX5_end_27 : decode cX5_end 27 = .ok (.ldc2_w 114, 3) := by decide +kernel
theorem dX5_end_30 : decode cX5_end 30 = .ok (.invokestatic 103, 3) := by decide +kernel
theorem dX5_end_33 : decode cX5_end 33 = .ok (.ifCond .eq 7, 3) := by decide +kernel
theorem dX5_end_36 : decode cX5_end 36 = .ok (.iconst 0, 1) := by decide +kernel
theorem dX5_end_37 : decode cX5_end 37 = .ok (.goto 4, 3) := by decide +kernel
theorem dX5_end_40 : decode cX5_end 40 = .ok (.iconst 3, 1) := by decide +kernel
theorem dX5_end_41 : decode cX5_end 41 = .ok (.putfield 81, 3) := by decide +kernel
theorem dX5_end_44 : decode cX5_end 44 = .ok (.aload_n 0, 1) := by decide +kernel
theorem dX5_end_45 : decode cX5_end 45 = .ok (.getfield 81, 3) := by decide +kernel
theorem dX5_end_48 : decode cX5_end 48 = .ok (.ifCond .le 5, 3) := by decide +kernel
theorem dX5_end_51 : decode cX5_end 51 = .ok (.iconst 0, 1) := by decide +kernel
theorem dX5_end_52 : decode cX5_end 52 = .ok (.ireturn, 1) := by decide +kernel
theorem dX5_end_53 : decode cX5_end 53 = .ok (.aload_n 0, 1) := by decide +kernel
theorem dX5_end_54 : decode cX5_end 54 = .ok (.getfield 29, 3) := by decide +kernel
theorem dX5_end_57 : decode cX5_end 57 = .ok (.aload_n 0, 1) := by decide +kernel
theorem dX5_end_58 : decode cX5_end 58 = .ok (.getfield 111, 3) := by decide +kernel
theorem dX5_end_61 : decode cX5_end 61 = .ok (.iload_n 1, 1) := by decide +kernel
theorem dX5_end_62 : decode cX5_end 62 = .ok (.iastore, 1) := by decide +kernel
theorem dX5_end_63 : decode cX5_end 63 = .ok (.aload_n 0, 1) := by decide +kernel
theorem dX5_end_64 : decode cX5_end 64 = .ok (.getfield 32, 3) := by decide +kernel
theorem dX5_end_67 : decode cX5_end 67 = .ok (.aload_n 0, 1) := by decide +kernel
theorem dX5_end_68 : decode cX5_end 68 = .ok (.getfield 111, 3) := by decide +kernel
theorem dX5_end_71 : decode cX5_end 71 = .ok (.dload_n 2, 1) := by decide +kernel
theorem dX5_end_72 : decode cX5_end 72 = .ok (.dconst 0, 1) := by decide +kernel
theorem dX5_end_73 : decode cX5_end 73 = .ok (.dadd, 1) := by decide +kernel
theorem dX5_end_74 : decode cX5_end 74 = .ok (.dastore, 1) := by decide +kernel
theorem dX5_end_75 : decode cX5_end 75 = .ok (.aload_n 0, 1) := by decide +kernel
theorem dX5_end_76 : decode cX5_end 76 = .ok (.getfield 35, 3) := by decide +kernel
theorem dX5_end_79 : decode cX5_end 79 = .ok (.aload_n 0, 1) := by decide +kernel
theorem dX5_end_80 : decode cX5_end 80 = .ok (.getfield 111, 3) := by decide +kernel
theorem dX5_end_83 : decode cX5_end 83 = .ok (.iconst 0, 1) := by decide +kernel
theorem dX5_end_84 : decode cX5_end 84 = .ok (.iastore, 1) := by decide +kernel
theorem dX5_end_85 : decode cX5_end 85 = .ok (.aload_n 0, 1) := by decide +kernel
theorem dX5_end_86 : decode cX5_end 86 = .ok (.dup, 1) := by decide +kernel
theorem dX5_end_87 : decode cX5_end 87 = .ok (.getfield 111, 3) := by decide +kernel
theorem dX5_end_90 : decode cX5_end 90 = .ok (.iconst 1, 1) := by decide +kernel
theorem dX5_end_91 : decode cX5_end 91 = .ok (.iadd, 1) := by decide +kernel
theorem dX5_end_92 : decode cX5_end 92 = .ok (.putfield 111, 3) := by decide +kernel
theorem dX5_end_95 : decode cX5_end 95 = .ok (.aload_n 0, 1) := by decide +kernel
theorem dX5_end_96 : decode cX5_end 96 = .ok (.iconst 0, 1) := by decide +kernel
theorem dX5_end_97 : decode cX5_end 97 = .ok (.putfield 92, 3) := by decide +kernel
theorem dX5_end_100 : decode cX5_end 100 = .ok (.aload_n 0, 1) := by decide +kernel
theorem dX5_end_101 : decode cX5_end 101 = .ok (.getfield 111, 3) := by decide +kernel
theorem dX5_end_104 : decode cX5_end 104 = .ok (.iconst 1, 1) := by decide +kernel
theorem dX5_end_105 : decode cX5_end 105 = .ok (.isub, 1) := by decide +kernel
theorem dX5_end_106 : decode cX5_end 106 = .ok (.ireturn, 1) := by decide +kernel
theorem dX5_start_0 : decode cX5_start 0 = .ok (.aload_n 0, 1) := by decide +kernel
theorem dX5_start_1 : decode cX5_start 1 = .ok (.aload_n 0, 1) := by decide +kernel
theorem dX5_start_2 : decode cX5_start 2 = .ok (.iload_n 1, 1) := by decide +kernel
theorem dX5_start_3 : decode cX5_start 3 = .ok (.invokevirtual 99, 3) := by decide +kernel
theorem dX5_start_6 : decode cX5_start 6 = .ok (.ifCond .ne 7, 3) := by decide +kernel
theorem dX5_start_9 : decode cX5_start 9 = .ok (.iconst 1, 1) := by decide +kernel
theorem dX5_start_10 : decode cX5_start 10 = .ok (.goto 31, 3) := by decide +kernel
theorem dX5_start_13 : decode cX5_start 13 = .ok (.aload_n 0, 1) := by decide +kernel
theorem dX5_start_14 : decode cX5_start 14 = .ok (.getfield 116, 3) := by decide +kernel
theorem dX5_start_17 : decode cX5_start 17 = .ok (.bipush 30, 2) := by decide +kernel
theorem dX5_start_19 : decode cX5_start 19 = .ok (.if_icmp .ne 7, 3) := by decide +kernel
theorem dX5_start_22 : decode cX5_start 22 = .ok (.iconst 2, 1) := by decide +kernel
theorem dX5_start_23 : decode cX5_start 23 = .ok (.goto 18, 3) := by decide +kernel
theorem dX5_start_26 : decode cX5_start 26 = .ok (.dload_n 2, 1) := by decide +kernel
theorem dX5_start_27 : decode cX5_start 27 = .ok (.ldc2_w 114, 3) := by decide +kernel
theorem dX5_start_30 : decode cX5_start 30 = .ok (.invokestatic 103, 3) := by decide +kernel
theorem dX5_start_33 : decode cX5_start 33 = .ok (.ifCond .eq 7, 3) := by decide +kernel
theorem dX5_start_36 : decode cX5_start 36 = .ok (.iconst 0, 1) := by decide +kernel
theorem dX5_start_37 : decode cX5_start 37 = .ok (.goto 4, 3) := by decide +kernel
theorem dX5_start_40 : decode cX5_start 40 = .ok (.iconst 3, 1) := by decide +kernel
theorem dX5_start_41 : decode cX5_start 41 = .ok (.putfield 81, 3) := by decide +kernel
theorem dX5_start_44 : decode cX5_start 44 = .ok (.aload_n 0, 1) := by decide +kernel
theorem dX5_start_45 : decode cX5_start 45 = .ok (.getfield 81, 3) := by decide +kernel
theorem dX5_start_48 : decode cX5_start 48 = .ok (.ifCond .le 5, 3) := by decide +kernel
theorem dX5_start_51 : decode cX5_start 51 = .ok (.iconst 0, 1) := by decide +kernel
theorem dX5_start_52 : decode cX5_start 52 = .ok (.ireturn, 1) := by decide +kernel
theorem dX5_start_53 : decode cX5_start 53 = .ok (.aload_n 0, 1) := by decide +kernel
theorem dX5_start_54 : decode cX5_start 54 = .ok (.getfield 23, 3) := by decide +kernel
theorem dX5_start_57 : decode cX5_start 57 = .ok (.aload_n 0, 1) := by decide +kernel
theorem dX5_start_58 : decode cX5_start 58 = .ok (.getfield 116, 3) := by decide +kernel
theorem dX5_start_61 : decode cX5_start 61 = .ok (.iload_n 1, 1) := by decide +kernel
theorem dX5_start_62 : decode cX5_start 62 = .ok (.iastore, 1) := by decide +kernel
theorem dX5_start_63 : decode cX5_start 63 = .ok (.aload_n 0, 1) := by decide +kernel
theorem dX5_start_64 : decode cX5_start 64 = .ok (.getfield 26, 3) := by decide +kernel
theorem dX5_start_67 : decode cX5_start 67 = .ok (.aload_n 0, 1) := by decide +kernel
theorem dX5_start_68 : decode cX5_start 68 = .ok (.getfield 116, 3) := by decide +kernel
theorem dX5_start_71 : decode cX5_start 71 = .ok (.dload_n 2, 1) := by decide +kernel
theorem dX5_start_72 : decode cX5_start 72 = .ok (.dconst 0, 1) := by decide +kernel
theorem dX5_start_73 : decode cX5_start 73 = .ok (.dadd, 1) := by decide +kernel
theorem dX5_start_74 : decode cX5_start 74 = .ok (.dastore, 1) := by decide +kernel
theorem dX5_start_75 : decode cX5_start 75 = .ok (.aload_n 0, 1) := by decide +kernel
theorem dX5_start_76 : decode cX5_start 76 = .ok (.dup, 1) := by decide +kernel
theorem dX5_start_77 : decode cX5_start 77 = .ok (.getfield 116, 3) := by decide +kernel
theorem dX5_start_80 : decode cX5_start 80 = .ok (.iconst 1, 1) := by decide +kernel
theorem dX5_start_81 : decode cX5_start 81 = .ok (.iadd, 1) := by decide +kernel
theorem dX5_start_82 : decode cX5_start 82 = .ok (.putfield 116, 3) := by decide +kernel
theorem dX5_start_85 : decode cX5_start 85 = .ok (.aload_n 0, 1) := by decide +kernel
theorem dX5_start_86 : decode cX5_start 86 = .ok (.iconst 0, 1) := by decide +kernel
theorem dX5_start_87 : decode cX5_start 87 = .ok (.putfield 92, 3) := by decide +kernel
theorem dX5_start_90 : decode cX5_start 90 = .ok (.aload_n 0, 1) := by decide +kernel
theorem dX5_start_91 : decode cX5_start 91 = .ok (.getfield 116, 3) := by decide +kernel
theorem dX5_start_94 : decode cX5_start 94 = .ok (.iconst 1, 1) := by decide +kernel
theorem dX5_start_95 : decode cX5_start 95 = .ok (.isub, 1) := by decide +kernel
theorem dX5_start_96 : decode cX5_start 96 = .ok (.ireturn, 1) := by decide +kernel
theorem dX5_through_0 : decode cX5_through 0 = .ok (.aload_n 0, 1) := by decide +kernel
theorem dX5_through_1 : decode cX5_through 1 = .ok (.iload_n 1, 1) := by decide +kernel
theorem dX5_through_2 : decode cX5_through 2 = .ok (.iconst (-1), 1) := by decide +kernel
theorem dX5_through_3 : decode cX5_through 3 = .ok (.if_icmp .eq 15, 3) := by decide +kernel
theorem dX5_through_6 : decode cX5_through 6 = .ok (.aload_n 0, 1) := by decide +kernel
theorem dX5_through_7 : decode cX5_through 7 = .ok (.iload_n 1, 1) := by decide +kernel
theorem dX5_through_8 : decode cX5_through 8 = .ok (.invokevirtual 99, 3) := by decide +kernel
theorem dX5_through_11 : decode cX5_through 11 = .ok (.ifCond .ne 7, 3) := by decide +kernel
theorem dX5_through_14 : decode cX5_through 14 = .ok (.iconst 1, 1) := by decide +kernel
theorem dX5_through_15 : decode cX5_through 15 = .ok (.goto 18, 3) := by decide +kernel
theorem dX5_through_18 : decode cX5_through 18 = .ok (.iload_n 2, 1) := by decide +kernel
theorem dX5_through_19 : decode cX5_through 19 = .ok (.ifCond .lt 9, 3) := by decide +kernel
theorem dX5_through_22 : decode cX5_through 22 = .ok (.iload_n 2, 1) := by decide +kernel
theorem dX5_through_23 : decode cX5_through 23 = .ok (.bipush 10, 2) := by decide +kernel
theorem dX5_through_25 : decode cX5_through 25 = .ok (.if_icmp .lt 7, 3) := by decide +kernel
theorem dX5_through_28 : decode cX5_through 28 = .ok (.iconst 2, 1) := by decide +kernel
theorem dX5_through_29 : decode cX5_through 29 = .ok (.goto 4, 3) := by decide +kernel
theorem dX5_through_32 : decode cX5_through 32 = .ok (.iconst 0, 1) := by decide +kernel
theorem dX5_through_33 : decode cX5_through 33 = .ok (.putfield 81, 3) := by decide +kernel
theorem dX5_through_36 : decode cX5_through 36 = .ok (.aload_n 0, 1) := by decide +kernel
theorem dX5_through_37 : decode cX5_through 37 = .ok (.getfield 81, 3) := by decide +kernel
theorem dX5_through_40 : decode cX5_through 40 = .ok (.ifCond .gt 13, 3) := by decide +kernel
theorem dX5_through_43 : decode cX5_through 43 = .ok (.aload_n 0, 1) := by decide +kernel
theorem dX5_through_44 : decode cX5_through 44 = .ok (.getfield 38, 3) := by decide +kernel
theorem dX5_through_47 : decode cX5_through 47 = .ok (.iload_n 2, 1) := by decide +kernel
theorem dX5_through_48 : decode cX5_through 48 = .ok (.iaload, 1) := by decide +kernel
theorem dX5_through_49 : decode cX5_through 49 = .ok (.iload_n 1, 1) := by decide +kernel
theorem dX5_through_50 : decode cX5_through 50 = .ok (.if_icmp .ne 5, 3) := by decide +kernel
theorem dX5_through_53 : decode cX5_through 53 = .ok (.iconst 0, 1) := by decide +kernel
theorem dX5_through_54 : decode cX5_through 54 = .ok (.ireturn, 1) := by decide +kernel
theorem dX5_through_55 : decode cX5_through 55 = .ok (.aload_n 0, 1) := by decide +kernel
theorem dX5_through_56 : decode cX5_through 56 = .ok (.getfield 38, 3) := by decide +kernel
theorem dX5_through_59 : decode cX5_through 59 = .ok (.iload_n 2, 1) := by decide +kernel
theorem dX5_through_60 : decode cX5_through 60 = .ok (.iload_n 1, 1) := by decide +kernel
theorem dX5_through_61 : decode cX5_through 61 = .ok (.iastore, 1) := by decide +kernel
theorem dX5_through_62 : decode cX5_through 62 = .ok (.aload_n 0, 1) := by decide +kernel
theorem dX5_through_63 : decode cX5_through 63 = .ok (.iconst 0, 1) := by decide +kernel
theorem dX5_through_64 : decode cX5_through 64 = .ok (.putfield 92, 3) := by decide +kernel
theorem dX5_through_67 : decode cX5_through 67 = .ok (.iconst 1, 1) := by decide +kernel
theorem dX5_through_68 : decode cX5_through 68 = .ok (.ireturn, 1) := by decide +kernel
theorem dX5_group_0 : decode cX5_group 0 = .ok (.aload_n 0, 1) := by decide +kernel
theorem dX5_group_1 : decode cX5_group 1 = .ok (.iload_n 1, 1) := by decide +kernel
theorem dX5_group_2 : decode cX5_group 2 = .ok (.ifCond .lt 11, 3) := by decide +kernel
theorem dX5_group_5 : decode cX5_group 5 = .ok (.iload_n 1, 1) := by decide +kernel
theorem dX5_group_6 : decode cX5_group 6 = .ok (.aload_n 0, 1) := by decide +kernel
theorem dX5_group_7 : decode cX5_group 7 = .ok (.getfield 111, 3) := by decide +kernel
theorem dX5_group_10 : decode cX5_group 10 = .ok (.if_icmp .lt 7, 3) := by decide +kernel
theorem dX5_group_13 : decode cX5_group 13 = .ok (.iconst 1, 1) := by decide +kernel
theorem dX5_group_14 : decode cX5_group 14 = .ok (.goto 18, 3) := by decide +kernel
theorem dX5_group_17 : decode cX5_group 17 = .ok (.iload_n 2, 1) := by decide +kernel
theorem dX5_group_18 : decode cX5_group 18 = .ok (.ifCond .lt 9, 3) := by decide +kernel
theorem dX5_group_21 : decode cX5_group 21 = .ok (.iload_n 2, 1) := by decide +kernel
theorem dX5_group_22 : decode cX5_group 22 = .ok (.bipush 8, 2) := by decide +kernel
theorem dX5_group_24 : decode cX5_group 24 = .ok (.if_icmp .lt 7, 3) := by decide +kernel
theorem dX5_group_27 : decode cX5_group 27 = .ok (.iconst 2, 1) := by decide +kernel
theorem dX5_group_28 : decode cX5_group 28 = .ok (.goto 4, 3) := by decide +kernel
theorem dX5_group_31 : decode cX5_group 31 = .ok (.iconst 0, 1) := by decide +kernel
theorem dX5_group_32 : decode cX5_group 32 = .ok (.putfield 81, 3) := by decide +kernel
theorem dX5_group_35 : decode cX5_group 35 = .ok (.aload_n 0, 1) := by decide +kernel
theorem dX5_group_36 : decode cX5_group 36 = .ok (.getfield 81, 3) := by decide +kernel
theorem dX5_group_39 : decode cX5_group 39 = .ok (.ifCond .le 5, 3) := by decide +kernel
theorem dX5_group_42 : decode cX5_group 42 = .ok (.iconst 0, 1) := by decide +kernel
theorem dX5_group_43 : decode cX5_group 43 = .ok (.ireturn, 1) := by decide +kernel
theorem dX5_group_44 : decode cX5_group 44 = .ok (.aload_n 0, 1) := by decide +kernel
theorem dX5_group_45 : decode cX5_group 45 = .ok (.aload_n 0, 1) := by decide +kernel
theorem dX5_group_46 : decode cX5_group 46 = .ok (.getfield 92, 3) := by decide +kernel
theorem dX5_group_49 : decode cX5_group 49 = .ok (.ifCond .eq 17, 3) := by decide +kernel
theorem dX5_group_52 : decode cX5_group 52 = .ok (.aload_n 0, 1) := by decide +kernel
theorem dX5_group_53 : decode cX5_group 53 = .ok (.getfield 35, 3) := by decide +kernel
theorem dX5_group_56 : decode cX5_group 56 = .ok (.iload_n 1, 1) := by decide +kernel
theorem dX5_group_57 : decode cX5_group 57 = .ok (.iaload, 1) := by decide +kernel
theorem dX5_group_58 : decode cX5_group 58 = .ok (.iload_n 2, 1) := by decide +kernel
theorem dX5_group_59 : decode cX5_group 59 = .ok (.if_icmp .ne 7, 3) := by decide +kernel
theorem dX5_group_62 : decode cX5_group 62 = .ok (.iconst 1, 1) := by decide +kernel
theorem dX5_group_63 : decode cX5_group 63 = .ok (.goto 4, 3) := by decide +kernel
theorem dX5_group_66 : decode cX5_group 66 = .ok (.iconst 0, 1) := by decide +kernel
theorem dX5_group_67 : decode cX5_group 67 = .ok (.putfield 92, 3) := by decide +kernel
theorem dX5_group_70 : decode cX5_group 70 = .ok (.aload_n 0, 1) := by decide +kernel
theorem dX5_group_71 : decode cX5_group 71 = .ok (.getfield 35, 3) := by decide +kernel
theorem dX5_group_74 : decode cX5_group 74 = .ok (.iload_n 1, 1) := by decide +kernel
theorem dX5_group_75 : decode cX5_group 75 = .ok (.iload_n 2, 1) := by decide +kernel
theorem dX5_group_76 : decode cX5_group 76 = .ok (.iastore, 1) := by decide +kernel
theorem dX5_group_77 : decode cX5_group 77 = .ok (.iconst 0, 1) := by decide +kernel
theorem dX5_group_78 : decode cX5_group 78 = .ok (.istore_n 3, 1) := by decide +kernel
theorem dX5_group_79 : decode cX5_group 79 = .ok (.iconst 0, 1) := by decide +kernel
theorem dX5_group_80 : decode cX5_group 80 = .ok (.istore 4, 2) := by decide +kernel
theorem dX5_group_82 : decode cX5_group 82 = .ok (.iload 4, 2) := by decide +kernel
theorem dX5_group_84 : decode cX5_group 84 = .ok (.aload_n 0, 1) := by decide +kernel
theorem dX5_group_85 : decode cX5_group 85 = .ok (.getfield 111, 3) := by decide +kernel
theorem dX5_group_88 : decode cX5_group 88 = .ok (.if_icmp .ge 28, 3) := by decide +kernel
theorem dX5_group_91 : decode cX5_group 91 = .ok (.iload_n 3, 1) := by decide +kernel
theorem dX5_group_92 : decode cX5_group 92 = .ok (.aload_n 0, 1) := by decide +kernel
theorem dX5_group_93 : decode cX5_group 93 = .ok (.getfield 35, 3) := by decide +kernel
theorem dX5_group_96 : decode cX5_group 96 = .ok (.iload 4, 2) := by decide +kernel
theorem dX5_group_98 : decode cX5_group 98 = .ok (.iaload, 1) := by decide +kernel
theorem dX5_group_99 : decode cX5_group 99 = .ok (.iload_n 2, 1) := by decide +kernel
theorem dX5_group_100 : decode cX5_group 100 = .ok (.if_icmp .ne 7, 3) := by decide +kernel
theorem dX5_group_103 : decode cX5_group 103 = .ok (.iconst 1, 1) := by decide +kernel
theorem dX5_group_104 : decode cX5_group 104 = .ok (.goto 4, 3) := by decide +kernel
theorem dX5_group_107 : decode cX5_group 107 = .ok (.iconst 0, 1) := by decide +kernel
theorem dX5_group_108 : decode cX5_group 108 = .ok (.iadd, 1) := by decide +kernel
theorem dX5_group_109 : decode cX5_group 109 = .ok (.istore_n 3, 1) := by decide +kernel
theorem dX5_group_110 : decode cX5_group 110 = .ok (.iinc 4 1, 3) := by decide +kernel
theorem dX5_group_113 : decode cX5_group 113 = .ok (.goto (-31), 3) := by decide +kernel
theorem dX5_group_116 : decode cX5_group 116 = .ok (.iload_n 3, 1) := by decide +kernel
theorem dX5_group_117 : decode cX5_group 117 = .ok (.ireturn, 1) := by decide +kernel
theorem dX5_met_0 : decode cX5_met 0 = .ok (.iload_n 2, 1) := by decide +kernel
theorem dX5_met_1 : decode cX5_met 1 = .ok (.istore_n 3, 1) := by decide +kernel
theorem dX5_met_2 : decode cX5_met 2 = .ok (.iload_n 3, 1) := by decide +kernel
theorem dX5_met_3 : decode cX5_met 3 = .ok (.bipush 10, 2) := by decide +kernel
theorem dX5_met_5 : decode cX5_met 5 = .ok (.if_icmp .ge 29, 3) := by decide +kernel
theorem dX5_met_8 : decode cX5_met 8 = .ok (.aload_n 0, 1) := by decide +kernel
theorem dX5_met_9 : decode cX5_met 9 = .ok (.getfield 38, 3) := by decide +kernel
theorem dX5_met_12 : decode cX5_met 12 = .ok (.iload_n 3, 1) := by decide +kernel
theorem dX5_met_13 : decode cX5_met 13 = .ok (.iaload, 1) := by decide +kernel
theorem dX5_met_14 : decode cX5_met 14 = .ok (.iconst (-1), 1) := by decide +kernel
theorem dX5_met_15 : decode cX5_met 15 = .ok (.if_icmp .eq 13, 3) := by decide +kernel
theorem dX5_met_18 : decode cX5_met 18 = .ok (.aload_n 0, 1) := by decide +kernel
theorem dX5_met_19 : decode cX5_met 19 = .ok (.getfield 38, 3) := by decide +kernel
theorem dX5_met_22 : decode cX5_met 22 = .ok (.iload_n 3, 1) := by decide +kernel
theorem dX5_met_23 : decode cX5_met 23 = .ok (.iaload, 1) := by decide +kernel
theorem dX5_met_24 : decode cX5_met 24 = .ok (.iload_n 1, 1) := by decide +kernel
theorem dX5_met_25 : decode cX5_met 25 = .ok (.if_icmp .ne 9, 3) := by decide +kernel
theorem dX5_met_28 : decode cX5_met 28 = .ok (.iinc 3 1, 3) := by decide +kernel
theorem dX5_met_31 : decode cX5_met 31 = .ok (.goto (-29), 3) := by decide +kernel
theorem dX5_met_34 : decode cX5_met 34 = .ok (.iload_n 3, 1) := by decide +kernel
theorem dX5_met_35 : decode cX5_met 35 = .ok (.ireturn, 1) := by decide +kernel
theorem dX5_unroll_0 : decode cX5_unroll 0 = .ok (.iconst 0, 1) := by decide +kernel
theorem dX5_unroll_1 : decode cX5_unroll 1 = .ok (.istore_n 3, 1) := by decide +kernel
theorem dX5_unroll_2 : decode cX5_unroll 2 = .ok (.iload_n 1, 1) := by decide +kernel
theorem dX5_unroll_3 : decode cX5_unroll 3 = .ok (.istore 4, 2) := by decide +kernel
theorem dX5_unroll_5 : decode cX5_unroll 5 = .ok (.aload_n 0, 1) := by decide +kernel
theorem dX5_unroll_6 : decode cX5_unroll 6 = .ok (.getfield 47, 3) := by decide +kernel
theorem dX5_unroll_9 : decode cX5_unroll 9 = .ok (.iload 4, 2) := by decide +kernel
theorem dX5_unroll_11 : decode cX5_unroll 11 = .ok (.iaload, 1) := by decide +kernel
theorem dX5_unroll_12 : decode cX5_unroll 12 = .ok (.iconst (-1), 1) := by decide +kernel
theorem dX5_unroll_13 : decode cX5_unroll 13 = .ok (.if_icmp .eq 18, 3) := by decide +kernel
theorem dX5_unroll_16 : decode cX5_unroll 16 = .ok (.iinc 3 1, 3) := by decide +kernel
theorem dX5_unroll_19 : decode cX5_unroll 19 = .ok (.aload_n 0, 1) := by decide +kernel
theorem dX5_unroll_20 : decode cX5_unroll 20 = .ok (.getfield 47, 3) := by decide +kernel
theorem dX5_unroll_23 : decode cX5_unroll 23 = .ok (.iload 4, 2) := by decide +kernel
theorem dX5_unroll_25 : decode cX5_unroll 25 = .ok (.iaload, 1) := by decide +kernel
theorem dX5_unroll_26 : decode cX5_unroll 26 = .ok (.istore 4, 2) := by decide +kernel
theorem dX5_unroll_28 : decode cX5_unroll 28 = .ok (.goto (-23), 3) := by decide +kernel
theorem dX5_unroll_31 : decode cX5_unroll 31 = .ok (.iload_n 3, 1) := by decide +kernel
theorem dX5_unroll_32 : decode cX5_unroll 32 = .ok (.istore 5, 2) := by decide +kernel
theorem dX5_unroll_34 : decode cX5_unroll 34 = .ok (.iload_n 1, 1) := by decide +kernel
theorem dX5_unroll_35 : decode cX5_unroll 35 = .ok (.istore 4, 2) := by decide +kernel
theorem dX5_unroll_37 : decode cX5_unroll 37 = .ok (.aload_n 0, 1) := by decide +kernel
theorem dX5_unroll_38 : decode cX5_unroll 38 = .ok (.getfield 47, 3) := by decide +kernel
theorem dX5_unroll_41 : decode cX5_unroll 41 = .ok (.iload 4, 2) := by decide +kernel
theorem dX5_unroll_43 : decode cX5_unroll 43 = .ok (.iaload, 1) := by decide +kernel
theorem dX5_unroll_44 : decode cX5_unroll 44 = .ok (.iconst (-1), 1) := by decide +kernel
theorem dX5_unroll_45 : decode cX5_unroll 45 = .ok (.if_icmp .eq 53, 3) := by decide +kernel
theorem dX5_unroll_48 : decode cX5_unroll 48 = .ok (.iinc 5 (-1), 3) := by decide +kernel
theorem dX5_unroll_51 : decode cX5_unroll 51 = .ok (.iload_n 2, 1) := by decide +kernel
theorem dX5_unroll_52 : decode cX5_unroll 52 = .ok (.ifCond .eq 20, 3) := by decide +kernel
theorem dX5_unroll_55 : decode cX5_unroll 55 = .ok (.aload_n 0, 1) := by decide +kernel
theorem dX5_unroll_56 : decode cX5_unroll 56 = .ok (.getfield 69, 3) := by decide +kernel
theorem dX5_unroll_59 : decode cX5_unroll 59 = .ok (.iload 5, 2) := by decide +kernel
theorem dX5_unroll_61 : decode cX5_unroll 61 = .ok (.aload_n 0, 1) := by decide +kernel
theorem dX5_unroll_62 : decode cX5_unroll 62 = .ok (.getfield 50, 3) := by decide +kernel
theorem dX5_unroll_65 : decode cX5_unroll 65 = .ok (.iload 4, 2) := by decide +kernel
theorem dX5_unroll_67 : decode cX5_unroll 67 = .ok (.iaload, 1) := by decide +kernel
theorem dX5_unroll_68 : decode cX5_unroll 68 = .ok (.iastore, 1) := by decide +kernel
theorem dX5_unroll_69 : decode cX5_unroll 69 = .ok (.goto 17, 3) := by decide +kernel
theorem dX5_unroll_72 : decode cX5_unroll 72 = .ok (.aload_n 0, 1) := by decide +kernel
theorem dX5_unroll_73 : decode cX5_unroll 73 = .ok (.getfield 72, 3) := by decide +kernel
theorem dX5_unroll_76 : decode cX5_unroll 76 = .ok (.iload 5, 2) := by decide +kernel
theorem dX5_unroll_78 : decode cX5_unroll 78 = .ok (.aload_n 0, 1) := by decide +kernel
theorem dX5_unroll_79 : decode cX5_unroll 79 = .ok (.getfield 50, 3) := by decide +kernel
theorem dX5_unroll_82 : decode cX5_unroll 82 = .ok (.iload 4, 2) := by decide +kernel
theorem dX5_unroll_84 : decode cX5_unroll 84 = .ok (.iaload, 1) := by decide +kernel
theorem dX5_unroll_85 : decode cX5_unroll 85 = .ok (.iastore, 1) := by decide +kernel
theorem dX5_unroll_86 : decode cX5_unroll 86 = .ok (.aload_n 0, 1) := by decide +kernel
theorem dX5_unroll_87 : decode cX5_unroll 87 = .ok (.getfield 47, 3) := by decide +kernel
theorem dX5_unroll_90 : decode cX5_unroll 90 = .ok (.iload 4, 2) := by decide +kernel
theorem dX5_unroll_92 : decode cX5_unroll 92 = .ok (.iaload, 1) := by decide +kernel
theorem dX5_unroll_93 : decode cX5_unroll 93 = .ok (.istore 4, 2) := by decide +kernel
theorem dX5_unroll_95 : decode cX5_unroll 95 = .ok (.goto (-58), 3) := by decide +kernel
theorem dX5_unroll_98 : decode cX5_unroll 98 = .ok (.iload_n 3, 1) := by decide +kernel
theorem dX5_unroll_99 : decode cX5_unroll 99 = .ok (.ireturn, 1) := by decide +kernel
theorem dX5_startOf_0 : decode cX5_startOf 0 = .ok (.iload_n 1, 1) := by decide +kernel
theorem dX5_startOf_1 : decode cX5_startOf 1 = .ok (.istore_n 2, 1) := by decide +kernel
theorem dX5_startOf_2 : decode cX5_startOf 2 = .ok (.aload_n 0, 1) := by decide +kernel
theorem dX5_startOf_3 : decode cX5_startOf 3 = .ok (.getfield 47, 3) := by decide +kernel
theorem dX5_startOf_6 : decode cX5_startOf 6 = .ok (.iload_n 2, 1) := by decide +kernel
theorem dX5_startOf_7 : decode cX5_startOf 7 = .ok (.iaload, 1) := by decide +kernel
theorem dX5_startOf_8 : decode cX5_startOf 8 = .ok (.iconst (-1), 1) := by decide +kernel
theorem dX5_startOf_9 : decode cX5_startOf 9 = .ok (.if_icmp .eq 13, 3) := by decide +kernel
theorem dX5_startOf_12 : decode cX5_startOf 12 = .ok (.aload_n 0, 1) := by decide +kernel
theorem dX5_startOf_13 : decode cX5_startOf 13 = .ok (.getfield 47, 3) := by decide +kernel
theorem dX5_startOf_16 : decode cX5_startOf 16 = .ok (.iload_n 2, 1) := by decide +kernel
theorem dX5_startOf_17 : decode cX5_startOf 17 = .ok (.iaload, 1) := by decide +kernel
theorem dX5_startOf_18 : decode cX5_startOf 18 = .ok (.istore_n 2, 1) := by decide +kernel
theorem dX5_startOf_19 : decode cX5_startOf 19 = .ok (.goto (-17), 3) := by decide +kernel
theorem dX5_startOf_22 : decode cX5_startOf 22 = .ok (.aload_n 0, 1) := by decide +kernel
theorem dX5_startOf_23 : decode cX5_startOf 23 = .ok (.getfield 50, 3) := by decide +kernel
theorem dX5_startOf_26 : decode cX5_startOf 26 = .ok (.iload_n 2, 1) := by decide +kernel
theorem dX5_startOf_27 : decode cX5_startOf 27 = .ok (.iaload, 1) := by decide +kernel
theorem dX5_startOf_28 : decode cX5_startOf 28 = .ok (.ireturn, 1) := by decide +kernel
theorem dX5_compareRows_0 : decode cX5_compareRows 0 = .ok (.aload_n 0, 1) := by decide +kernel
theorem dX5_compareRows_1 : decode cX5_compareRows 1 = .ok (.iload_n 1, 1) := by decide +kernel
theorem dX5_compareRows_2 : decode cX5_compareRows 2 = .ok (.invokevirtual 119, 3) := by decide +kernel
theorem dX5_compareRows_5 : decode cX5_compareRows 5 = .ok (.istore_n 3, 1) := by decide +kernel
theorem dX5_compareRows_6 : decode cX5_compareRows 6 = .ok (.aload_n 0, 1) := by decide +kernel
theorem dX5_compareRows_7 : decode cX5_compareRows 7 = .ok (.iload_n 2, 1) := by decide +kernel
theorem dX5_compareRows_8 : decode cX5_compareRows 8 = .ok (.invokevirtual 119, 3) := by decide +kernel
theorem dX5_compareRows_11 : decode cX5_compareRows 11 = .ok (.istore 4, 2) := by decide +kernel
theorem dX5_compareRows_13 : decode cX5_compareRows 13 = .ok (.iload_n 3, 1) := by decide +kernel
theorem dX5_compareRows_14 : decode cX5_compareRows 14 = .ok (.iload 4, 2) := by decide +kernel
theorem dX5_compareRows_16 : decode cX5_compareRows 16 = .ok (.if_icmp .eq 15, 3) := by decide +kernel
theorem dX5_compareRows_19 : decode cX5_compareRows 19 = .ok (.iload_n 3, 1) := by decide +kernel
theorem dX5_compareRows_20 : decode cX5_compareRows 20 = .ok (.iload 4, 2) := by decide +kernel
theorem dX5_compareRows_22 : decode cX5_compareRows 22 = .ok (.if_icmp .ge 7, 3) := by decide +kernel
theorem dX5_compareRows_25 : decode cX5_compareRows 25 = .ok (.iconst (-1), 1) := by decide +kernel
theorem dX5_compareRows_26 : decode cX5_compareRows 26 = .ok (.goto 4, 3) := by decide +kernel
theorem dX5_compareRows_29 : decode cX5_compareRows 29 = .ok (.iconst 1, 1) := by decide +kernel
theorem dX5_compareRows_30 : decode cX5_compareRows 30 = .ok (.ireturn, 1) := by decide +kernel
theorem dX5_compareRows_31 : decode cX5_compareRows 31 = .ok (.aload_n 0, 1) := by decide +kernel
theorem dX5_compareRows_32 : decode cX5_compareRows 32 = .ok (.iload_n 1, 1) := by decide +kernel
theorem dX5_compareRows_33 : decode cX5_compareRows 33 = .ok (.iconst 1, 1) := by decide +kernel
theorem dX5_compareRows_34 : decode cX5_compareRows 34 = .ok (.invokevirtual 123, 3) := by decide +kernel
theorem dX5_compareRows_37 : decode cX5_compareRows 37 = .ok (.istore 5, 2) := by decide +kernel
theorem dX5_compareRows_39 : decode cX5_compareRows 39 = .ok (.aload_n 0, 1) := by decide +kernel
theorem dX5_compareRows_40 : decode cX5_compareRows 40 = .ok (.iload_n 2, 1) := by decide +kernel
theorem dX5_compareRows_41 : decode cX5_compareRows 41 = .ok (.iconst 0, 1) := by decide +kernel
theorem dX5_compareRows_42 : decode cX5_compareRows 42 = .ok (.invokevirtual 123, 3) := by decide +kernel
theorem dX5_compareRows_45 : decode cX5_compareRows 45 = .ok (.istore 6, 2) := by decide +kernel
theorem dX5_compareRows_47 : decode cX5_compareRows 47 = .ok (.iconst 0, 1) := by decide +kernel
theorem dX5_compareRows_48 : decode cX5_compareRows 48 = .ok (.istore 7, 2) := by decide +kernel
theorem dX5_compareRows_50 : decode cX5_compareRows 50 = .ok (.iload 7, 2) := by decide +kernel
theorem dX5_compareRows_52 : decode cX5_compareRows 52 = .ok (.iload 5, 2) := by decide +kernel
theorem dX5_compareRows_54 : decode cX5_compareRows 54 = .ok (.if_icmp .ge 56, 3) := by decide +kernel
theorem dX5_compareRows_57 : decode cX5_compareRows 57 = .ok (.iload 7, 2) := by decide +kernel
theorem dX5_compareRows_59 : decode cX5_compareRows 59 = .ok (.iload 6, 2) := by decide +kernel
theorem dX5_compareRows_61 : decode cX5_compareRows 61 = .ok (.if_icmp .ge 49, 3) := by decide +kernel
theorem dX5_compareRows_64 : decode cX5_compareRows 64 = .ok (.aload_n 0, 1) := by decide +kernel
theorem dX5_compareRows_65 : decode cX5_compareRows 65 = .ok (.getfield 69, 3) := by decide +kernel
theorem dX5_compareRows_68 : decode cX5_compareRows 68 = .ok (.iload 7, 2) := by decide +kernel
theorem dX5_compareRows_70 : decode cX5_compareRows 70 = .ok (.iaload, 1) := by decide +kernel
theorem dX5_compareRows_71 : decode cX5_compareRows 71 = .ok (.aload_n 0, 1) := by decide +kernel
theorem dX5_compareRows_72 : decode cX5_compareRows 72 = .ok (.getfield 72, 3) := by decide +kernel
theorem dX5_compareRows_75 : decode cX5_compareRows 75 = .ok (.iload 7, 2) := by decide +kernel
theorem dX5_compareRows_77 : decode cX5_compareRows 77 = .ok (.iaload, 1) := by decide +kernel
theorem dX5_compareRows_78 : decode cX5_compareRows 78 = .ok (.if_icmp .eq 26, 3) := by decide +kernel
theorem dX5_compareRows_81 : decode cX5_compareRows 81 = .ok (.aload_n 0, 1) := by decide +kernel
theorem dX5_compareRows_82 : decode cX5_compareRows 82 = .ok (.getfield 69, 3) := by decide +kernel
theorem dX5_compareRows_85 : decode cX5_compareRows 85 = .ok (.iload 7, 2) := by decide +kernel
theorem dX5_compareRows_87 : decode cX5_compareRows 87 = .ok (.iaload, 1) := by decide +kernel
theorem dX5_compareRows_88 : decode cX5_compareRows 88 = .ok (.aload_n 0, 1) := by decide +kernel
theorem dX5_compareRows_89 : decode cX5_compareRows 89 = .ok (.getfield 72, 3) := by decide +kernel
theorem dX5_compareRows_92 : decode cX5_compareRows 92 = .ok (.iload 7, 2) := by decide +kernel
theorem dX5_compareRows_94 : decode cX5_compareRows 94 = .ok (.iaload, 1) := by decide +kernel
theorem dX5_compareRows_95 : decode cX5_compareRows 95 = .ok (.if_icmp .ge 7, 3) := by decide +kernel
theorem dX5_compareRows_98 : decode cX5_compareRows 98 = .ok (.iconst (-1), 1) := by decide +kernel
theorem dX5_compareRows_99 : decode cX5_compareRows 99 = .ok (.goto 4, 3) := by decide +kernel
theorem dX5_compareRows_102 : decode cX5_compareRows 102 = .ok (.iconst 1, 1) := by decide +kernel
theorem dX5_compareRows_103 : decode cX5_compareRows 103 = .ok (.ireturn, 1) := by decide +kernel
theorem dX5_compareRows_104 : decode cX5_compareRows 104 = .ok (.iinc 7 1, 3) := by decide +kernel
theorem dX5_compareRows_107 : decode cX5_compareRows 107 = .ok (.goto (-57), 3) := by decide +kernel
theorem dX5_compareRows_110 : decode cX5_compareRows 110 = .ok (.iload 5, 2) := by decide +kernel
theorem dX5_compareRows_112 : decode cX5_compareRows 112 = .ok (.iload 6, 2) := by decide +kernel
theorem dX5_compareRows_114 : decode cX5_compareRows 114 = .ok (.if_icmp .ge 7, 3) := by decide +kernel
theorem dX5_compareRows_117 : decode cX5_compareRows 117 = .ok (.iconst (-1), 1) := by decide +kernel
theorem dX5_compareRows_118 : decode cX5_compareRows 118 = .ok (.goto 15, 3) := by decide +kernel
theorem dX5_compareRows_121 : decode cX5_compareRows 121 = .ok (.iload 5, 2) := by decide +kernel
theorem dX5_compareRows_123 : decode cX5_compareRows 123 = .ok (.iload 6, 2) := by decide +kernel
theorem dX5_compareRows_125 : decode cX5_compareRows 125 = .ok (.if_icmp .le 7, 3) := by decide +kernel
theorem dX5_compareRows_128 : decode cX5_compareRows 128 = .ok (.iconst 1, 1) := by decide +kernel
theorem dX5_compareRows_129 : decode cX5_compareRows 129 = .ok (.goto 4, 3) := by decide +kernel
theorem dX5_compareRows_132 : decode cX5_compareRows 132 = .ok (.iconst 0, 1) := by decide +kernel
theorem dX5_compareRows_133 : decode cX5_compareRows 133 = .ok (.ireturn, 1) := by decide +kernel
theorem dX5_come_0 : decode cX5_come 0 = .ok (.bipush 40, 2) := by decide +kernel
theorem dX5_come_2 : decode cX5_come 2 = .ok (.iload_n 1, 1) := by decide +kernel
theorem dX5_come_3 : decode cX5_come 3 = .ok (.imul, 1) := by decide +kernel
theorem dX5_come_4 : decode cX5_come 4 = .ok (.istore 7, 2) := by decide +kernel
theorem dX5_come_6 : decode cX5_come 6 = .ok (.aload_n 0, 1) := by decide +kernel
theorem dX5_come_7 : decode cX5_come 7 = .ok (.getfield 56, 3) := by decide +kernel
theorem dX5_come_10 : decode cX5_come 10 = .ok (.iload_n 1, 1) := by decide +kernel
theorem dX5_come_11 : decode cX5_come 11 = .ok (.iaload, 1) := by decide +kernel
theorem dX5_come_12 : decode cX5_come 12 = .ok (.istore 8, 2) := by decide +kernel
theorem dX5_come_14 : decode cX5_come 14 = .ok (.sipush 26400, 3) := by decide +kernel
theorem dX5_come_17 : decode cX5_come 17 = .ok (.istore 9, 2) := by decide +kernel
theorem dX5_come_19 : decode cX5_come 19 = .ok (.aload_n 0, 1) := by decide +kernel
theorem dX5_come_20 : decode cX5_come 20 = .ok (.getfield 47, 3) := by decide +kernel
theorem dX5_come_23 : decode cX5_come 23 = .ok (.iload 9, 2) := by decide +kernel
theorem dX5_come_25 : decode cX5_come 25 = .ok (.iload_n 3, 1) := by decide +kernel
theorem dX5_come_26 : decode cX5_come 26 = .ok (.iastore, 1) := by decide +kernel
theorem dX5_come_27 : decode cX5_come 27 = .ok (.aload_n 0, 1) := by decide +kernel
theorem dX5_come_28 : decode cX5_come 28 = .ok (.getfield 50, 3) := by decide +kernel
theorem dX5_come_31 : decode cX5_come 31 = .ok (.iload 9, 2) := by decide +kernel
theorem dX5_come_33 : decode cX5_come 33 = .ok (.iload 4, 2) := by decide +kernel
theorem dX5_come_35 : decode cX5_come 35 = .ok (.iastore, 1) := by decide +kernel
theorem dX5_come_36 : decode cX5_come 36 = .ok (.aload_n 0, 1) := by decide +kernel
theorem dX5_come_37 : decode cX5_come 37 = .ok (.getfield 53, 3) := by decide +kernel
theorem dX5_come_40 : decode cX5_come 40 = .ok (.iload 9, 2) := by decide +kernel
theorem dX5_come_42 : decode cX5_come 42 = .ok (.dload 5, 2) := by decide +kernel
theorem dX5_come_44 : decode cX5_come 44 = .ok (.dastore, 1) := by decide +kernel
theorem dX5_come_45 : decode cX5_come 45 = .ok (.iconst 0, 1) := by decide +kernel
theorem dX5_come_46 : decode cX5_come 46 = .ok (.istore 10, 2) := by decide +kernel
theorem dX5_come_48 : decode cX5_come 48 = .ok (.iload 10, 2) := by decide +kernel
theorem dX5_come_50 : decode cX5_come 50 = .ok (.iload 8, 2) := by decide +kernel
theorem dX5_come_52 : decode cX5_come 52 = .ok (.if_icmp .ge 55, 3) := by decide +kernel
theorem dX5_come_55 : decode cX5_come 55 = .ok (.aload_n 0, 1) := by decide +kernel
theorem dX5_come_56 : decode cX5_come 56 = .ok (.getfield 53, 3) := by decide +kernel
theorem dX5_come_59 : decode cX5_come 59 = .ok (.iload 7, 2) := by decide +kernel
theorem dX5_come_61 : decode cX5_come 61 = .ok (.iload 10, 2) := by decide +kernel
theorem dX5_come_63 : decode cX5_come 63 = .ok (.iadd, 1) := by decide +kernel
theorem dX5_come_64 : decode cX5_come 64 = .ok (.daload, 1) := by decide +kernel
theorem dX5_come_65 : decode cX5_come 65 = .ok (.dload 5, 2) := by decide +kernel
theorem dX5_come_67 : decode cX5_come 67 = .ok (.dcmp .l, 1) := by decide +kernel
theorem dX5_come_68 : decode cX5_come 68 = .ok (.ifCond .gt 33, 3) := by decide +kernel
theorem dX5_come_71 : decode cX5_come 71 = .ok (.aload_n 0, 1) := by decide +kernel
theorem dX5_come_72 : decode cX5_come 72 = .ok (.getfield 53, 3) := by decide +kernel
theorem dX5_come_75 : decode cX5_come 75 = .ok (.iload 7, 2) := by decide +kernel
theorem dX5_come_77 : decode cX5_come 77 = .ok (.iload 10, 2) := by decide +kernel
theorem dX5_come_79 : decode cX5_come 79 = .ok (.iadd, 1) := by decide +kernel
theorem dX5_come_80 : decode cX5_come 80 = .ok (.daload, 1) := by decide +kernel
theorem dX5_come_81 : decode cX5_come 81 = .ok (.dload 5, 2) := by decide +kernel
theorem dX5_come_83 : decode cX5_come 83 = .ok (.dcmp .l, 1) := by decide +kernel
theorem dX5_come_84 : decode cX5_come 84 = .ok (.ifCond .ne 23, 3) := by decide +kernel
theorem dX5_come_87 : decode cX5_come 87 = .ok (.aload_n 0, 1) := by decide +kernel
theorem dX5_come_88 : decode cX5_come 88 = .ok (.iload 7, 2) := by decide +kernel
theorem dX5_come_90 : decode cX5_come 90 = .ok (.iload 10, 2) := by decide +kernel
theorem dX5_come_92 : decode cX5_come 92 = .ok (.iadd, 1) := by decide +kernel
theorem dX5_come_93 : decode cX5_come 93 = .ok (.iload 9, 2) := by decide +kernel
theorem dX5_come_95 : decode cX5_come 95 = .ok (.invokevirtual 127, 3) := by decide +kernel
theorem dX5_come_98 : decode cX5_come 98 = .ok (.ifCond .ge 9, 3) := by decide +kernel
theorem dX5_come_101 : decode cX5_come 101 = .ok (.iinc 10 1, 3) := by decide +kernel
theorem dX5_come_104 : decode cX5_come 104 = .ok (.goto (-56), 3) := by decide +kernel
theorem dX5_come_107 : decode cX5_come 107 = .ok (.iload 10, 2) := by decide +kernel
theorem dX5_come_109 : decode cX5_come 109 = .ok (.iload_n 2, 1) := by decide +kernel
theorem dX5_come_110 : decode cX5_come 110 = .ok (.if_icmp .ne 4, 3) := by decide +kernel
theorem dX5_come_113 : decode cX5_come 113 = .ok (.return_, 1) := by decide +kernel
theorem dX5_come_114 : decode cX5_come 114 = .ok (.iload 8, 2) := by decide +kernel
theorem dX5_come_116 : decode cX5_come 116 = .ok (.iload_n 2, 1) := by decide +kernel
theorem dX5_come_117 : decode cX5_come 117 = .ok (.if_icmp .ge 8, 3) := by decide +kernel
theorem dX5_come_120 : decode cX5_come 120 = .ok (.iload 8, 2) := by decide +kernel
theorem dX5_come_122 : decode cX5_come 122 = .ok (.goto 6, 3) := by decide +kernel
theorem dX5_come_125 : decode cX5_come 125 = .ok (.iload_n 2, 1) := by decide +kernel
theorem dX5_come_126 : decode cX5_come 126 = .ok (.iconst 1, 1) := by decide +kernel
theorem dX5_come_127 : decode cX5_come 127 = .ok (.isub, 1) := by decide +kernel
theorem dX5_come_128 : decode cX5_come 128 = .ok (.istore 11, 2) := by decide +kernel
theorem dX5_come_130 : decode cX5_come 130 = .ok (.iload 11, 2) := by decide +kernel
theorem dX5_come_132 : decode cX5_come 132 = .ok (.istore 12, 2) := by decide +kernel
theorem dX5_come_134 : decode cX5_come 134 = .ok (.iload 12, 2) := by decide +kernel
theorem dX5_come_136 : decode cX5_come 136 = .ok (.iload 10, 2) := by decide +kernel
theorem dX5_come_138 : decode cX5_come 138 = .ok (.if_icmp .le 75, 3) := by decide +kernel
theorem dX5_come_141 : decode cX5_come 141 = .ok (.aload_n 0, 1) := by decide +kernel
theorem dX5_come_142 : decode cX5_come 142 = .ok (.getfield 47, 3) := by decide +kernel
theorem dX5_come_145 : decode cX5_come 145 = .ok (.iload 7, 2) := by decide +kernel
theorem dX5_come_147 : decode cX5_come 147 = .ok (.iload 12, 2) := by decide +kernel
theorem dX5_come_149 : decode cX5_come 149 = .ok (.iadd, 1) := by decide +kernel
theorem dX5_come_150 : decode cX5_come 150 = .ok (.aload_n 0, 1) := by decide +kernel
theorem dX5_come_151 : decode cX5_come 151 = .ok (.getfield 47, 3) := by decide +kernel
theorem dX5_come_154 : decode cX5_come 154 = .ok (.iload 7, 2) := by decide +kernel
theorem dX5_come_156 : decode cX5_come 156 = .ok (.iload 12, 2) := by decide +kernel
theorem dX5_come_158 : decode cX5_come 158 = .ok (.iadd, 1) := by decide +kernel
theorem dX5_come_159 : decode cX5_come 159 = .ok (.iconst 1, 1) := by decide +kernel
theorem dX5_come_160 : decode cX5_come 160 = .ok (.isub, 1) := by decide +kernel
theorem dX5_come_161 : decode cX5_come 161 = .ok (.iaload, 1) := by decide +kernel
theorem dX5_come_162 : decode cX5_come 162 = .ok (.iastore, 1) := by decide +kernel
theorem dX5_come_163 : decode cX5_come 163 = .ok (.aload_n 0, 1) := by decide +kernel
theorem dX5_come_164 : decode cX5_come 164 = .ok (.getfield 50, 3) := by decide +kernel
theorem dX5_come_167 : decode cX5_come 167 = .ok (.iload 7, 2) := by decide +kernel
theorem dX5_come_169 : decode cX5_come 169 = .ok (.iload 12, 2) := by decide +kernel
theorem dX5_come_171 : decode cX5_come 171 = .ok (.iadd, 1) := by decide +kernel
theorem dX5_come_172 : decode cX5_come 172 = .ok (.aload_n 0, 1) := by decide +kernel
theorem dX5_come_173 : decode cX5_come 173 = .ok (.getfield 50, 3) := by decide +kernel
theorem dX5_come_176 : decode cX5_come 176 = .ok (.iload 7, 2) := by decide +kernel
theorem dX5_come_178 : decode cX5_come 178 = .ok (.iload 12, 2) := by decide +kernel
theorem dX5_come_180 : decode cX5_come 180 = .ok (.iadd, 1) := by decide +kernel
theorem dX5_come_181 : decode cX5_come 181 = .ok (.iconst 1, 1) := by decide +kernel
theorem dX5_come_182 : decode cX5_come 182 = .ok (.isub, 1) := by decide +kernel
theorem dX5_come_183 : decode cX5_come 183 = .ok (.iaload, 1) := by decide +kernel
theorem dX5_come_184 : decode cX5_come 184 = .ok (.iastore, 1) := by decide +kernel
theorem dX5_come_185 : decode cX5_come 185 = .ok (.aload_n 0, 1) := by decide +kernel
theorem dX5_come_186 : decode cX5_come 186 = .ok (.getfield 53, 3) := by decide +kernel
theorem dX5_come_189 : decode cX5_come 189 = .ok (.iload 7, 2) := by decide +kernel
theorem dX5_come_191 : decode cX5_come 191 = .ok (.iload 12, 2) := by decide +kernel
theorem dX5_come_193 : decode cX5_come 193 = .ok (.iadd, 1) := by decide +kernel
theorem dX5_come_194 : decode cX5_come 194 = .ok (.aload_n 0, 1) := by decide +kernel
theorem dX5_come_195 : decode cX5_come 195 = .ok (.getfield 53, 3) := by decide +kernel
theorem dX5_come_198 : decode cX5_come 198 = .ok (.iload 7, 2) := by decide +kernel
theorem dX5_come_200 : decode cX5_come 200 = .ok (.iload 12, 2) := by decide +kernel
theorem dX5_come_202 : decode cX5_come 202 = .ok (.iadd, 1) := by decide +kernel
theorem dX5_come_203 : decode cX5_come 203 = .ok (.iconst 1, 1) := by decide +kernel
theorem dX5_come_204 : decode cX5_come 204 = .ok (.isub, 1) := by decide +kernel
theorem dX5_come_205 : decode cX5_come 205 = .ok (.daload, 1) := by decide +kernel
theorem dX5_come_206 : decode cX5_come 206 = .ok (.dastore, 1) := by decide +kernel
theorem dX5_come_207 : decode cX5_come 207 = .ok (.iinc 12 (-1), 3) := by decide +kernel
theorem dX5_come_210 : decode cX5_come 210 = .ok (.goto (-76), 3) := by decide +kernel
theorem dX5_come_213 : decode cX5_come 213 = .ok (.aload_n 0, 1) := by decide +kernel
theorem dX5_come_214 : decode cX5_come 214 = .ok (.getfield 47, 3) := by decide +kernel
theorem dX5_come_217 : decode cX5_come 217 = .ok (.iload 7, 2) := by decide +kernel
theorem dX5_come_219 : decode cX5_come 219 = .ok (.iload 10, 2) := by decide +kernel
theorem dX5_come_221 : decode cX5_come 221 = .ok (.iadd, 1) := by decide +kernel
theorem dX5_come_222 : decode cX5_come 222 = .ok (.iload_n 3, 1) := by decide +kernel
theorem dX5_come_223 : decode cX5_come 223 = .ok (.iastore, 1) := by decide +kernel
theorem dX5_come_224 : decode cX5_come 224 = .ok (.aload_n 0, 1) := by decide +kernel
theorem dX5_come_225 : decode cX5_come 225 = .ok (.getfield 50, 3) := by decide +kernel
theorem dX5_come_228 : decode cX5_come 228 = .ok (.iload 7, 2) := by decide +kernel
theorem dX5_come_230 : decode cX5_come 230 = .ok (.iload 10, 2) := by decide +kernel
theorem dX5_come_232 : decode cX5_come 232 = .ok (.iadd, 1) := by decide +kernel
theorem dX5_come_233 : decode cX5_come 233 = .ok (.iload 4, 2) := by decide +kernel
theorem dX5_come_235 : decode cX5_come 235 = .ok (.iastore, 1) := by decide +kernel
theorem dX5_come_236 : decode cX5_come 236 = .ok (.aload_n 0, 1) := by decide +kernel
theorem dX5_come_237 : decode cX5_come 237 = .ok (.getfield 53, 3) := by decide +kernel
theorem dX5_come_240 : decode cX5_come 240 = .ok (.iload 7, 2) := by decide +kernel
theorem dX5_come_242 : decode cX5_come 242 = .ok (.iload 10, 2) := by decide +kernel
theorem dX5_come_244 : decode cX5_come 244 = .ok (.iadd, 1) := by decide +kernel
theorem dX5_come_245 : decode cX5_come 245 = .ok (.dload 5, 2) := by decide +kernel
theorem dX5_come_247 : decode cX5_come 247 = .ok (.dastore, 1) := by decide +kernel
theorem dX5_come_248 : decode cX5_come 248 = .ok (.aload_n 0, 1) := by decide +kernel
theorem dX5_come_249 : decode cX5_come 249 = .ok (.getfield 56, 3) := by decide +kernel
theorem dX5_come_252 : decode cX5_come 252 = .ok (.iload_n 1, 1) := by decide +kernel
theorem dX5_come_253 : decode cX5_come 253 = .ok (.iload 11, 2) := by decide +kernel
theorem dX5_come_255 : decode cX5_come 255 = .ok (.iconst 1, 1) := by decide +kernel
theorem dX5_come_256 : decode cX5_come 256 = .ok (.iadd, 1) := by decide +kernel
theorem dX5_come_257 : decode cX5_come 257 = .ok (.iastore, 1) := by decide +kernel
theorem dX5_come_258 : decode cX5_come 258 = .ok (.return_, 1) := by decide +kernel
theorem dX5_arrange_0 : decode cX5_arrange 0 = .ok (.iconst 0, 1) := by decide +kernel
theorem dX5_arrange_1 : decode cX5_arrange 1 = .ok (.istore_n 1, 1) := by decide +kernel
theorem dX5_arrange_2 : decode cX5_arrange 2 = .ok (.iload_n 1, 1) := by decide +kernel
theorem dX5_arrange_3 : decode cX5_arrange 3 = .ok (.bipush 60, 2) := by decide +kernel
theorem dX5_arrange_5 : decode cX5_arrange 5 = .ok (.if_icmp .ge 16, 3) := by decide +kernel
theorem dX5_arrange_8 : decode cX5_arrange 8 = .ok (.aload_n 0, 1) := by decide +kernel
theorem dX5_arrange_9 : decode cX5_arrange 9 = .ok (.getfield 65, 3) := by decide +kernel
theorem dX5_arrange_12 : decode cX5_arrange 12 = .ok (.iload_n 1, 1) := by decide +kernel
theorem dX5_arrange_13 : decode cX5_arrange 13 = .ok (.iconst 0, 1) := by decide +kernel
theorem dX5_arrange_14 : decode cX5_arrange 14 = .ok (.bastore, 1) := by decide +kernel
theorem dX5_arrange_15 : decode cX5_arrange 15 = .ok (.iinc 1 1, 3) := by decide +kernel
theorem dX5_arrange_18 : decode cX5_arrange 18 = .ok (.goto (-16), 3) := by decide +kernel
theorem dX5_arrange_21 : decode cX5_arrange 21 = .ok (.iconst 0, 1) := by decide +kernel
theorem dX5_arrange_22 : decode cX5_arrange 22 = .ok (.istore_n 1, 1) := by decide +kernel
theorem dX5_arrange_23 : decode cX5_arrange 23 = .ok (.iload_n 1, 1) := by decide +kernel
theorem dX5_arrange_24 : decode cX5_arrange 24 = .ok (.aload_n 0, 1) := by decide +kernel
theorem dX5_arrange_25 : decode cX5_arrange 25 = .ok (.getfield 85, 3) := by decide +kernel
theorem dX5_arrange_28 : decode cX5_arrange 28 = .ok (.if_icmp .ge 115, 3) := by decide +kernel
theorem dX5_arrange_31 : decode cX5_arrange 31 = .ok (.iconst 0, 1) := by decide +kernel
theorem dX5_arrange_32 : decode cX5_arrange 32 = .ok (.istore_n 2, 1) := by decide +kernel
theorem dX5_arrange_33 : decode cX5_arrange 33 = .ok (.iconst 0, 1) := by decide +kernel
theorem dX5_arrange_34 : decode cX5_arrange 34 = .ok (.istore_n 3, 1) := by decide +kernel
theorem dX5_arrange_35 : decode cX5_arrange 35 = .ok (.iload_n 3, 1) := by decide +kernel
theorem dX5_arrange_36 : decode cX5_arrange 36 = .ok (.ifCond .ne 87, 3) := by decide +kernel
theorem dX5_arrange_39 : decode cX5_arrange 39 = .ok (.aload_n 0, 1) := by decide +kernel
theorem dX5_arrange_40 : decode cX5_arrange 40 = .ok (.getfield 65, 3) := by decide +kernel
theorem dX5_arrange_43 : decode cX5_arrange 43 = .ok (.iload_n 2, 1) := by decide +kernel
theorem dX5_arrange_44 : decode cX5_arrange 44 = .ok (.baload, 1) := by decide +kernel
theorem dX5_arrange_45 : decode cX5_arrange 45 = .ok (.ifCond .ne 7, 3) := by decide +kernel
theorem dX5_arrange_48 : decode cX5_arrange 48 = .ok (.iconst 1, 1) := by decide +kernel
theorem dX5_arrange_49 : decode cX5_arrange 49 = .ok (.goto 4, 3) := by decide +kernel
theorem dX5_arrange_52 : decode cX5_arrange 52 = .ok (.iconst 0, 1) := by decide +kernel
theorem dX5_arrange_53 : decode cX5_arrange 53 = .ok (.istore_n 3, 1) := by decide +kernel
theorem dX5_arrange_54 : decode cX5_arrange 54 = .ok (.iconst 0, 1) := by decide +kernel
theorem dX5_arrange_55 : decode cX5_arrange 55 = .ok (.istore 4, 2) := by decide +kernel
theorem dX5_arrange_57 : decode cX5_arrange 57 = .ok (.iload 4, 2) := by decide +kernel
theorem dX5_arrange_59 : decode cX5_arrange 59 = .ok (.aload_n 0, 1) := by decide +kernel
theorem dX5_arrange_60 : decode cX5_arrange 60 = .ok (.getfield 96, 3) := by decide +kernel
theorem dX5_arrange_63 : decode cX5_arrange 63 = .ok (.if_icmp .ge 45, 3) := by decide +kernel
theorem dX5_arrange_66 : decode cX5_arrange 66 = .ok (.iload_n 3, 1) := by decide +kernel
theorem dX5_arrange_67 : decode cX5_arrange 67 = .ok (.ifCond .eq 33, 3) := by decide +kernel
theorem dX5_arrange_70 : decode cX5_arrange 70 = .ok (.aload_n 0, 1) := by decide +kernel
theorem dX5_arrange_71 : decode cX5_arrange 71 = .ok (.getfield 16, 3) := by decide +kernel
theorem dX5_arrange_74 : decode cX5_arrange 74 = .ok (.iload 4, 2) := by decide +kernel
theorem dX5_arrange_76 : decode cX5_arrange 76 = .ok (.iaload, 1) := by decide +kernel
theorem dX5_arrange_77 : decode cX5_arrange 77 = .ok (.iload_n 2, 1) := by decide +kernel
theorem dX5_arrange_78 : decode cX5_arrange 78 = .ok (.if_icmp .ne 18, 3) := by decide +kernel
theorem dX5_arrange_81 : decode cX5_arrange 81 = .ok (.aload_n 0, 1) := by decide +kernel
theorem dX5_arrange_82 : decode cX5_arrange 82 = .ok (.getfield 65, 3) := by decide +kernel
theorem dX5_arrange_85 : decode cX5_arrange 85 = .ok (.aload_n 0, 1) := by decide +kernel
theorem dX5_arrange_86 : decode cX5_arrange 86 = .ok (.getfield 13, 3) := by decide +kernel
theorem dX5_arrange_89 : decode cX5_arrange 89 = .ok (.iload 4, 2) := by decide +kernel
theorem dX5_arrange_91 : decode cX5_arrange 91 = .ok (.iaload, 1) := by decide +kernel
theorem dX5_arrange_92 : decode cX5_arrange 92 = .ok (.baload, 1) := by decide +kernel
theorem dX5_arrange_93 : decode cX5_arrange 93 = .ok (.ifCond .eq 7, 3) := by decide +kernel
theorem dX5_arrange_96 : decode cX5_arrange 96 = .ok (.iconst 1, 1) := by decide +kernel
theorem dX5_arrange_97 : decode cX5_arrange 97 = .ok (.goto 4, 3) := by decide +kernel
theorem dX5_arrange_100 : decode cX5_arrange 100 = .ok (.iconst 0, 1) := by decide +kernel
theorem dX5_arrange_101 : decode cX5_arrange 101 = .ok (.istore_n 3, 1) := by decide +kernel
theorem dX5_arrange_102 : decode cX5_arrange 102 = .ok (.iinc 4 1, 3) := by decide +kernel
theorem dX5_arrange_105 : decode cX5_arrange 105 = .ok (.goto (-48), 3) := by decide +kernel
theorem dX5_arrange_108 : decode cX5_arrange 108 = .ok (.iload_n 2, 1) := by decide +kernel
theorem dX5_arrange_109 : decode cX5_arrange 109 = .ok (.iload_n 3, 1) := by decide +kernel
theorem dX5_arrange_110 : decode cX5_arrange 110 = .ok (.ifCond .eq 7, 3) := by decide +kernel
theorem dX5_arrange_113 : decode cX5_arrange 113 = .ok (.iconst 0, 1) := by decide +kernel
theorem dX5_arrange_114 : decode cX5_arrange 114 = .ok (.goto 4, 3) := by decide +kernel
theorem dX5_arrange_117 : decode cX5_arrange 117 = .ok (.iconst 1, 1) := by decide +kernel
theorem dX5_arrange_118 : decode cX5_arrange 118 = .ok (.iadd, 1) := by decide +kernel
theorem dX5_arrange_119 : decode cX5_arrange 119 = .ok (.istore_n 2, 1) := by decide +kernel
theorem dX5_arrange_120 : decode cX5_arrange 120 = .ok (.goto (-85), 3) := by decide +kernel
theorem dX5_arrange_123 : decode cX5_arrange 123 = .ok (.aload_n 0, 1) := by decide +kernel
theorem dX5_arrange_124 : decode cX5_arrange 124 = .ok (.getfield 65, 3) := by decide +kernel
theorem dX5_arrange_127 : decode cX5_arrange 127 = .ok (.iload_n 2, 1) := by decide +kernel
theorem dX5_arrange_128 : decode cX5_arrange 128 = .ok (.iconst 1, 1) := by decide +kernel
theorem dX5_arrange_129 : decode cX5_arrange 129 = .ok (.bastore, 1) := by decide +kernel
theorem dX5_arrange_130 : decode cX5_arrange 130 = .ok (.aload_n 0, 1) := by decide +kernel
theorem dX5_arrange_131 : decode cX5_arrange 131 = .ok (.getfield 75, 3) := by decide +kernel
theorem dX5_arrange_134 : decode cX5_arrange 134 = .ok (.iload_n 1, 1) := by decide +kernel
theorem dX5_arrange_135 : decode cX5_arrange 135 = .ok (.iload_n 2, 1) := by decide +kernel
theorem dX5_arrange_136 : decode cX5_arrange 136 = .ok (.iastore, 1) := by decide +kernel
theorem dX5_arrange_137 : decode cX5_arrange 137 = .ok (.iinc 1 1, 3) := by decide +kernel
theorem dX5_arrange_140 : decode cX5_arrange 140 = .ok (.goto (-117), 3) := by decide +kernel
theorem dX5_arrange_143 : decode cX5_arrange 143 = .ok (.return_, 1) := by decide +kernel
theorem dX5_gather_0 : decode cX5_gather 0 = .ok (.iconst 0, 1) := by decide +kernel
theorem dX5_gather_1 : decode cX5_gather 1 = .ok (.istore_n 2, 1) := by decide +kernel
theorem dX5_gather_2 : decode cX5_gather 2 = .ok (.iload_n 2, 1) := by decide +kernel
theorem dX5_gather_3 : decode cX5_gather 3 = .ok (.sipush 660, 3) := by decide +kernel
theorem dX5_gather_6 : decode cX5_gather 6 = .ok (.if_icmp .ge 16, 3) := by decide +kernel
theorem dX5_gather_9 : decode cX5_gather 9 = .ok (.aload_n 0, 1) := by decide +kernel
theorem dX5_gather_10 : decode cX5_gather 10 = .ok (.getfield 56, 3) := by decide +kernel
theorem dX5_gather_13 : decode cX5_gather 13 = .ok (.iload_n 2, 1) := by decide +kernel
theorem dX5_gather_14 : decode cX5_gather 14 = .ok (.iconst 0, 1) := by decide +kernel
theorem dX5_gather_15 : decode cX5_gather 15 = .ok (.iastore, 1) := by decide +kernel
theorem dX5_gather_16 : decode cX5_gather 16 = .ok (.iinc 2 1, 3) := by decide +kernel
theorem dX5_gather_19 : decode cX5_gather 19 = .ok (.goto (-17), 3) := by decide +kernel
theorem dX5_gather_22 : decode cX5_gather 22 = .ok (.aload_n 0, 1) := by decide +kernel
theorem dX5_gather_23 : decode cX5_gather 23 = .ok (.invokevirtual 131, 3) := by decide +kernel
theorem dX5_gather_26 : decode cX5_gather 26 = .ok (.iconst 0, 1) := by decide +kernel
theorem dX5_gather_27 : decode cX5_gather 27 = .ok (.istore_n 2, 1) := by decide +kernel
theorem dX5_gather_28 : decode cX5_gather 28 = .ok (.iload_n 2, 1) := by decide +kernel
theorem dX5_gather_29 : decode cX5_gather 29 = .ok (.aload_n 0, 1) := by decide +kernel
theorem dX5_gather_30 : decode cX5_gather 30 = .ok (.getfield 85, 3) := by decide +kernel
theorem dX5_gather_33 : decode cX5_gather 33 = .ok (.if_icmp .ge 200, 3) := by decide +kernel
theorem dX5_gather_36 : decode cX5_gather 36 = .ok (.aload_n 0, 1) := by decide +kernel
theorem dX5_gather_37 : decode cX5_gather 37 = .ok (.getfield 75, 3) := by decide +kernel
theorem dX5_gather_40 : decode cX5_gather 40 = .ok (.iload_n 2, 1) := by decide +kernel
theorem dX5_gather_41 : decode cX5_gather 41 = .ok (.iaload, 1) := by decide +kernel
theorem dX5_gather_42 : decode cX5_gather 42 = .ok (.istore_n 3, 1) := by decide +kernel
theorem dX5_gather_43 : decode cX5_gather 43 = .ok (.iconst 0, 1) := by decide +kernel
theorem dX5_gather_44 : decode cX5_gather 44 = .ok (.istore 4, 2) := by decide +kernel
theorem dX5_gather_46 : decode cX5_gather 46 = .ok (.iload 4, 2) := by decide +kernel
theorem dX5_gather_48 : decode cX5_gather 48 = .ok (.aload_n 0, 1) := by decide +kernel
theorem dX5_gather_49 : decode cX5_gather 49 = .ok (.getfield 116, 3) := by decide +kernel
theorem dX5_gather_52 : decode cX5_gather 52 = .ok (.if_icmp .ge 46, 3) := by decide +kernel
theorem dX5_gather_55 : decode cX5_gather 55 = .ok (.aload_n 0, 1) := by decide +kernel
theorem dX5_gather_56 : decode cX5_gather 56 = .ok (.getfield 23, 3) := by decide +kernel
theorem dX5_gather_59 : decode cX5_gather 59 = .ok (.iload 4, 2) := by decide +kernel
theorem dX5_gather_61 : decode cX5_gather 61 = .ok (.iaload, 1) := by decide +kernel
theorem dX5_gather_62 : decode cX5_gather 62 = .ok (.iload_n 3, 1) := by decide +kernel
theorem dX5_gather_63 : decode cX5_gather 63 = .ok (.if_icmp .ne 29, 3) := by decide +kernel
theorem dX5_gather_66 : decode cX5_gather 66 = .ok (.aload_n 0, 1) := by decide +kernel
theorem dX5_gather_67 : decode cX5_gather 67 = .ok (.bipush 11, 2) := by decide +kernel
theorem dX5_gather_69 : decode cX5_gather 69 = .ok (.iload_n 3, 1) := by decide +kernel
theorem dX5_gather_70 : decode cX5_gather 70 = .ok (.imul, 1) := by decide +kernel
theorem dX5_gather_71 : decode cX5_gather 71 = .ok (.aload_n 0, 1) := by decide +kernel
theorem dX5_gather_72 : decode cX5_gather 72 = .ok (.iload_n 3, 1) := by decide +kernel
theorem dX5_gather_73 : decode cX5_gather 73 = .ok (.iconst 0, 1) := by decide +kernel
theorem dX5_gather_74 : decode cX5_gather 74 = .ok (.invokevirtual 134, 3) := by decide +kernel
theorem dX5_gather_77 : decode cX5_gather 77 = .ok (.iadd, 1) := by decide +kernel
theorem dX5_gather_78 : decode cX5_gather 78 = .ok (.iload_n 1, 1) := by decide +kernel
theorem dX5_gather_79 : decode cX5_gather 79 = .ok (.iconst (-1), 1) := by decide +kernel
theorem dX5_gather_80 : decode cX5_gather 80 = .ok (.iload 4, 2) := by decide +kernel
theorem dX5_gather_82 : decode cX5_gather 82 = .ok (.aload_n 0, 1) := by decide +kernel
theorem dX5_gather_83 : decode cX5_gather 83 = .ok (.getfield 26, 3) := by decide +kernel
theorem dX5_gather_86 : decode cX5_gather 86 = .ok (.iload 4, 2) := by decide +kernel
theorem dX5_gather_88 : decode cX5_gather 88 = .ok (.daload, 1) := by decide +kernel
theorem dX5_gather_89 : decode cX5_gather 89 = .ok (.invokevirtual 137, 3) := by decide +kernel
theorem dX5_gather_92 : decode cX5_gather 92 = .ok (.iinc 4 1, 3) := by decide +kernel
theorem dX5_gather_95 : decode cX5_gather 95 = .ok (.goto (-49), 3) := by decide +kernel
theorem dX5_gather_98 : decode cX5_gather 98 = .ok (.iconst 0, 1) := by decide +kernel
theorem dX5_gather_99 : decode cX5_gather 99 = .ok (.istore 4, 2) := by decide +kernel
theorem dX5_gather_101 : decode cX5_gather 101 = .ok (.iload 4, 2) := by decide +kernel
theorem dX5_gather_103 : decode cX5_gather 103 = .ok (.aload_n 0, 1) := by decide +kernel
theorem dX5_gather_104 : decode cX5_gather 104 = .ok (.getfield 96, 3) := by decide +kernel
theorem dX5_gather_107 : decode cX5_gather 107 = .ok (.if_icmp .ge 120, 3) := by decide +kernel
theorem dX5_gather_110 : decode cX5_gather 110 = .ok (.iconst 0, 1) := by decide +kernel
theorem dX5_gather_111 : decode cX5_gather 111 = .ok (.istore 5, 2) := by decide +kernel
theorem dX5_gather_113 : decode cX5_gather 113 = .ok (.iload 5, 2) := by decide +kernel
theorem dX5_gather_115 : decode cX5_gather 115 = .ok (.bipush 10, 2) := by decide +kernel
theorem dX5_gather_117 : decode cX5_gather 117 = .ok (.if_icmp .gt 104, 3) := by decide +kernel
theorem dX5_gather_120 : decode cX5_gather 120 = .ok (.aload_n 0, 1) := by decide +kernel
theorem dX5_gather_121 : decode cX5_gather 121 = .ok (.getfield 16, 3) := by decide +kernel
theorem dX5_gather_124 : decode cX5_gather 124 = .ok (.iload 4, 2) := by decide +kernel
theorem dX5_gather_126 : decode cX5_gather 126 = .ok (.iaload, 1) := by decide +kernel
theorem dX5_gather_127 : decode cX5_gather 127 = .ok (.iload_n 3, 1) := by decide +kernel
theorem dX5_gather_128 : decode cX5_gather 128 = .ok (.if_icmp .ne 93, 3) := by decide +kernel
theorem dX5_gather_131 : decode cX5_gather 131 = .ok (.bipush 11, 2) := by decide +kernel
theorem dX5_gather_133 : decode cX5_gather 133 = .ok (.aload_n 0, 1) := by decide +kernel
theorem dX5_gather_134 : decode cX5_gather 134 = .ok (.getfield 13, 3) := by decide +kernel
theorem dX5_gather_137 : decode cX5_gather 137 = .ok (.iload 4, 2) := by decide +kernel
theorem dX5_gather_139 : decode cX5_gather 139 = .ok (.iaload, 1) := by decide +kernel
theorem dX5_gather_140 : decode cX5_gather 140 = .ok (.imul, 1) := by decide +kernel
theorem dX5_gather_141 : decode cX5_gather 141 = .ok (.iload 5, 2) := by decide +kernel
theorem dX5_gather_143 : decode cX5_gather 143 = .ok (.iadd, 1) := by decide +kernel
theorem dX5_gather_144 : decode cX5_gather 144 = .ok (.istore 6, 2) := by decide +kernel
theorem dX5_gather_146 : decode cX5_gather 146 = .ok (.iconst 0, 1) := by decide +kernel
theorem dX5_gather_147 : decode cX5_gather 147 = .ok (.istore 7, 2) := by decide +kernel
theorem dX5_gather_149 : decode cX5_gather 149 = .ok (.iload 7, 2) := by decide +kernel
theorem dX5_gather_151 : decode cX5_gather 151 = .ok (.aload_n 0, 1) := by decide +kernel
theorem dX5_gather_152 : decode cX5_gather 152 = .ok (.getfield 56, 3) := by decide +kernel
theorem dX5_gather_155 : decode cX5_gather 155 = .ok (.iload 6, 2) := by decide +kernel
theorem dX5_gather_157 : decode cX5_gather 157 = .ok (.iaload, 1) := by decide +kernel
theorem dX5_gather_158 : decode cX5_gather 158 = .ok (.if_icmp .ge 57, 3) := by decide +kernel
theorem dX5_gather_161 : decode cX5_gather 161 = .ok (.aload_n 0, 1) := by decide +kernel
theorem dX5_gather_162 : decode cX5_gather 162 = .ok (.bipush 11, 2) := by decide +kernel
theorem dX5_gather_164 : decode cX5_gather 164 = .ok (.iload_n 3, 1) := by decide +kernel
theorem dX5_gather_165 : decode cX5_gather 165 = .ok (.imul, 1) := by decide +kernel
theorem dX5_gather_166 : decode cX5_gather 166 = .ok (.aload_n 0, 1) := by decide +kernel
theorem dX5_gather_167 : decode cX5_gather 167 = .ok (.iload_n 3, 1) := by decide +kernel
theorem dX5_gather_168 : decode cX5_gather 168 = .ok (.iload 5, 2) := by decide +kernel
theorem dX5_gather_170 : decode cX5_gather 170 = .ok (.invokevirtual 134, 3) := by decide +kernel
theorem dX5_gather_173 : decode cX5_gather 173 = .ok (.iadd, 1) := by decide +kernel
theorem dX5_gather_174 : decode cX5_gather 174 = .ok (.iload_n 1, 1) := by decide +kernel
theorem dX5_gather_175 : decode cX5_gather 175 = .ok (.bipush 40, 2) := by decide +kernel
theorem dX5_gather_177 : decode cX5_gather 177 = .ok (.iload 6, 2) := by decide +kernel
theorem dX5_gather_179 : decode cX5_gather 179 = .ok (.imul, 1) := by decide +kernel
theorem dX5_gather_180 : decode cX5_gather 180 = .ok (.iload 7, 2) := by decide +kernel
theorem dX5_gather_182 : decode cX5_gather 182 = .ok (.iadd, 1) := by decide +kernel
theorem dX5_gather_183 : decode cX5_gather 183 = .ok (.iload 4, 2) := by decide +kernel
theorem dX5_gather_185 : decode cX5_gather 185 = .ok (.aload_n 0, 1) := by decide +kernel
theorem dX5_gather_186 : decode cX5_gather 186 = .ok (.getfield 53, 3) := by decide +kernel
theorem dX5_gather_189 : decode cX5_gather 189 = .ok (.bipush 40, 2) := by decide +kernel
theorem dX5_gather_191 : decode cX5_gather 191 = .ok (.iload 6, 2) := by decide +kernel
theorem dX5_gather_193 : decode cX5_gather 193 = .ok (.imul, 1) := by decide +kernel
theorem dX5_gather_194 : decode cX5_gather 194 = .ok (.iload 7, 2) := by decide +kernel
theorem dX5_gather_196 : decode cX5_gather 196 = .ok (.iadd, 1) := by decide +kernel
theorem dX5_gather_197 : decode cX5_gather 197 = .ok (.daload, 1) := by decide +kernel
theorem dX5_gather_198 : decode cX5_gather 198 = .ok (.aload_n 0, 1) := by decide +kernel
theorem dX5_gather_199 : decode cX5_gather 199 = .ok (.getfield 19, 3) := by decide +kernel
theorem dX5_gather_202 : decode cX5_gather 202 = .ok (.iload 4, 2) := by decide +kernel
theorem dX5_gather_204 : decode cX5_gather 204 = .ok (.daload, 1) := by decide +kernel
theorem dX5_gather_205 : decode cX5_gather 205 = .ok (.dadd, 1) := by decide +kernel
theorem dX5_gather_206 : decode cX5_gather 206 = .ok (.invokevirtual 137, 3) := by decide +kernel
theorem dX5_gather_209 : decode cX5_gather 209 = .ok (.iinc 7 1, 3) := by decide +kernel
theorem dX5_gather_212 : decode cX5_gather 212 = .ok (.goto (-63), 3) := by decide +kernel
theorem dX5_gather_215 : decode cX5_gather 215 = .ok (.iinc 5 1, 3) := by decide +kernel
theorem dX5_gather_218 : decode cX5_gather 218 = .ok (.goto (-105), 3) := by decide +kernel
theorem dX5_gather_221 : decode cX5_gather 221 = .ok (.iinc 4 1, 3) := by decide +kernel
theorem dX5_gather_224 : decode cX5_gather 224 = .ok (.goto (-123), 3) := by decide +kernel
theorem dX5_gather_227 : decode cX5_gather 227 = .ok (.iinc 2 1, 3) := by decide +kernel
theorem dX5_gather_230 : decode cX5_gather 230 = .ok (.goto (-202), 3) := by decide +kernel
theorem dX5_gather_233 : decode cX5_gather 233 = .ok (.return_, 1) := by decide +kernel
theorem dX5_slackOf_0 : decode cX5_slackOf 0 = .ok (.aload_n 0, 1) := by decide +kernel
theorem dX5_slackOf_1 : decode cX5_slackOf 1 = .ok (.getfield 32, 3) := by decide +kernel
theorem dX5_slackOf_4 : decode cX5_slackOf 4 = .ok (.aload_n 0, 1) := by decide +kernel
theorem dX5_slackOf_5 : decode cX5_slackOf 5 = .ok (.getfield 62, 3) := by decide +kernel
theorem dX5_slackOf_8 : decode cX5_slackOf 8 = .ok (.iload_n 1, 1) := by decide +kernel
theorem dX5_slackOf_9 : decode cX5_slackOf 9 = .ok (.iaload, 1) := by decide +kernel
theorem dX5_slackOf_10 : decode cX5_slackOf 10 = .ok (.daload, 1) := by decide +kernel
theorem dX5_slackOf_11 : decode cX5_slackOf 11 = .ok (.aload_n 0, 1) := by decide +kernel
theorem dX5_slackOf_12 : decode cX5_slackOf 12 = .ok (.getfield 53, 3) := by decide +kernel
theorem dX5_slackOf_15 : decode cX5_slackOf 15 = .ok (.aload_n 0, 1) := by decide +kernel
theorem dX5_slackOf_16 : decode cX5_slackOf 16 = .ok (.getfield 59, 3) := by decide +kernel
theorem dX5_slackOf_19 : decode cX5_slackOf 19 = .ok (.iload_n 1, 1) := by decide +kernel
theorem dX5_slackOf_20 : decode cX5_slackOf 20 = .ok (.iaload, 1) := by decide +kernel
theorem dX5_slackOf_21 : decode cX5_slackOf 21 = .ok (.daload, 1) := by decide +kernel
theorem dX5_slackOf_22 : decode cX5_slackOf 22 = .ok (.dsub, 1) := by decide +kernel
theorem dX5_slackOf_23 : decode cX5_slackOf 23 = .ok (.dreturn, 1) := by decide +kernel
theorem dX5_isBefore_0 : decode cX5_isBefore 0 = .ok (.aload_n 0, 1) := by decide +kernel
theorem dX5_isBefore_1 : decode cX5_isBefore 1 = .ok (.iload_n 1, 1) := by decide +kernel
theorem dX5_isBefore_2 : decode cX5_isBefore 2 = .ok (.invokevirtual 141, 3) := by decide +kernel
theorem dX5_isBefore_5 : decode cX5_isBefore 5 = .ok (.dstore_n 3, 1) := by decide +kernel
theorem dX5_isBefore_6 : decode cX5_isBefore 6 = .ok (.aload_n 0, 1) := by decide +kernel
theorem dX5_isBefore_7 : decode cX5_isBefore 7 = .ok (.iload_n 2, 1) := by decide +kernel
theorem dX5_isBefore_8 : decode cX5_isBefore 8 = .ok (.invokevirtual 141, 3) := by decide +kernel
theorem dX5_isBefore_11 : decode cX5_isBefore 11 = .ok (.dstore 5, 2) := by decide +kernel
theorem dX5_isBefore_13 : decode cX5_isBefore 13 = .ok (.dload_n 3, 1) := by decide +kernel
theorem dX5_isBefore_14 : decode cX5_isBefore 14 = .ok (.dload 5, 2) := by decide +kernel
theorem dX5_isBefore_16 : decode cX5_isBefore 16 = .ok (.dcmp .l, 1) := by decide +kernel
theorem dX5_isBefore_17 : decode cX5_isBefore 17 = .ok (.ifCond .eq 16, 3) := by decide +kernel
theorem dX5_isBefore_20 : decode cX5_isBefore 20 = .ok (.dload_n 3, 1) := by decide +kernel
theorem dX5_isBefore_21 : decode cX5_isBefore 21 = .ok (.dload 5, 2) := by decide +kernel
theorem dX5_isBefore_23 : decode cX5_isBefore 23 = .ok (.dcmp .g, 1) := by decide +kernel
theorem dX5_isBefore_24 : decode cX5_isBefore 24 = .ok (.ifCond .ge 7, 3) := by decide +kernel
theorem dX5_isBefore_27 : decode cX5_isBefore 27 = .ok (.iconst 1, 1) := by decide +kernel
theorem dX5_isBefore_28 : decode cX5_isBefore 28 = .ok (.goto 4, 3) := by decide +kernel
theorem dX5_isBefore_31 : decode cX5_isBefore 31 = .ok (.iconst 0, 1) := by decide +kernel
theorem dX5_isBefore_32 : decode cX5_isBefore 32 = .ok (.ireturn, 1) := by decide +kernel
theorem dX5_isBefore_33 : decode cX5_isBefore 33 = .ok (.aload_n 0, 1) := by decide +kernel
theorem dX5_isBefore_34 : decode cX5_isBefore 34 = .ok (.aload_n 0, 1) := by decide +kernel
theorem dX5_isBefore_35 : decode cX5_isBefore 35 = .ok (.getfield 59, 3) := by decide +kernel
theorem dX5_isBefore_38 : decode cX5_isBefore 38 = .ok (.iload_n 1, 1) := by decide +kernel
theorem dX5_isBefore_39 : decode cX5_isBefore 39 = .ok (.iaload, 1) := by decide +kernel
theorem dX5_isBefore_40 : decode cX5_isBefore 40 = .ok (.aload_n 0, 1) := by decide +kernel
theorem dX5_isBefore_41 : decode cX5_isBefore 41 = .ok (.getfield 59, 3) := by decide +kernel
theorem dX5_isBefore_44 : decode cX5_isBefore 44 = .ok (.iload_n 2, 1) := by decide +kernel
theorem dX5_isBefore_45 : decode cX5_isBefore 45 = .ok (.iaload, 1) := by decide +kernel
theorem dX5_isBefore_46 : decode cX5_isBefore 46 = .ok (.invokevirtual 127, 3) := by decide +kernel
theorem dX5_isBefore_49 : decode cX5_isBefore 49 = .ok (.istore 7, 2) := by decide +kernel
theorem dX5_isBefore_51 : decode cX5_isBefore 51 = .ok (.iload 7, 2) := by decide +kernel
theorem dX5_isBefore_53 : decode cX5_isBefore 53 = .ok (.ifCond .lt 23, 3) := by decide +kernel
theorem dX5_isBefore_56 : decode cX5_isBefore 56 = .ok (.iload 7, 2) := by decide +kernel
theorem dX5_isBefore_58 : decode cX5_isBefore 58 = .ok (.ifCond .ne 22, 3) := by decide +kernel
theorem dX5_isBefore_61 : decode cX5_isBefore 61 = .ok (.aload_n 0, 1) := by decide +kernel
theorem dX5_isBefore_62 : decode cX5_isBefore 62 = .ok (.getfield 62, 3) := by decide +kernel
theorem dX5_isBefore_65 : decode cX5_isBefore 65 = .ok (.iload_n 1, 1) := by decide +kernel
theorem dX5_isBefore_66 : decode cX5_isBefore 66 = .ok (.iaload, 1) := by decide +kernel
theorem dX5_isBefore_67 : decode cX5_isBefore 67 = .ok (.aload_n 0, 1) := by decide +kernel
theorem dX5_isBefore_68 : decode cX5_isBefore 68 = .ok (.getfield 62, 3) := by decide +kernel
theorem dX5_isBefore_71 : decode cX5_isBefore 71 = .ok (.iload_n 2, 1) := by decide +kernel
theorem dX5_isBefore_72 : decode cX5_isBefore 72 = .ok (.iaload, 1) := by decide +kernel
theorem dX5_isBefore_73 : decode cX5_isBefore 73 = .ok (.if_icmp .ge 7, 3) := by decide +kernel
theorem dX5_isBefore_76 : decode cX5_isBefore 76 = .ok (.iconst 1, 1) := by decide +kernel
theorem dX5_isBefore_77 : decode cX5_isBefore 77 = .ok (.goto 4, 3) := by decide +kernel
theorem dX5_isBefore_80 : decode cX5_isBefore 80 = .ok (.iconst 0, 1) := by decide +kernel
theorem dX5_isBefore_81 : decode cX5_isBefore 81 = .ok (.ireturn, 1) := by decide +kernel
theorem dX5_enlist_0 : decode cX5_enlist 0 = .ok (.aload_n 0, 1) := by decide +kernel
theorem dX5_enlist_1 : decode cX5_enlist 1 = .ok (.getfield 59, 3) := by decide +kernel
theorem dX5_enlist_4 : decode cX5_enlist 4 = .ok (.aload_n 0, 1) := by decide +kernel
theorem dX5_enlist_5 : decode cX5_enlist 5 = .ok (.getfield 145, 3) := by decide +kernel
theorem dX5_enlist_8 : decode cX5_enlist 8 = .ok (.iload_n 3, 1) := by decide +kernel
theorem dX5_enlist_9 : decode cX5_enlist 9 = .ok (.iastore, 1) := by decide +kernel
theorem dX5_enlist_10 : decode cX5_enlist 10 = .ok (.aload_n 0, 1) := by decide +kernel
theorem dX5_enlist_11 : decode cX5_enlist 11 = .ok (.getfield 62, 3) := by decide +kernel
theorem dX5_enlist_14 : decode cX5_enlist 14 = .ok (.aload_n 0, 1) := by decide +kernel
theorem dX5_enlist_15 : decode cX5_enlist 15 = .ok (.getfield 145, 3) := by decide +kernel
theorem dX5_enlist_18 : decode cX5_enlist 18 = .ok (.iload 4, 2) := by decide +kernel
theorem dX5_enlist_20 : decode cX5_enlist 20 = .ok (.iastore, 1) := by decide +kernel
theorem dX5_enlist_21 : decode cX5_enlist 21 = .ok (.aload_n 0, 1) := by decide +kernel
theorem dX5_enlist_22 : decode cX5_enlist 22 = .ok (.getfield 145, 3) := by decide +kernel
theorem dX5_enlist_25 : decode cX5_enlist 25 = .ok (.istore 5, 2) := by decide +kernel
theorem dX5_enlist_27 : decode cX5_enlist 27 = .ok (.iload 5, 2) := by decide +kernel
theorem dX5_enlist_29 : decode cX5_enlist 29 = .ok (.iload_n 1, 1) := by decide +kernel
theorem dX5_enlist_30 : decode cX5_enlist 30 = .ok (.if_icmp .le 94, 3) := by decide +kernel
theorem dX5_enlist_33 : decode cX5_enlist 33 = .ok (.aload_n 0, 1) := by decide +kernel
theorem dX5_enlist_34 : decode cX5_enlist 34 = .ok (.iload 5, 2) := by decide +kernel
theorem dX5_enlist_36 : decode cX5_enlist 36 = .ok (.iload 5, 2) := by decide +kernel
theorem dX5_enlist_38 : decode cX5_enlist 38 = .ok (.iconst 1, 1) := by decide +kernel
theorem dX5_enlist_39 : decode cX5_enlist 39 = .ok (.isub, 1) := by decide +kernel
theorem dX5_enlist_40 : decode cX5_enlist 40 = .ok (.invokevirtual 148, 3) := by decide +kernel
theorem dX5_enlist_43 : decode cX5_enlist 43 = .ok (.ifCond .eq 81, 3) := by decide +kernel
theorem dX5_enlist_46 : decode cX5_enlist 46 = .ok (.aload_n 0, 1) := by decide +kernel
theorem dX5_enlist_47 : decode cX5_enlist 47 = .ok (.getfield 59, 3) := by decide +kernel
theorem dX5_enlist_50 : decode cX5_enlist 50 = .ok (.iload 5, 2) := by decide +kernel
theorem dX5_enlist_52 : decode cX5_enlist 52 = .ok (.iaload, 1) := by decide +kernel
theorem dX5_enlist_53 : decode cX5_enlist 53 = .ok (.istore 6, 2) := by decide +kernel
theorem dX5_enlist_55 : decode cX5_enlist 55 = .ok (.aload_n 0, 1) := by decide +kernel
theorem dX5_enlist_56 : decode cX5_enlist 56 = .ok (.getfield 62, 3) := by decide +kernel
theorem dX5_enlist_59 : decode cX5_enlist 59 = .ok (.iload 5, 2) := by decide +kernel
theorem dX5_enlist_61 : decode cX5_enlist 61 = .ok (.iaload, 1) := by decide +kernel
theorem dX5_enlist_62 : decode cX5_enlist 62 = .ok (.istore 7, 2) := by decide +kernel
theorem dX5_enlist_64 : decode cX5_enlist 64 = .ok (.aload_n 0, 1) := by decide +kernel
theorem dX5_enlist_65 : decode cX5_enlist 65 = .ok (.getfield 59, 3) := by decide +kernel
theorem dX5_enlist_68 : decode cX5_enlist 68 = .ok (.iload 5, 2) := by decide +kernel
theorem dX5_enlist_70 : decode cX5_enlist 70 = .ok (.aload_n 0, 1) := by decide +kernel
theorem dX5_enlist_71 : decode cX5_enlist 71 = .ok (.getfield 59, 3) := by decide +kernel
theorem dX5_enlist_74 : decode cX5_enlist 74 = .ok (.iload 5, 2) := by decide +kernel
theorem dX5_enlist_76 : decode cX5_enlist 76 = .ok (.iconst 1, 1) := by decide +kernel
theorem dX5_enlist_77 : decode cX5_enlist 77 = .ok (.isub, 1) := by decide +kernel
theorem dX5_enlist_78 : decode cX5_enlist 78 = .ok (.iaload, 1) := by decide +kernel
theorem dX5_enlist_79 : decode cX5_enlist 79 = .ok (.iastore, 1) := by decide +kernel
theorem dX5_enlist_80 : decode cX5_enlist 80 = .ok (.aload_n 0, 1) := by decide +kernel
theorem dX5_enlist_81 : decode cX5_enlist 81 = .ok (.getfield 62, 3) := by decide +kernel
theorem dX5_enlist_84 : decode cX5_enlist 84 = .ok (.iload 5, 2) := by decide +kernel
theorem dX5_enlist_86 : decode cX5_enlist 86 = .ok (.aload_n 0, 1) := by decide +kernel
theorem dX5_enlist_87 : decode cX5_enlist 87 = .ok (.getfield 62, 3) := by decide +kernel
theorem dX5_enlist_90 : decode cX5_enlist 90 = .ok (.iload 5, 2) := by decide +kernel
theorem dX5_enlist_92 : decode cX5_enlist 92 = .ok (.iconst 1, 1) := by decide +kernel
theorem dX5_enlist_93 : decode cX5_enlist 93 = .ok (.isub, 1) := by decide +kernel
theorem dX5_enlist_94 : decode cX5_enlist 94 = .ok (.iaload, 1) := by decide +kernel
theorem dX5_enlist_95 : decode cX5_enlist 95 = .ok (.iastore, 1) := by decide +kernel
theorem dX5_enlist_96 : decode cX5_enlist 96 = .ok (.aload_n 0, 1) := by decide +kernel
theorem dX5_enlist_97 : decode cX5_enlist 97 = .ok (.getfield 59, 3) := by decide +kernel
theorem dX5_enlist_100 : decode cX5_enlist 100 = .ok (.iload 5, 2) := by decide +kernel
theorem dX5_enlist_102 : decode cX5_enlist 102 = .ok (.iconst 1, 1) := by decide +kernel
theorem dX5_enlist_103 : decode cX5_enlist 103 = .ok (.isub, 1) := by decide +kernel
theorem dX5_enlist_104 : decode cX5_enlist 104 = .ok (.iload 6, 2) := by decide +kernel
theorem dX5_enlist_106 : decode cX5_enlist 106 = .ok (.iastore, 1) := by decide +kernel
theorem dX5_enlist_107 : decode cX5_enlist 107 = .ok (.aload_n 0, 1) := by decide +kernel
theorem dX5_enlist_108 : decode cX5_enlist 108 = .ok (.getfield 62, 3) := by decide +kernel
theorem dX5_enlist_111 : decode cX5_enlist 111 = .ok (.iload 5, 2) := by decide +kernel
theorem dX5_enlist_113 : decode cX5_enlist 113 = .ok (.iconst 1, 1) := by decide +kernel
theorem dX5_enlist_114 : decode cX5_enlist 114 = .ok (.isub, 1) := by decide +kernel
theorem dX5_enlist_115 : decode cX5_enlist 115 = .ok (.iload 7, 2) := by decide +kernel
theorem dX5_enlist_117 : decode cX5_enlist 117 = .ok (.iastore, 1) := by decide +kernel
theorem dX5_enlist_118 : decode cX5_enlist 118 = .ok (.iinc 5 (-1), 3) := by decide +kernel
theorem dX5_enlist_121 : decode cX5_enlist 121 = .ok (.goto (-94), 3) := by decide +kernel
theorem dX5_enlist_124 : decode cX5_enlist 124 = .ok (.aload_n 0, 1) := by decide +kernel
theorem dX5_enlist_125 : decode cX5_enlist 125 = .ok (.aload_n 0, 1) := by decide +kernel
theorem dX5_enlist_126 : decode cX5_enlist 126 = .ok (.getfield 145, 3) := by decide +kernel
theorem dX5_enlist_129 : decode cX5_enlist 129 = .ok (.iload_n 1, 1) := by decide +kernel
theorem dX5_enlist_130 : decode cX5_enlist 130 = .ok (.isub, 1) := by decide +kernel
theorem dX5_enlist_131 : decode cX5_enlist 131 = .ok (.iload_n 2, 1) := by decide +kernel
theorem dX5_enlist_132 : decode cX5_enlist 132 = .ok (.if_icmp .ge 12, 3) := by decide +kernel
theorem dX5_enlist_135 : decode cX5_enlist 135 = .ok (.aload_n 0, 1) := by decide +kernel
theorem dX5_enlist_136 : decode cX5_enlist 136 = .ok (.getfield 145, 3) := by decide +kernel
theorem dX5_enlist_139 : decode cX5_enlist 139 = .ok (.iconst 1, 1) := by decide +kernel
theorem dX5_enlist_140 : decode cX5_enlist 140 = .ok (.iadd, 1) := by decide +kernel
theorem dX5_enlist_141 : decode cX5_enlist 141 = .ok (.goto 7, 3) := by decide +kernel
theorem dX5_enlist_144 : decode cX5_enlist 144 = .ok (.aload_n 0, 1) := by decide +kernel
theorem dX5_enlist_145 : decode cX5_enlist 145 = .ok (.getfield 145, 3) := by decide +kernel
theorem dX5_enlist_148 : decode cX5_enlist 148 = .ok (.putfield 145, 3) := by decide +kernel
theorem dX5_enlist_151 : decode cX5_enlist 151 = .ok (.return_, 1) := by decide +kernel
theorem dX5_run_0 : decode cX5_run 0 = .ok (.aload_n 0, 1) := by decide +kernel
theorem dX5_run_1 : decode cX5_run 1 = .ok (.iload_n 1, 1) := by decide +kernel
theorem dX5_run_2 : decode cX5_run 2 = .ok (.iconst 1, 1) := by decide +kernel
theorem dX5_run_3 : decode cX5_run 3 = .ok (.if_icmp .lt 9, 3) := by decide +kernel
theorem dX5_run_6 : decode cX5_run 6 = .ok (.iload_n 1, 1) := by decide +kernel
theorem dX5_run_7 : decode cX5_run 7 = .ok (.bipush 40, 2) := by decide +kernel
theorem dX5_run_9 : decode cX5_run 9 = .ok (.if_icmp .le 7, 3) := by decide +kernel
theorem dX5_run_12 : decode cX5_run 12 = .ok (.iconst 1, 1) := by decide +kernel
theorem dX5_run_13 : decode cX5_run 13 = .ok (.goto 4, 3) := by decide +kernel
theorem dX5_run_16 : decode cX5_run 16 = .ok (.iconst 0, 1) := by decide +kernel
theorem dX5_run_17 : decode cX5_run 17 = .ok (.putfield 81, 3) := by decide +kernel
theorem dX5_run_20 : decode cX5_run 20 = .ok (.aload_n 0, 1) := by decide +kernel
theorem dX5_run_21 : decode cX5_run 21 = .ok (.getfield 81, 3) := by decide +kernel
theorem dX5_run_24 : decode cX5_run 24 = .ok (.ifCond .le 5, 3) := by decide +kernel
theorem dX5_run_27 : decode cX5_run 27 = .ok (.iconst 0, 1) := by decide +kernel
theorem dX5_run_28 : decode cX5_run 28 = .ok (.ireturn, 1) := by decide +kernel
theorem dX5_run_29 : decode cX5_run 29 = .ok (.aload_n 0, 1) := by decide +kernel
theorem dX5_run_30 : decode cX5_run 30 = .ok (.iload_n 1, 1) := by decide +kernel
theorem dX5_run_31 : decode cX5_run 31 = .ok (.invokevirtual 152, 3) := by decide +kernel
theorem dX5_run_34 : decode cX5_run 34 = .ok (.aload_n 0, 1) := by decide +kernel
theorem dX5_run_35 : decode cX5_run 35 = .ok (.iconst 0, 1) := by decide +kernel
theorem dX5_run_36 : decode cX5_run 36 = .ok (.putfield 145, 3) := by decide +kernel
theorem dX5_run_39 : decode cX5_run 39 = .ok (.iconst 0, 1) := by decide +kernel
theorem dX5_run_40 : decode cX5_run 40 = .ok (.istore_n 2, 1) := by decide +kernel
theorem dX5_run_41 : decode cX5_run 41 = .ok (.iload_n 2, 1) := by decide +kernel
theorem dX5_run_42 : decode cX5_run 42 = .ok (.bipush 8, 2) := by decide +kernel
theorem dX5_run_44 : decode cX5_run 44 = .ok (.if_icmp .ge 95, 3) := by decide +kernel
theorem dX5_run_47 : decode cX5_run 47 = .ok (.aload_n 0, 1) := by decide +kernel
theorem dX5_run_48 : decode cX5_run 48 = .ok (.getfield 145, 3) := by decide +kernel
theorem dX5_run_51 : decode cX5_run 51 = .ok (.istore_n 3, 1) := by decide +kernel
theorem dX5_run_52 : decode cX5_run 52 = .ok (.iconst 0, 1) := by decide +kernel
theorem dX5_run_53 : decode cX5_run 53 = .ok (.istore 4, 2) := by decide +kernel
theorem dX5_run_55 : decode cX5_run 55 = .ok (.iload 4, 2) := by decide +kernel
theorem dX5_run_57 : decode cX5_run 57 = .ok (.aload_n 0, 1) := by decide +kernel
theorem dX5_run_58 : decode cX5_run 58 = .ok (.getfield 111, 3) := by decide +kernel
theorem dX5_run_61 : decode cX5_run 61 = .ok (.if_icmp .ge 72, 3) := by decide +kernel
theorem dX5_run_64 : decode cX5_run 64 = .ok (.bipush 11, 2) := by decide +kernel
theorem dX5_run_66 : decode cX5_run 66 = .ok (.aload_n 0, 1) := by decide +kernel
theorem dX5_run_67 : decode cX5_run 67 = .ok (.getfield 29, 3) := by decide +kernel
theorem dX5_run_70 : decode cX5_run 70 = .ok (.iload 4, 2) := by decide +kernel
theorem dX5_run_72 : decode cX5_run 72 = .ok (.iaload, 1) := by decide +kernel
theorem dX5_run_73 : decode cX5_run 73 = .ok (.imul, 1) := by decide +kernel
theorem dX5_run_74 : decode cX5_run 74 = .ok (.bipush 10, 2) := by decide +kernel
theorem dX5_run_76 : decode cX5_run 76 = .ok (.iadd, 1) := by decide +kernel
theorem dX5_run_77 : decode cX5_run 77 = .ok (.istore 5, 2) := by decide +kernel
theorem dX5_run_79 : decode cX5_run 79 = .ok (.iconst 0, 1) := by decide +kernel
theorem dX5_run_80 : decode cX5_run 80 = .ok (.istore 6, 2) := by decide +kernel
theorem dX5_run_82 : decode cX5_run 82 = .ok (.iload 6, 2) := by decide +kernel
theorem dX5_run_84 : decode cX5_run 84 = .ok (.aload_n 0, 1) := by decide +kernel
theorem dX5_run_85 : decode cX5_run 85 = .ok (.getfield 56, 3) := by decide +kernel
theorem dX5_run_88 : decode cX5_run 88 = .ok (.iload 5, 2) := by decide +kernel
theorem dX5_run_90 : decode cX5_run 90 = .ok (.iaload, 1) := by decide +kernel
theorem dX5_run_91 : decode cX5_run 91 = .ok (.if_icmp .ge 36, 3) := by decide +kernel
theorem dX5_run_94 : decode cX5_run 94 = .ok (.aload_n 0, 1) := by decide +kernel
theorem dX5_run_95 : decode cX5_run 95 = .ok (.getfield 35, 3) := by decide +kernel
theorem dX5_run_98 : decode cX5_run 98 = .ok (.iload 4, 2) := by decide +kernel
theorem dX5_run_100 : decode cX5_run 100 = .ok (.iaload, 1) := by decide +kernel
theorem dX5_run_101 : decode cX5_run 101 = .ok (.iload_n 2, 1) := by decide +kernel
theorem dX5_run_102 : decode cX5_run 102 = .ok (.if_icmp .ne 25, 3) := by decide +kernel
theorem dX5_run_105 : decode cX5_run 105 = .ok (.aload_n 0, 1) := by decide +kernel
theorem dX5_run_106 : decode cX5_run 106 = .ok (.iload_n 3, 1) := by decide +kernel
theorem dX5_run_107 : decode cX5_run 107 = .ok (.iload_n 1, 1) := by decide +kernel
theorem dX5_run_108 : decode cX5_run 108 = .ok (.bipush 40, 2) := by decide +kernel
theorem dX5_run_110 : decode cX5_run 110 = .ok (.iload 5, 2) := by decide +kernel
theorem dX5_run_112 : decode cX5_run 112 = .ok (.imul, 1) := by decide +kernel
theorem dX5_run_113 : decode cX5_run 113 = .ok (.iload 6, 2) := by decide +kernel
theorem dX5_run_115 : decode cX5_run 115 = .ok (.iadd, 1) := by decide +kernel
theorem dX5_run_116 : decode cX5_run 116 = .ok (.iload 4, 2) := by decide +kernel
theorem dX5_run_118 : decode cX5_run 118 = .ok (.invokevirtual 156, 3) := by decide +kernel
theorem dX5_run_121 : decode cX5_run 121 = .ok (.iinc 6 1, 3) := by decide +kernel
theorem dX5_run_124 : decode cX5_run 124 = .ok (.goto (-42), 3) := by decide +kernel
theorem dX5_run_127 : decode cX5_run 127 = .ok (.iinc 4 1, 3) := by decide +kernel
theorem dX5_run_130 : decode cX5_run 130 = .ok (.goto (-75), 3) := by decide +kernel
theorem dX5_run_133 : decode cX5_run 133 = .ok (.iinc 2 1, 3) := by decide +kernel
theorem dX5_run_136 : decode cX5_run 136 = .ok (.goto (-95), 3) := by decide +kernel
theorem dX5_run_139 : decode cX5_run 139 = .ok (.aload_n 0, 1) := by decide +kernel
theorem dX5_run_140 : decode cX5_run 140 = .ok (.getfield 145, 3) := by decide +kernel
theorem dX5_run_143 : decode cX5_run 143 = .ok (.istore_n 2, 1) := by decide +kernel
theorem dX5_run_144 : decode cX5_run 144 = .ok (.aload_n 0, 1) := by decide +kernel
theorem dX5_run_145 : decode cX5_run 145 = .ok (.iconst 0, 1) := by decide +kernel
theorem dX5_run_146 : decode cX5_run 146 = .ok (.putfield 145, 3) := by decide +kernel
theorem dX5_run_149 : decode cX5_run 149 = .ok (.iconst 0, 1) := by decide +kernel
theorem dX5_run_150 : decode cX5_run 150 = .ok (.istore_n 3, 1) := by decide +kernel
theorem dX5_run_151 : decode cX5_run 151 = .ok (.iload_n 3, 1) := by decide +kernel
theorem dX5_run_152 : decode cX5_run 152 = .ok (.iload_n 2, 1) := by decide +kernel
theorem dX5_run_153 : decode cX5_run 153 = .ok (.if_icmp .ge 29, 3) := by decide +kernel
theorem dX5_run_156 : decode cX5_run 156 = .ok (.aload_n 0, 1) := by decide +kernel
theorem dX5_run_157 : decode cX5_run 157 = .ok (.iconst 0, 1) := by decide +kernel
theorem dX5_run_158 : decode cX5_run 158 = .ok (.sipush 400, 3) := by decide +kernel
theorem dX5_run_161 : decode cX5_run 161 = .ok (.aload_n 0, 1) := by decide +kernel
theorem dX5_run_162 : decode cX5_run 162 = .ok (.getfield 59, 3) := by decide +kernel
theorem dX5_run_165 : decode cX5_run 165 = .ok (.iload_n 3, 1) := by decide +kernel
theorem dX5_run_166 : decode cX5_run 166 = .ok (.iaload, 1) := by decide +kernel
theorem dX5_run_167 : decode cX5_run 167 = .ok (.aload_n 0, 1) := by decide +kernel
theorem dX5_run_168 : decode cX5_run 168 = .ok (.getfield 62, 3) := by decide +kernel
theorem dX5_run_171 : decode cX5_run 171 = .ok (.iload_n 3, 1) := by decide +kernel
theorem dX5_run_172 : decode cX5_run 172 = .ok (.iaload, 1) := by decide +kernel
theorem dX5_run_173 : decode cX5_run 173 = .ok (.invokevirtual 156, 3) := by decide +kernel
theorem dX5_run_176 : decode cX5_run 176 = .ok (.iinc 3 1, 3) := by decide +kernel
theorem dX5_run_179 : decode cX5_run 179 = .ok (.goto (-28), 3) := by decide +kernel
theorem dX5_run_182 : decode cX5_run 182 = .ok (.aload_n 0, 1) := by decide +kernel
theorem dX5_run_183 : decode cX5_run 183 = .ok (.iconst 1, 1) := by decide +kernel
theorem dX5_run_184 : decode cX5_run 184 = .ok (.putfield 92, 3) := by decide +kernel
theorem dX5_run_187 : decode cX5_run 187 = .ok (.aload_n 0, 1) := by decide +kernel
theorem dX5_run_188 : decode cX5_run 188 = .ok (.getfield 145, 3) := by decide +kernel
theorem dX5_run_191 : decode cX5_run 191 = .ok (.ireturn, 1) := by decide +kernel
theorem dX5_faultOf_0 : decode cX5_faultOf 0 = .ok (.aload_n 0, 1) := by decide +kernel
theorem dX5_faultOf_1 : decode cX5_faultOf 1 = .ok (.getfield 92, 3) := by decide +kernel
theorem dX5_faultOf_4 : decode cX5_faultOf 4 = .ok (.ifCond .ne 7, 3) := by decide +kernel
theorem dX5_faultOf_7 : decode cX5_faultOf 7 = .ok (.iconst 1, 1) := by decide +kernel
theorem dX5_faultOf_8 : decode cX5_faultOf 8 = .ok (.goto 20, 3) := by decide +kernel
theorem dX5_faultOf_11 : decode cX5_faultOf 11 = .ok (.iload_n 1, 1) := by decide +kernel
theorem dX5_faultOf_12 : decode cX5_faultOf 12 = .ok (.ifCond .lt 11, 3) := by decide +kernel
theorem dX5_faultOf_15 : decode cX5_faultOf 15 = .ok (.iload_n 1, 1) := by decide +kernel
theorem dX5_faultOf_16 : decode cX5_faultOf 16 = .ok (.aload_n 0, 1) := by decide +kernel
theorem dX5_faultOf_17 : decode cX5_faultOf 17 = .ok (.getfield 145, 3) := by decide +kernel
theorem dX5_faultOf_20 : decode cX5_faultOf 20 = .ok (.if_icmp .lt 7, 3) := by decide +kernel
theorem dX5_faultOf_23 : decode cX5_faultOf 23 = .ok (.iconst 2, 1) := by decide +kernel
theorem dX5_faultOf_24 : decode cX5_faultOf 24 = .ok (.goto 4, 3) := by decide +kernel
theorem dX5_faultOf_27 : decode cX5_faultOf 27 = .ok (.iconst 0, 1) := by decide +kernel
theorem dX5_faultOf_28 : decode cX5_faultOf 28 = .ok (.ireturn, 1) := by decide +kernel
theorem dX5_slack_0 : decode cX5_slack 0 = .ok (.aload_n 0, 1) := by decide +kernel
theorem dX5_slack_1 : decode cX5_slack 1 = .ok (.aload_n 0, 1) := by decide +kernel
theorem dX5_slack_2 : decode cX5_slack 2 = .ok (.iload_n 1, 1) := by decide +kernel
theorem dX5_slack_3 : decode cX5_slack 3 = .ok (.invokevirtual 160, 3) := by decide +kernel
theorem dX5_slack_6 : decode cX5_slack 6 = .ok (.putfield 81, 3) := by decide +kernel
theorem dX5_slack_9 : decode cX5_slack 9 = .ok (.aload_n 0, 1) := by decide +kernel
theorem dX5_slack_10 : decode cX5_slack 10 = .ok (.getfield 81, 3) := by decide +kernel
theorem dX5_slack_13 : decode cX5_slack 13 = .ok (.ifCond .le 7, 3) := by decide +kernel
theorem dX5_slack_16 : decode cX5_slack 16 = .ok (.dconst 0, 1) := by decide +kernel
theorem dX5_slack_17 : decode cX5_slack 17 = .ok (.goto 8, 3) := by decide +kernel
theorem dX5_slack_20 : decode cX5_slack 20 = .ok (.aload_n 0, 1) := by decide +kernel
theorem dX5_slack_21 : decode cX5_slack 21 = .ok (.iload_n 1, 1) := by decide +kernel
theorem dX5_slack_22 : decode cX5_slack 22 = .ok (.invokevirtual 141, 3) := by decide +kernel
theorem dX5_slack_25 : decode cX5_slack 25 = .ok (.dreturn, 1) := by decide +kernel
theorem dX5_at_0 : decode cX5_at 0 = .ok (.aload_n 0, 1) := by decide +kernel
theorem dX5_at_1 : decode cX5_at 1 = .ok (.aload_n 0, 1) := by decide +kernel
theorem dX5_at_2 : decode cX5_at 2 = .ok (.iload_n 1, 1) := by decide +kernel
theorem dX5_at_3 : decode cX5_at 3 = .ok (.invokevirtual 160, 3) := by decide +kernel
theorem dX5_at_6 : decode cX5_at 6 = .ok (.putfield 81, 3) := by decide +kernel
theorem dX5_at_9 : decode cX5_at 9 = .ok (.aload_n 0, 1) := by decide +kernel
theorem dX5_at_10 : decode cX5_at 10 = .ok (.getfield 81, 3) := by decide +kernel
theorem dX5_at_13 : decode cX5_at 13 = .ok (.ifCond .le 5, 3) := by decide +kernel
theorem dX5_at_16 : decode cX5_at 16 = .ok (.iconst 0, 1) := by decide +kernel
theorem dX5_at_17 : decode cX5_at 17 = .ok (.ireturn, 1) := by decide +kernel
theorem dX5_at_18 : decode cX5_at 18 = .ok (.aload_n 0, 1) := by decide +kernel
theorem dX5_at_19 : decode cX5_at 19 = .ok (.aload_n 0, 1) := by decide +kernel
theorem dX5_at_20 : decode cX5_at 20 = .ok (.getfield 59, 3) := by decide +kernel
theorem dX5_at_23 : decode cX5_at 23 = .ok (.iload_n 1, 1) := by decide +kernel
theorem dX5_at_24 : decode cX5_at 24 = .ok (.iaload, 1) := by decide +kernel
theorem dX5_at_25 : decode cX5_at 25 = .ok (.iconst 1, 1) := by decide +kernel
theorem dX5_at_26 : decode cX5_at 26 = .ok (.invokevirtual 123, 3) := by decide +kernel
theorem dX5_at_29 : decode cX5_at 29 = .ok (.istore_n 3, 1) := by decide +kernel
theorem dX5_at_30 : decode cX5_at 30 = .ok (.aload_n 0, 1) := by decide +kernel
theorem dX5_at_31 : decode cX5_at 31 = .ok (.iload_n 2, 1) := by decide +kernel
theorem dX5_at_32 : decode cX5_at 32 = .ok (.ifCond .lt 10, 3) := by decide +kernel
theorem dX5_at_35 : decode cX5_at 35 = .ok (.iload_n 2, 1) := by decide +kernel
theorem dX5_at_36 : decode cX5_at 36 = .ok (.iload_n 3, 1) := by decide +kernel
theorem dX5_at_37 : decode cX5_at 37 = .ok (.iconst 1, 1) := by decide +kernel
theorem dX5_at_38 : decode cX5_at 38 = .ok (.iadd, 1) := by decide +kernel
theorem dX5_at_39 : decode cX5_at 39 = .ok (.if_icmp .le 7, 3) := by decide +kernel
theorem dX5_at_42 : decode cX5_at 42 = .ok (.iconst 2, 1) := by decide +kernel
theorem dX5_at_43 : decode cX5_at 43 = .ok (.goto 4, 3) := by decide +kernel
theorem dX5_at_46 : decode cX5_at 46 = .ok (.iconst 0, 1) := by decide +kernel
theorem dX5_at_47 : decode cX5_at 47 = .ok (.putfield 81, 3) := by decide +kernel
theorem dX5_at_50 : decode cX5_at 50 = .ok (.aload_n 0, 1) := by decide +kernel
theorem dX5_at_51 : decode cX5_at 51 = .ok (.getfield 81, 3) := by decide +kernel
theorem dX5_at_54 : decode cX5_at 54 = .ok (.ifCond .le 7, 3) := by decide +kernel
theorem dX5_at_57 : decode cX5_at 57 = .ok (.iconst 0, 1) := by decide +kernel
theorem dX5_at_58 : decode cX5_at 58 = .ok (.goto 42, 3) := by decide +kernel
theorem dX5_at_61 : decode cX5_at 61 = .ok (.iload_n 2, 1) := by decide +kernel
theorem dX5_at_62 : decode cX5_at 62 = .ok (.ifCond .ne 16, 3) := by decide +kernel
theorem dX5_at_65 : decode cX5_at 65 = .ok (.aload_n 0, 1) := by decide +kernel
theorem dX5_at_66 : decode cX5_at 66 = .ok (.aload_n 0, 1) := by decide +kernel
theorem dX5_at_67 : decode cX5_at 67 = .ok (.getfield 59, 3) := by decide +kernel
theorem dX5_at_70 : decode cX5_at 70 = .ok (.iload_n 1, 1) := by decide +kernel
theorem dX5_at_71 : decode cX5_at 71 = .ok (.iaload, 1) := by decide +kernel
theorem dX5_at_72 : decode cX5_at 72 = .ok (.invokevirtual 119, 3) := by decide +kernel
theorem dX5_at_75 : decode cX5_at 75 = .ok (.goto 25, 3) := by decide +kernel
theorem dX5_at_78 : decode cX5_at 78 = .ok (.iload_n 2, 1) := by decide +kernel
theorem dX5_at_79 : decode cX5_at 79 = .ok (.iload_n 3, 1) := by decide +kernel
theorem dX5_at_80 : decode cX5_at 80 = .ok (.if_icmp .gt 14, 3) := by decide +kernel
theorem dX5_at_83 : decode cX5_at 83 = .ok (.aload_n 0, 1) := by decide +kernel
theorem dX5_at_84 : decode cX5_at 84 = .ok (.getfield 69, 3) := by decide +kernel
theorem dX5_at_87 : decode cX5_at 87 = .ok (.iload_n 2, 1) := by decide +kernel
theorem dX5_at_88 : decode cX5_at 88 = .ok (.iconst 1, 1) := by decide +kernel
theorem dX5_at_89 : decode cX5_at 89 = .ok (.isub, 1) := by decide +kernel
theorem dX5_at_90 : decode cX5_at 90 = .ok (.iaload, 1) := by decide +kernel
theorem dX5_at_91 : decode cX5_at 91 = .ok (.goto 9, 3) := by decide +kernel
theorem dX5_at_94 : decode cX5_at 94 = .ok (.aload_n 0, 1) := by decide +kernel
theorem dX5_at_95 : decode cX5_at 95 = .ok (.getfield 62, 3) := by decide +kernel
theorem dX5_at_98 : decode cX5_at 98 = .ok (.iload_n 1, 1) := by decide +kernel
theorem dX5_at_99 : decode cX5_at 99 = .ok (.iaload, 1) := by decide +kernel
theorem dX5_at_100 : decode cX5_at 100 = .ok (.ireturn, 1) := by decide +kernel
theorem dX5_budget_0 : decode cX5_budget 0 = .ok (.aload_n 0, 1) := by decide +kernel
theorem dX5_budget_1 : decode cX5_budget 1 = .ok (.aload_n 0, 1) := by decide +kernel
theorem dX5_budget_2 : decode cX5_budget 2 = .ok (.getfield 92, 3) := by decide +kernel
theorem dX5_budget_5 : decode cX5_budget 5 = .ok (.ifCond .ne 7, 3) := by decide +kernel
theorem dX5_budget_8 : decode cX5_budget 8 = .ok (.iconst 1, 1) := by decide +kernel
theorem dX5_budget_9 : decode cX5_budget 9 = .ok (.goto 30, 3) := by decide +kernel
theorem dX5_budget_12 : decode cX5_budget 12 = .ok (.iload_n 1, 1) := by decide +kernel
theorem dX5_budget_13 : decode cX5_budget 13 = .ok (.ifCond .lt 21, 3) := by decide +kernel
theorem dX5_budget_16 : decode cX5_budget 16 = .ok (.iload_n 1, 1) := by decide +kernel
theorem dX5_budget_17 : decode cX5_budget 17 = .ok (.bipush 8, 2) := by decide +kernel
theorem dX5_budget_19 : decode cX5_budget 19 = .ok (.if_icmp .ge 15, 3) := by decide +kernel
theorem dX5_budget_22 : decode cX5_budget 22 = .ok (.iload_n 2, 1) := by decide +kernel
theorem dX5_budget_23 : decode cX5_budget 23 = .ok (.ifCond .lt 11, 3) := by decide +kernel
theorem dX5_budget_26 : decode cX5_budget 26 = .ok (.iload_n 2, 1) := by decide +kernel
theorem dX5_budget_27 : decode cX5_budget 27 = .ok (.aload_n 0, 1) := by decide +kernel
theorem dX5_budget_28 : decode cX5_budget 28 = .ok (.getfield 145, 3) := by decide +kernel
theorem dX5_budget_31 : decode cX5_budget 31 = .ok (.if_icmp .lt 7, 3) := by decide +kernel
theorem dX5_budget_34 : decode cX5_budget 34 = .ok (.iconst 2, 1) := by decide +kernel
theorem dX5_budget_35 : decode cX5_budget 35 = .ok (.goto 4, 3) := by decide +kernel
theorem dX5_budget_38 : decode cX5_budget 38 = .ok (.iconst 0, 1) := by decide +kernel
theorem dX5_budget_39 : decode cX5_budget 39 = .ok (.putfield 81, 3) := by decide +kernel
theorem dX5_budget_42 : decode cX5_budget 42 = .ok (.aload_n 0, 1) := by decide +kernel
theorem dX5_budget_43 : decode cX5_budget 43 = .ok (.getfield 81, 3) := by decide +kernel
theorem dX5_budget_46 : decode cX5_budget 46 = .ok (.ifCond .le 5, 3) := by decide +kernel
theorem dX5_budget_49 : decode cX5_budget 49 = .ok (.dconst 0, 1) := by decide +kernel
theorem dX5_budget_50 : decode cX5_budget 50 = .ok (.dreturn, 1) := by decide +kernel
theorem dX5_budget_51 : decode cX5_budget 51 = .ok (.aload_n 0, 1) := by decide +kernel
theorem dX5_budget_52 : decode cX5_budget 52 = .ok (.aload_n 0, 1) := by decide +kernel
theorem dX5_budget_53 : decode cX5_budget 53 = .ok (.getfield 59, 3) := by decide +kernel
theorem dX5_budget_56 : decode cX5_budget 56 = .ok (.iload_n 2, 1) := by decide +kernel
theorem dX5_budget_57 : decode cX5_budget 57 = .ok (.iaload, 1) := by decide +kernel
theorem dX5_budget_58 : decode cX5_budget 58 = .ok (.iconst 1, 1) := by decide +kernel
theorem dX5_budget_59 : decode cX5_budget 59 = .ok (.invokevirtual 123, 3) := by decide +kernel
theorem dX5_budget_62 : decode cX5_budget 62 = .ok (.istore_n 3, 1) := by decide +kernel
theorem dX5_budget_63 : decode cX5_budget 63 = .ok (.dconst 0, 1) := by decide +kernel
theorem dX5_budget_64 : decode cX5_budget 64 = .ok (.dstore 4, 2) := by decide +kernel
theorem dX5_budget_66 : decode cX5_budget 66 = .ok (.dconst 0, 1) := by decide +kernel
theorem dX5_budget_67 : decode cX5_budget 67 = .ok (.dstore 6, 2) := by decide +kernel
theorem dX5_budget_69 : decode cX5_budget 69 = .ok (.iconst 0, 1) := by decide +kernel
theorem dX5_budget_70 : decode cX5_budget 70 = .ok (.istore 8, 2) := by decide +kernel
theorem dX5_budget_72 : decode cX5_budget 72 = .ok (.iload 8, 2) := by decide +kernel
theorem dX5_budget_74 : decode cX5_budget 74 = .ok (.iload_n 3, 1) := by decide +kernel
theorem dX5_budget_75 : decode cX5_budget 75 = .ok (.if_icmp .ge 68, 3) := by decide +kernel
theorem dX5_budget_78 : decode cX5_budget 78 = .ok (.dload 4, 2) := by decide +kernel
theorem dX5_budget_80 : decode cX5_budget 80 = .ok (.aload_n 0, 1) := by decide +kernel
theorem dX5_budget_81 : decode cX5_budget 81 = .ok (.getfield 7, 3) := by decide +kernel
theorem dX5_budget_84 : decode cX5_budget 84 = .ok (.aload_n 0, 1) := by decide +kernel
theorem dX5_budget_85 : decode cX5_budget 85 = .ok (.getfield 16, 3) := by decide +kernel
theorem dX5_budget_88 : decode cX5_budget 88 = .ok (.aload_n 0, 1) := by decide +kernel
theorem dX5_budget_89 : decode cX5_budget 89 = .ok (.getfield 69, 3) := by decide +kernel
theorem dX5_budget_92 : decode cX5_budget 92 = .ok (.iload 8, 2) := by decide +kernel
theorem dX5_budget_94 : decode cX5_budget 94 = .ok (.iaload, 1) := by decide +kernel
theorem dX5_budget_95 : decode cX5_budget 95 = .ok (.iaload, 1) := by decide +kernel
theorem dX5_budget_96 : decode cX5_budget 96 = .ok (.iaload, 1) := by decide +kernel
theorem dX5_budget_97 : decode cX5_budget 97 = .ok (.iload_n 1, 1) := by decide +kernel
theorem dX5_budget_98 : decode cX5_budget 98 = .ok (.if_icmp .ne 18, 3) := by decide +kernel
theorem dX5_budget_101 : decode cX5_budget 101 = .ok (.aload_n 0, 1) := by decide +kernel
theorem dX5_budget_102 : decode cX5_budget 102 = .ok (.getfield 19, 3) := by decide +kernel
theorem dX5_budget_105 : decode cX5_budget 105 = .ok (.aload_n 0, 1) := by decide +kernel
theorem dX5_budget_106 : decode cX5_budget 106 = .ok (.getfield 69, 3) := by decide +kernel
theorem dX5_budget_109 : decode cX5_budget 109 = .ok (.iload 8, 2) := by decide +kernel
theorem dX5_budget_111 : decode cX5_budget 111 = .ok (.iaload, 1) := by decide +kernel
theorem dX5_budget_112 : decode cX5_budget 112 = .ok (.daload, 1) := by decide +kernel
theorem dX5_budget_113 : decode cX5_budget 113 = .ok (.goto 4, 3) := by decide +kernel
theorem dX5_budget_116 : decode cX5_budget 116 = .ok (.dconst 0, 1) := by decide +kernel
theorem dX5_budget_117 : decode cX5_budget 117 = .ok (.dadd, 1) := by decide +kernel
theorem dX5_budget_118 : decode cX5_budget 118 = .ok (.dstore 4, 2) := by decide +kernel
theorem dX5_budget_120 : decode cX5_budget 120 = .ok (.dload 6, 2) := by decide +kernel
theorem dX5_budget_122 : decode cX5_budget 122 = .ok (.aload_n 0, 1) := by decide +kernel
theorem dX5_budget_123 : decode cX5_budget 123 = .ok (.getfield 19, 3) := by decide +kernel
theorem dX5_budget_126 : decode cX5_budget 126 = .ok (.aload_n 0, 1) := by decide +kernel
theorem dX5_budget_127 : decode cX5_budget 127 = .ok (.getfield 69, 3) := by decide +kernel
theorem dX5_budget_130 : decode cX5_budget 130 = .ok (.iload 8, 2) := by decide +kernel
theorem dX5_budget_132 : decode cX5_budget 132 = .ok (.iaload, 1) := by decide +kernel
theorem dX5_budget_133 : decode cX5_budget 133 = .ok (.daload, 1) := by decide +kernel
theorem dX5_budget_134 : decode cX5_budget 134 = .ok (.dadd, 1) := by decide +kernel
theorem dX5_budget_135 : decode cX5_budget 135 = .ok (.dstore 6, 2) := by decide +kernel
theorem dX5_budget_137 : decode cX5_budget 137 = .ok (.iinc 8 1, 3) := by decide +kernel
theorem dX5_budget_140 : decode cX5_budget 140 = .ok (.goto (-68), 3) := by decide +kernel
theorem dX5_budget_143 : decode cX5_budget 143 = .ok (.dload 6, 2) := by decide +kernel
theorem dX5_budget_145 : decode cX5_budget 145 = .ok (.dconst 0, 1) := by decide +kernel
theorem dX5_budget_146 : decode cX5_budget 146 = .ok (.dcmp .l, 1) := by decide +kernel
theorem dX5_budget_147 : decode cX5_budget 147 = .ok (.ifCond .ne 7, 3) := by decide +kernel
theorem dX5_budget_150 : decode cX5_budget 150 = .ok (.dconst 0, 1) := by decide +kernel
theorem dX5_budget_151 : decode cX5_budget 151 = .ok (.goto 14, 3) := by decide +kernel
theorem dX5_budget_154 : decode cX5_budget 154 = .ok (.aload_n 0, 1) := by decide +kernel
theorem dX5_budget_155 : decode cX5_budget 155 = .ok (.iload_n 2, 1) := by decide +kernel
theorem dX5_budget_156 : decode cX5_budget 156 = .ok (.invokevirtual 141, 3) := by decide +kernel
theorem dX5_budget_159 : decode cX5_budget 159 = .ok (.dload 4, 2) := by decide +kernel
theorem dX5_budget_161 : decode cX5_budget 161 = .ok (.dmul, 1) := by decide +kernel
theorem dX5_budget_162 : decode cX5_budget 162 = .ok (.dload 6, 2) := by decide +kernel
theorem dX5_budget_164 : decode cX5_budget 164 = .ok (.ddiv, 1) := by decide +kernel
theorem dX5_budget_165 : decode cX5_budget 165 = .ok (.dreturn, 1) := by decide +kernel
theorem dX5_isEdge_0 : decode cX5_isEdge 0 = .ok (.iconst 0, 1) := by decide +kernel
theorem dX5_isEdge_1 : decode cX5_isEdge 1 = .ok (.istore_n 3, 1) := by decide +kernel
theorem dX5_isEdge_2 : decode cX5_isEdge 2 = .ok (.iconst 0, 1) := by decide +kernel
theorem dX5_isEdge_3 : decode cX5_isEdge 3 = .ok (.istore 4, 2) := by decide +kernel
theorem dX5_isEdge_5 : decode cX5_isEdge 5 = .ok (.iload 4, 2) := by decide +kernel
theorem dX5_isEdge_7 : decode cX5_isEdge 7 = .ok (.iload_n 2, 1) := by decide +kernel
theorem dX5_isEdge_8 : decode cX5_isEdge 8 = .ok (.ifCond .eq 10, 3) := by decide +kernel
theorem dX5_isEdge_11 : decode cX5_isEdge 11 = .ok (.aload_n 0, 1) := by decide +kernel
theorem dX5_isEdge_12 : decode cX5_isEdge 12 = .ok (.getfield 116, 3) := by decide +kernel
theorem dX5_isEdge_15 : decode cX5_isEdge 15 = .ok (.goto 7, 3) := by decide +kernel
theorem dX5_isEdge_18 : decode cX5_isEdge 18 = .ok (.aload_n 0, 1) := by decide +kernel
theorem dX5_isEdge_19 : decode cX5_isEdge 19 = .ok (.getfield 111, 3) := by decide +kernel
theorem dX5_isEdge_22 : decode cX5_isEdge 22 = .ok (.if_icmp .ge 44, 3) := by decide +kernel
theorem dX5_isEdge_25 : decode cX5_isEdge 25 = .ok (.iload_n 3, 1) := by decide +kernel
theorem dX5_isEdge_26 : decode cX5_isEdge 26 = .ok (.ifCond .ne 28, 3) := by decide +kernel
theorem dX5_isEdge_29 : decode cX5_isEdge 29 = .ok (.iload_n 2, 1) := by decide +kernel
theorem dX5_isEdge_30 : decode cX5_isEdge 30 = .ok (.ifCond .eq 13, 3) := by decide +kernel
theorem dX5_isEdge_33 : decode cX5_isEdge 33 = .ok (.aload_n 0, 1) := by decide +kernel
theorem dX5_isEdge_34 : decode cX5_isEdge 34 = .ok (.getfield 23, 3) := by decide +kernel
theorem dX5_isEdge_37 : decode cX5_isEdge 37 = .ok (.iload 4, 2) := by decide +kernel
theorem dX5_isEdge_39 : decode cX5_isEdge 39 = .ok (.iaload, 1) := by decide +kernel
theorem dX5_isEdge_40 : decode cX5_isEdge 40 = .ok (.goto 10, 3) := by decide +kernel
theorem dX5_isEdge_43 : decode cX5_isEdge 43 = .ok (.aload_n 0, 1) := by decide +kernel
theorem dX5_isEdge_44 : decode cX5_isEdge 44 = .ok (.getfield 29, 3) := by decide +kernel
theorem dX5_isEdge_47 : decode cX5_isEdge 47 = .ok (.iload 4, 2) := by decide +kernel
theorem dX5_isEdge_49 : decode cX5_isEdge 49 = .ok (.iaload, 1) := by decide +kernel
theorem dX5_isEdge_50 : decode cX5_isEdge 50 = .ok (.iload_n 1, 1) := by decide +kernel
theorem dX5_isEdge_51 : decode cX5_isEdge 51 = .ok (.if_icmp .ne 7, 3) := by decide +kernel
theorem dX5_isEdge_54 : decode cX5_isEdge 54 = .ok (.iconst 1, 1) := by decide +kernel
theorem dX5_isEdge_55 : decode cX5_isEdge 55 = .ok (.goto 4, 3) := by decide +kernel
theorem dX5_isEdge_58 : decode cX5_isEdge 58 = .ok (.iconst 0, 1) := by decide +kernel
theorem dX5_isEdge_59 : decode cX5_isEdge 59 = .ok (.istore_n 3, 1) := by decide +kernel
theorem dX5_isEdge_60 : decode cX5_isEdge 60 = .ok (.iinc 4 1, 3) := by decide +kernel
theorem dX5_isEdge_63 : decode cX5_isEdge 63 = .ok (.goto (-58), 3) := by decide +kernel
theorem dX5_isEdge_66 : decode cX5_isEdge 66 = .ok (.iconst 0, 1) := by decide +kernel
theorem dX5_isEdge_67 : decode cX5_isEdge 67 = .ok (.istore 4, 2) := by decide +kernel
theorem dX5_isEdge_69 : decode cX5_isEdge 69 = .ok (.iload 4, 2) := by decide +kernel
theorem dX5_isEdge_71 : decode cX5_isEdge 71 = .ok (.aload_n 0, 1) := by decide +kernel
theorem dX5_isEdge_72 : decode cX5_isEdge 72 = .ok (.getfield 96, 3) := by decide +kernel
theorem dX5_isEdge_75 : decode cX5_isEdge 75 = .ok (.if_icmp .ge 91, 3) := by decide +kernel
theorem dX5_isEdge_78 : decode cX5_isEdge 78 = .ok (.iload_n 3, 1) := by decide +kernel
theorem dX5_isEdge_79 : decode cX5_isEdge 79 = .ok (.ifCond .ne 75, 3) := by decide +kernel
theorem dX5_isEdge_82 : decode cX5_isEdge 82 = .ok (.iload_n 2, 1) := by decide +kernel
theorem dX5_isEdge_83 : decode cX5_isEdge 83 = .ok (.ifCond .eq 35, 3) := by decide +kernel
theorem dX5_isEdge_86 : decode cX5_isEdge 86 = .ok (.aload_n 0, 1) := by decide +kernel
theorem dX5_isEdge_87 : decode cX5_isEdge 87 = .ok (.getfield 16, 3) := by decide +kernel
theorem dX5_isEdge_90 : decode cX5_isEdge 90 = .ok (.iload 4, 2) := by decide +kernel
theorem dX5_isEdge_92 : decode cX5_isEdge 92 = .ok (.iaload, 1) := by decide +kernel
theorem dX5_isEdge_93 : decode cX5_isEdge 93 = .ok (.iload_n 1, 1) := by decide +kernel
theorem dX5_isEdge_94 : decode cX5_isEdge 94 = .ok (.if_icmp .ne 24, 3) := by decide +kernel
theorem dX5_isEdge_97 : decode cX5_isEdge 97 = .ok (.aload_n 0, 1) := by decide +kernel
theorem dX5_isEdge_98 : decode cX5_isEdge 98 = .ok (.getfield 7, 3) := by decide +kernel
theorem dX5_isEdge_101 : decode cX5_isEdge 101 = .ok (.aload_n 0, 1) := by decide +kernel
theorem dX5_isEdge_102 : decode cX5_isEdge 102 = .ok (.getfield 13, 3) := by decide +kernel
theorem dX5_isEdge_105 : decode cX5_isEdge 105 = .ok (.iload 4, 2) := by decide +kernel
theorem dX5_isEdge_107 : decode cX5_isEdge 107 = .ok (.iaload, 1) := by decide +kernel
theorem dX5_isEdge_108 : decode cX5_isEdge 108 = .ok (.iaload, 1) := by decide +kernel
theorem dX5_isEdge_109 : decode cX5_isEdge 109 = .ok (.aload_n 0, 1) := by decide +kernel
theorem dX5_isEdge_110 : decode cX5_isEdge 110 = .ok (.getfield 7, 3) := by decide +kernel
theorem dX5_isEdge_113 : decode cX5_isEdge 113 = .ok (.iload_n 1, 1) := by decide +kernel
theorem dX5_isEdge_114 : decode cX5_isEdge 114 = .ok (.iaload, 1) := by decide +kernel
theorem dX5_isEdge_115 : decode cX5_isEdge 115 = .ok (.if_icmp .ne 39, 3) := by decide +kernel
theorem dX5_isEdge_118 : decode cX5_isEdge 118 = .ok (.iload_n 2, 1) := by decide +kernel
theorem dX5_isEdge_119 : decode cX5_isEdge 119 = .ok (.ifCond .ne 39, 3) := by decide +kernel
theorem dX5_isEdge_122 : decode cX5_isEdge 122 = .ok (.aload_n 0, 1) := by decide +kernel
theorem dX5_isEdge_123 : decode cX5_isEdge 123 = .ok (.getfield 13, 3) := by decide +kernel
theorem dX5_isEdge_126 : decode cX5_isEdge 126 = .ok (.iload 4, 2) := by decide +kernel
theorem dX5_isEdge_128 : decode cX5_isEdge 128 = .ok (.iaload, 1) := by decide +kernel
theorem dX5_isEdge_129 : decode cX5_isEdge 129 = .ok (.iload_n 1, 1) := by decide +kernel
theorem dX5_isEdge_130 : decode cX5_isEdge 130 = .ok (.if_icmp .ne 28, 3) := by decide +kernel
theorem dX5_isEdge_133 : decode cX5_isEdge 133 = .ok (.aload_n 0, 1) := by decide +kernel
theorem dX5_isEdge_134 : decode cX5_isEdge 134 = .ok (.getfield 7, 3) := by decide +kernel
theorem dX5_isEdge_137 : decode cX5_isEdge 137 = .ok (.aload_n 0, 1) := by decide +kernel
theorem dX5_isEdge_138 : decode cX5_isEdge 138 = .ok (.getfield 16, 3) := by decide +kernel
theorem dX5_isEdge_141 : decode cX5_isEdge 141 = .ok (.iload 4, 2) := by decide +kernel
theorem dX5_isEdge_143 : decode cX5_isEdge 143 = .ok (.iaload, 1) := by decide +kernel
theorem dX5_isEdge_144 : decode cX5_isEdge 144 = .ok (.iaload, 1) := by decide +kernel
theorem dX5_isEdge_145 : decode cX5_isEdge 145 = .ok (.aload_n 0, 1) := by decide +kernel
theorem dX5_isEdge_146 : decode cX5_isEdge 146 = .ok (.getfield 7, 3) := by decide +kernel
theorem dX5_isEdge_149 : decode cX5_isEdge 149 = .ok (.iload_n 1, 1) := by decide +kernel
theorem dX5_isEdge_150 : decode cX5_isEdge 150 = .ok (.iaload, 1) := by decide +kernel
theorem dX5_isEdge_151 : decode cX5_isEdge 151 = .ok (.if_icmp .eq 7, 3) := by decide +kernel
theorem dX5_isEdge_154 : decode cX5_isEdge 154 = .ok (.iconst 1, 1) := by decide +kernel
theorem dX5_isEdge_155 : decode cX5_isEdge 155 = .ok (.goto 4, 3) := by decide +kernel
theorem dX5_isEdge_158 : decode cX5_isEdge 158 = .ok (.iconst 0, 1) := by decide +kernel
theorem dX5_isEdge_159 : decode cX5_isEdge 159 = .ok (.istore_n 3, 1) := by decide +kernel
theorem dX5_isEdge_160 : decode cX5_isEdge 160 = .ok (.iinc 4 1, 3) := by decide +kernel
theorem dX5_isEdge_163 : decode cX5_isEdge 163 = .ok (.goto (-94), 3) := by decide +kernel
theorem dX5_isEdge_166 : decode cX5_isEdge 166 = .ok (.iload_n 3, 1) := by decide +kernel
theorem dX5_isEdge_167 : decode cX5_isEdge 167 = .ok (.ireturn, 1) := by decide +kernel
theorem dX5_isReduced_0 : decode cX5_isReduced 0 = .ok (.aload_n 0, 1) := by decide +kernel
theorem dX5_isReduced_1 : decode cX5_isReduced 1 = .ok (.getfield 7, 3) := by decide +kernel
theorem dX5_isReduced_4 : decode cX5_isReduced 4 = .ok (.iload_n 2, 1) := by decide +kernel
theorem dX5_isReduced_5 : decode cX5_isReduced 5 = .ok (.iaload, 1) := by decide +kernel
theorem dX5_isReduced_6 : decode cX5_isReduced 6 = .ok (.iload_n 1, 1) := by decide +kernel
theorem dX5_isReduced_7 : decode cX5_isReduced 7 = .ok (.if_icmp .ne 31, 3) := by decide +kernel
theorem dX5_isReduced_10 : decode cX5_isReduced 10 = .ok (.aload_n 0, 1) := by decide +kernel
theorem dX5_isReduced_11 : decode cX5_isReduced 11 = .ok (.getfield 7, 3) := by decide +kernel
theorem dX5_isReduced_14 : decode cX5_isReduced 14 = .ok (.iload_n 3, 1) := by decide +kernel
theorem dX5_isReduced_15 : decode cX5_isReduced 15 = .ok (.iaload, 1) := by decide +kernel
theorem dX5_isReduced_16 : decode cX5_isReduced 16 = .ok (.iload_n 1, 1) := by decide +kernel
theorem dX5_isReduced_17 : decode cX5_isReduced 17 = .ok (.if_icmp .ne 21, 3) := by decide +kernel
theorem dX5_isReduced_20 : decode cX5_isReduced 20 = .ok (.aload_n 0, 1) := by decide +kernel
theorem dX5_isReduced_21 : decode cX5_isReduced 21 = .ok (.iload_n 2, 1) := by decide +kernel
theorem dX5_isReduced_22 : decode cX5_isReduced 22 = .ok (.iconst 1, 1) := by decide +kernel
theorem dX5_isReduced_23 : decode cX5_isReduced 23 = .ok (.invokevirtual 163, 3) := by decide +kernel
theorem dX5_isReduced_26 : decode cX5_isReduced 26 = .ok (.ifCond .eq 12, 3) := by decide +kernel
theorem dX5_isReduced_29 : decode cX5_isReduced 29 = .ok (.aload_n 0, 1) := by decide +kernel
theorem dX5_isReduced_30 : decode cX5_isReduced 30 = .ok (.iload_n 3, 1) := by decide +kernel
theorem dX5_isReduced_31 : decode cX5_isReduced 31 = .ok (.iconst 0, 1) := by decide +kernel
theorem dX5_isReduced_32 : decode cX5_isReduced 32 = .ok (.invokevirtual 163, 3) := by decide +kernel
theorem dX5_isReduced_35 : decode cX5_isReduced 35 = .ok (.ifCond .ne 5, 3) := by decide +kernel
theorem dX5_isReduced_38 : decode cX5_isReduced 38 = .ok (.iconst 0, 1) := by decide +kernel
theorem dX5_isReduced_39 : decode cX5_isReduced 39 = .ok (.ireturn, 1) := by decide +kernel
theorem dX5_isReduced_40 : decode cX5_isReduced 40 = .ok (.aload_n 0, 1) := by decide +kernel
theorem dX5_isReduced_41 : decode cX5_isReduced 41 = .ok (.iload_n 2, 1) := by decide +kernel
theorem dX5_isReduced_42 : decode cX5_isReduced 42 = .ok (.iload_n 1, 1) := by decide +kernel
theorem dX5_isReduced_43 : decode cX5_isReduced 43 = .ok (.invokevirtual 107, 3) := by decide +kernel
theorem dX5_isReduced_46 : decode cX5_isReduced 46 = .ok (.aload_n 0, 1) := by decide +kernel
theorem dX5_isReduced_47 : decode cX5_isReduced 47 = .ok (.getfield 65, 3) := by decide +kernel
theorem dX5_isReduced_50 : decode cX5_isReduced 50 = .ok (.iload_n 3, 1) := by decide +kernel
theorem dX5_isReduced_51 : decode cX5_isReduced 51 = .ok (.baload, 1) := by decide +kernel
theorem dX5_isReduced_52 : decode cX5_isReduced 52 = .ok (.ireturn, 1) := by decide +kernel
theorem dX5_model_0 : decode cX5_model 0 = .ok (.aload_n 0, 1) := by decide +kernel
theorem dX5_model_1 : decode cX5_model 1 = .ok (.iload_n 1, 1) := by decide +kernel
theorem dX5_model_2 : decode cX5_model 2 = .ok (.ifCond .lt 9, 3) := by decide +kernel
theorem dX5_model_5 : decode cX5_model 5 = .ok (.iload_n 1, 1) := by decide +kernel
theorem dX5_model_6 : decode cX5_model 6 = .ok (.bipush 8, 2) := by decide +kernel
theorem dX5_model_8 : decode cX5_model 8 = .ok (.if_icmp .lt 7, 3) := by decide +kernel
theorem dX5_model_11 : decode cX5_model 11 = .ok (.iconst 1, 1) := by decide +kernel
theorem dX5_model_12 : decode cX5_model 12 = .ok (.goto 4, 3) := by decide +kernel
theorem dX5_model_15 : decode cX5_model 15 = .ok (.iconst 0, 1) := by decide +kernel
theorem dX5_model_16 : decode cX5_model 16 = .ok (.putfield 81, 3) := by decide +kernel
theorem dX5_model_19 : decode cX5_model 19 = .ok (.iconst 0, 1) := by decide +kernel
theorem dX5_model_20 : decode cX5_model 20 = .ok (.istore_n 2, 1) := by decide +kernel
theorem dX5_model_21 : decode cX5_model 21 = .ok (.iconst 0, 1) := by decide +kernel
theorem dX5_model_22 : decode cX5_model 22 = .ok (.istore_n 3, 1) := by decide +kernel
theorem dX5_model_23 : decode cX5_model 23 = .ok (.iload_n 3, 1) := by decide +kernel
theorem dX5_model_24 : decode cX5_model 24 = .ok (.aload_n 0, 1) := by decide +kernel
theorem dX5_model_25 : decode cX5_model 25 = .ok (.getfield 85, 3) := by decide +kernel
theorem dX5_model_28 : decode cX5_model 28 = .ok (.if_icmp .ge 53, 3) := by decide +kernel
theorem dX5_model_31 : decode cX5_model 31 = .ok (.aload_n 0, 1) := by decide +kernel
theorem dX5_model_32 : decode cX5_model 32 = .ok (.getfield 81, 3) := by decide +kernel
theorem dX5_model_35 : decode cX5_model 35 = .ok (.ifCond .ne 46, 3) := by decide +kernel
theorem dX5_model_38 : decode cX5_model 38 = .ok (.iconst 0, 1) := by decide +kernel
theorem dX5_model_39 : decode cX5_model 39 = .ok (.istore 4, 2) := by decide +kernel
theorem dX5_model_41 : decode cX5_model 41 = .ok (.iload 4, 2) := by decide +kernel
theorem dX5_model_43 : decode cX5_model 43 = .ok (.aload_n 0, 1) := by decide +kernel
theorem dX5_model_44 : decode cX5_model 44 = .ok (.getfield 85, 3) := by decide +kernel
theorem dX5_model_47 : decode cX5_model 47 = .ok (.if_icmp .ge 28, 3) := by decide +kernel
theorem dX5_model_50 : decode cX5_model 50 = .ok (.iload_n 2, 1) := by decide +kernel
theorem dX5_model_51 : decode cX5_model 51 = .ok (.aload_n 0, 1) := by decide +kernel
theorem dX5_model_52 : decode cX5_model 52 = .ok (.iload_n 1, 1) := by decide +kernel
theorem dX5_model_53 : decode cX5_model 53 = .ok (.iload_n 3, 1) := by decide +kernel
