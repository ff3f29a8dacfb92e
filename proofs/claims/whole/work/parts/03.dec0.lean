theorem dX0_init_0 : decode cX0_init 0 = .ok (.aload_n 0, 1) := by decide +kernel
theorem dX0_init_1 : decode cX0_init 1 = .ok (.invokespecial 1, 3) := by decide +kernel
theorem dX0_init_4 : decode cX0_init 4 = .ok (.aload_n 0, 1) := by decide +kernel
theorem dX0_init_5 : decode cX0_init 5 = .ok (.aload_n 1, 1) := by decide +kernel
theorem dX0_init_6 : decode cX0_init 6 = .ok (.putfield 7, 3) := by decide +kernel
theorem dX0_init_9 : decode cX0_init 9 = .ok (.aload_n 0, 1) := by decide +kernel
theorem dX0_init_10 : decode cX0_init 10 = .ok (.dload_n 2, 1) := by decide +kernel
theorem dX0_init_11 : decode cX0_init 11 = .ok (.putfield 13, 3) := by decide +kernel
theorem dX0_init_14 : decode cX0_init 14 = .ok (.return_, 1) := by decide +kernel
theorem dX1_init_0 : decode cX1_init 0 = .ok (.aload_n 0, 1) := by decide +kernel
theorem dX1_init_1 : decode cX1_init 1 = .ok (.invokespecial 3, 3) := by decide +kernel
theorem dX1_init_4 : decode cX1_init 4 = .ok (.aload_n 0, 1) := by decide +kernel
theorem dX1_init_5 : decode cX1_init 5 = .ok (.new 9, 3) := by decide +kernel
theorem dX1_init_8 : decode cX1_init 8 = .ok (.dup, 1) := by decide +kernel
theorem dX1_init_9 : decode cX1_init 9 = .ok (.invokespecial 11, 3) := by decide +kernel
theorem dX1_init_12 : decode cX1_init 12 = .ok (.putfield 12, 3) := by decide +kernel
theorem dX1_init_15 : decode cX1_init 15 = .ok (.aload_n 0, 1) := by decide +kernel
theorem dX1_init_16 : decode cX1_init 16 = .ok (.new 9, 3) := by decide +kernel
theorem dX1_init_19 : decode cX1_init 19 = .ok (.dup, 1) := by decide +kernel
theorem dX1_init_20 : decode cX1_init 20 = .ok (.invokespecial 11, 3) := by decide +kernel
theorem dX1_init_23 : decode cX1_init 23 = .ok (.putfield 18, 3) := by decide +kernel
theorem dX1_init_26 : decode cX1_init 26 = .ok (.aload_n 0, 1) := by decide +kernel
theorem dX1_init_27 : decode cX1_init 27 = .ok (.iconst 0, 1) := by decide +kernel
theorem dX1_init_28 : decode cX1_init 28 = .ok (.putfield 21, 3) := by decide +kernel
theorem dX1_init_31 : decode cX1_init 31 = .ok (.aload_n 0, 1) := by decide +kernel
theorem dX1_init_32 : decode cX1_init 32 = .ok (.iconst (-1), 1) := by decide +kernel
theorem dX1_init_33 : decode cX1_init 33 = .ok (.putfield 25, 3) := by decide +kernel
theorem dX1_init_36 : decode cX1_init 36 = .ok (.aload_n 0, 1) := by decide +kernel
theorem dX1_init_37 : decode cX1_init 37 = .ok (.ldc2_w 28, 3) := by decide +kernel
theorem dX1_init_40 : decode cX1_init 40 = .ok (.putfield 30, 3) := by decide +kernel
theorem dX1_init_43 : decode cX1_init 43 = .ok (.aload_n 0, 1) := by decide +kernel
theorem dX1_init_44 : decode cX1_init 44 = .ok (.iload_n 1, 1) := by decide +kernel
theorem dX1_init_45 : decode cX1_init 45 = .ok (.putfield 34, 3) := by decide +kernel
theorem dX1_init_48 : decode cX1_init 48 = .ok (.aload_n 0, 1) := by decide +kernel
theorem dX1_init_49 : decode cX1_init 49 = .ok (.new 37, 3) := by decide +kernel
theorem dX1_init_52 : decode cX1_init 52 = .ok (.dup, 1) := by decide +kernel
theorem dX1_init_53 : decode cX1_init 53 = .ok (.iload_n 2, 1) := by decide +kernel
theorem dX1_init_54 : decode cX1_init 54 = .ok (.invokespecial 39, 3) := by decide +kernel
theorem dX1_init_57 : decode cX1_init 57 = .ok (.putfield 42, 3) := by decide +kernel
theorem dX1_init_60 : decode cX1_init 60 = .ok (.return_, 1) := by decide +kernel
theorem dX2_init_0 : decode cX2_init 0 = .ok (.aload_n 0, 1) := by decide +kernel
theorem dX2_init_1 : decode cX2_init 1 = .ok (.invokespecial 1, 3) := by decide +kernel
theorem dX2_init_4 : decode cX2_init 4 = .ok (.aload_n 0, 1) := by decide +kernel
theorem dX2_init_5 : decode cX2_init 5 = .ok (.iconst 0, 1) := by decide +kernel
theorem dX2_init_6 : decode cX2_init 6 = .ok (.putfield 7, 3) := by decide +kernel
theorem dX2_init_9 : decode cX2_init 9 = .ok (.aload_n 0, 1) := by decide +kernel
theorem dX2_init_10 : decode cX2_init 10 = .ok (.iconst 0, 1) := by decide +kernel
theorem dX2_init_11 : decode cX2_init 11 = .ok (.putfield 13, 3) := by decide +kernel
theorem dX2_init_14 : decode cX2_init 14 = .ok (.aload_n 0, 1) := by decide +kernel
theorem dX2_init_15 : decode cX2_init 15 = .ok (.iload_n 1, 1) := by decide +kernel
theorem dX2_init_16 : decode cX2_init 16 = .ok (.putfield 16, 3) := by decide +kernel
theorem dX2_init_19 : decode cX2_init 19 = .ok (.aload_n 0, 1) := by decide +kernel
theorem dX2_init_20 : decode cX2_init 20 = .ok (.aload_n 2, 1) := by decide +kernel
theorem dX2_init_21 : decode cX2_init 21 = .ok (.putfield 19, 3) := by decide +kernel
theorem dX2_init_24 : decode cX2_init 24 = .ok (.aload_n 0, 1) := by decide +kernel
theorem dX2_init_25 : decode cX2_init 25 = .ok (.aload_n 3, 1) := by decide +kernel
theorem dX2_init_26 : decode cX2_init 26 = .ok (.putfield 23, 3) := by decide +kernel
theorem dX2_init_29 : decode cX2_init 29 = .ok (.aload_n 0, 1) := by decide +kernel
theorem dX2_init_30 : decode cX2_init 30 = .ok (.dload 4, 2) := by decide +kernel
theorem dX2_init_32 : decode cX2_init 32 = .ok (.putfield 26, 3) := by decide +kernel
theorem dX2_init_35 : decode cX2_init 35 = .ok (.return_, 1) := by decide +kernel
theorem dX3_init_0 : decode cX3_init 0 = .ok (.aload_n 0, 1) := by decide +kernel
theorem dX3_init_1 : decode cX3_init 1 = .ok (.invokespecial 1, 3) := by decide +kernel
theorem dX3_init_4 : decode cX3_init 4 = .ok (.aload_n 0, 1) := by decide +kernel
theorem dX3_init_5 : decode cX3_init 5 = .ok (.iconst 0, 1) := by decide +kernel
theorem dX3_init_6 : decode cX3_init 6 = .ok (.putfield 7, 3) := by decide +kernel
theorem dX3_init_9 : decode cX3_init 9 = .ok (.aload_n 0, 1) := by decide +kernel
theorem dX3_init_10 : decode cX3_init 10 = .ok (.iload_n 1, 1) := by decide +kernel
theorem dX3_init_11 : decode cX3_init 11 = .ok (.newarray .double, 2) := by decide +kernel
theorem dX3_init_13 : decode cX3_init 13 = .ok (.putfield 13, 3) := by decide +kernel
theorem dX3_init_16 : decode cX3_init 16 = .ok (.aload_n 0, 1) := by decide +kernel
theorem dX3_init_17 : decode cX3_init 17 = .ok (.iload_n 1, 1) := by decide +kernel
theorem dX3_init_18 : decode cX3_init 18 = .ok (.anewarray 17, 3) := by decide +kernel
theorem dX3_init_21 : decode cX3_init 21 = .ok (.putfield 19, 3) := by decide +kernel
theorem dX3_init_24 : decode cX3_init 24 = .ok (.aload_n 0, 1) := by decide +kernel
theorem dX3_init_25 : decode cX3_init 25 = .ok (.iload_n 1, 1) := by decide +kernel
theorem dX3_init_26 : decode cX3_init 26 = .ok (.newarray .int, 2) := by decide +kernel
theorem dX3_init_28 : decode cX3_init 28 = .ok (.putfield 23, 3) := by decide +kernel
theorem dX3_init_31 : decode cX3_init 31 = .ok (.aload_n 0, 1) := by decide +kernel
theorem dX3_init_32 : decode cX3_init 32 = .ok (.iload_n 1, 1) := by decide +kernel
theorem dX3_init_33 : decode cX3_init 33 = .ok (.newarray .int, 2) := by decide +kernel
theorem dX3_init_35 : decode cX3_init 35 = .ok (.putfield 27, 3) := by decide +kernel
theorem dX3_init_38 : decode cX3_init 38 = .ok (.return_, 1) := by decide +kernel
theorem dX4_init_0 : decode cX4_init 0 = .ok (.aload_n 0, 1) := by decide +kernel
theorem dX4_init_1 : decode cX4_init 1 = .ok (.invokespecial 3, 3) := by decide +kernel
theorem dX4_init_4 : decode cX4_init 4 = .ok (.aload_n 0, 1) := by decide +kernel
theorem dX4_init_5 : decode cX4_init 5 = .ok (.new 9, 3) := by decide +kernel
theorem dX4_init_8 : decode cX4_init 8 = .ok (.dup, 1) := by decide +kernel
theorem dX4_init_9 : decode cX4_init 9 = .ok (.invokespecial 11, 3) := by decide +kernel
theorem dX4_init_12 : decode cX4_init 12 = .ok (.putfield 12, 3) := by decide +kernel
theorem dX4_init_15 : decode cX4_init 15 = .ok (.aload_n 0, 1) := by decide +kernel
theorem dX4_init_16 : decode cX4_init 16 = .ok (.new 9, 3) := by decide +kernel
theorem dX4_init_19 : decode cX4_init 19 = .ok (.dup, 1) := by decide +kernel
theorem dX4_init_20 : decode cX4_init 20 = .ok (.invokespecial 11, 3) := by decide +kernel
theorem dX4_init_23 : decode cX4_init 23 = .ok (.putfield 16, 3) := by decide +kernel
theorem dX4_init_26 : decode cX4_init 26 = .ok (.aload_n 0, 1) := by decide +kernel
theorem dX4_init_27 : decode cX4_init 27 = .ok (.new 9, 3) := by decide +kernel
theorem dX4_init_30 : decode cX4_init 30 = .ok (.dup, 1) := by decide +kernel
theorem dX4_init_31 : decode cX4_init 31 = .ok (.invokespecial 11, 3) := by decide +kernel
theorem dX4_init_34 : decode cX4_init 34 = .ok (.putfield 19, 3) := by decide +kernel
theorem dX4_init_37 : decode cX4_init 37 = .ok (.aload_n 0, 1) := by decide +kernel
theorem dX4_init_38 : decode cX4_init 38 = .ok (.new 9, 3) := by decide +kernel
theorem dX4_init_41 : decode cX4_init 41 = .ok (.dup, 1) := by decide +kernel
theorem dX4_init_42 : decode cX4_init 42 = .ok (.invokespecial 11, 3) := by decide +kernel
theorem dX4_init_45 : decode cX4_init 45 = .ok (.putfield 22, 3) := by decide +kernel
theorem dX4_init_48 : decode cX4_init 48 = .ok (.aload_n 0, 1) := by decide +kernel
theorem dX4_init_49 : decode cX4_init 49 = .ok (.new 9, 3) := by decide +kernel
theorem dX4_init_52 : decode cX4_init 52 = .ok (.dup, 1) := by decide +kernel
theorem dX4_init_53 : decode cX4_init 53 = .ok (.invokespecial 11, 3) := by decide +kernel
theorem dX4_init_56 : decode cX4_init 56 = .ok (.putfield 25, 3) := by decide +kernel
theorem dX4_init_59 : decode cX4_init 59 = .ok (.aload_n 0, 1) := by decide +kernel
theorem dX4_init_60 : decode cX4_init 60 = .ok (.new 9, 3) := by decide +kernel
theorem dX4_init_63 : decode cX4_init 63 = .ok (.dup, 1) := by decide +kernel
theorem dX4_init_64 : decode cX4_init 64 = .ok (.invokespecial 11, 3) := by decide +kernel
theorem dX4_init_67 : decode cX4_init 67 = .ok (.putfield 28, 3) := by decide +kernel
theorem dX4_init_70 : decode cX4_init 70 = .ok (.aload_n 0, 1) := by decide +kernel
theorem dX4_init_71 : decode cX4_init 71 = .ok (.bipush 10, 2) := by decide +kernel
theorem dX4_init_73 : decode cX4_init 73 = .ok (.newarray .int, 2) := by decide +kernel
theorem dX4_init_75 : decode cX4_init 75 = .ok (.putfield 31, 3) := by decide +kernel
theorem dX4_init_78 : decode cX4_init 78 = .ok (.aload_n 0, 1) := by decide +kernel
theorem dX4_init_79 : decode cX4_init 79 = .ok (.new 35, 3) := by decide +kernel
theorem dX4_init_82 : decode cX4_init 82 = .ok (.dup, 1) := by decide +kernel
theorem dX4_init_83 : decode cX4_init 83 = .ok (.iconst (-1), 1) := by decide +kernel
theorem dX4_init_84 : decode cX4_init 84 = .ok (.sipush 320, 3) := by decide +kernel
theorem dX4_init_87 : decode cX4_init 87 = .ok (.invokespecial 37, 3) := by decide +kernel
theorem dX4_init_90 : decode cX4_init 90 = .ok (.putfield 40, 3) := by decide +kernel
theorem dX4_init_93 : decode cX4_init 93 = .ok (.aload_n 0, 1) := by decide +kernel
theorem dX4_init_94 : decode cX4_init 94 = .ok (.new 35, 3) := by decide +kernel
theorem dX4_init_97 : decode cX4_init 97 = .ok (.dup, 1) := by decide +kernel
theorem dX4_init_98 : decode cX4_init 98 = .ok (.bipush 60, 2) := by decide +kernel
theorem dX4_init_100 : decode cX4_init 100 = .ok (.iconst 1, 1) := by decide +kernel
theorem dX4_init_101 : decode cX4_init 101 = .ok (.invokespecial 37, 3) := by decide +kernel
theorem dX4_init_104 : decode cX4_init 104 = .ok (.putfield 44, 3) := by decide +kernel
theorem dX4_init_107 : decode cX4_init 107 = .ok (.aload_n 0, 1) := by decide +kernel
theorem dX4_init_108 : decode cX4_init 108 = .ok (.bipush 8, 2) := by decide +kernel
theorem dX4_init_110 : decode cX4_init 110 = .ok (.newarray .int, 2) := by decide +kernel
theorem dX4_init_112 : decode cX4_init 112 = .ok (.putfield 47, 3) := by decide +kernel
theorem dX4_init_115 : decode cX4_init 115 = .ok (.aload_n 0, 1) := by decide +kernel
theorem dX4_init_116 : decode cX4_init 116 = .ok (.iconst 0, 1) := by decide +kernel
theorem dX4_init_117 : decode cX4_init 117 = .ok (.putfield 50, 3) := by decide +kernel
theorem dX4_init_120 : decode cX4_init 120 = .ok (.aload_n 0, 1) := by decide +kernel
theorem dX4_init_121 : decode cX4_init 121 = .ok (.getfield 31, 3) := by decide +kernel
theorem dX4_init_124 : decode cX4_init 124 = .ok (.iconst (-1), 1) := by decide +kernel
theorem dX4_init_125 : decode cX4_init 125 = .ok (.invokestatic 54, 3) := by decide +kernel
theorem dX4_init_128 : decode cX4_init 128 = .ok (.aload_n 0, 1) := by decide +kernel
theorem dX4_init_129 : decode cX4_init 129 = .ok (.getfield 44, 3) := by decide +kernel
theorem dX4_init_132 : decode cX4_init 132 = .ok (.getfield 60, 3) := by decide +kernel
theorem dX4_init_135 : decode cX4_init 135 = .ok (.iconst 1, 1) := by decide +kernel
theorem dX4_init_136 : decode cX4_init 136 = .ok (.putfield 64, 3) := by decide +kernel
theorem dX4_init_139 : decode cX4_init 139 = .ok (.return_, 1) := by decide +kernel
theorem dX4_pin_0 : decode cX4_pin 0 = .ok (.aload_n 0, 1) := by decide +kernel
theorem dX4_pin_1 : decode cX4_pin 1 = .ok (.getfield 12, 3) := by decide +kernel
theorem dX4_pin_4 : decode cX4_pin 4 = .ok (.invokevirtual 70, 3) := by decide +kernel
theorem dX4_pin_7 : decode cX4_pin 7 = .ok (.bipush 60, 2) := by decide +kernel
theorem dX4_pin_9 : decode cX4_pin 9 = .ok (.if_icmp .lt 13, 3) := by decide +kernel
theorem dX4_pin_12 : decode cX4_pin 12 = .ok (.new 73, 3) := by decide +kernel
theorem dX4_pin_15 : decode cX4_pin 15 = .ok (.dup, 1) := by decide +kernel
theorem dX4_pin_16 : decode cX4_pin 16 = .ok (.ldc 75, 2) := by decide +kernel
theorem dX4_pin_18 : decode cX4_pin 18 = .ok (.invokespecial 77, 3) := by decide +kernel
theorem dX4_pin_21 : decode cX4_pin 21 = .ok (.athrow, 1) := by decide +kernel
theorem dX4_pin_22 : decode cX4_pin 22 = .ok (.new 35, 3) := by decide +kernel
theorem dX4_pin_25 : decode cX4_pin 25 = .ok (.dup, 1) := by decide +kernel
theorem dX4_pin_26 : decode cX4_pin 26 = .ok (.aload_n 0, 1) := by decide +kernel
theorem dX4_pin_27 : decode cX4_pin 27 = .ok (.getfield 28, 3) := by decide +kernel
theorem dX4_pin_30 : decode cX4_pin 30 = .ok (.invokevirtual 70, 3) := by decide +kernel
theorem dX4_pin_33 : decode cX4_pin 33 = .ok (.sipush 320, 3) := by decide +kernel
theorem dX4_pin_36 : decode cX4_pin 36 = .ok (.invokespecial 37, 3) := by decide +kernel
theorem dX4_pin_39 : decode cX4_pin 39 = .ok (.astore_n 1, 1) := by decide +kernel
theorem dX4_pin_40 : decode cX4_pin 40 = .ok (.aload_n 0, 1) := by decide +kernel
theorem dX4_pin_41 : decode cX4_pin 41 = .ok (.getfield 28, 3) := by decide +kernel
theorem dX4_pin_44 : decode cX4_pin 44 = .ok (.aload_n 1, 1) := by decide +kernel
theorem dX4_pin_45 : decode cX4_pin 45 = .ok (.invokevirtual 80, 3) := by decide +kernel
theorem dX4_pin_48 : decode cX4_pin 48 = .ok (.pop, 1) := by decide +kernel
theorem dX4_pin_49 : decode cX4_pin 49 = .ok (.aload_n 0, 1) := by decide +kernel
theorem dX4_pin_50 : decode cX4_pin 50 = .ok (.getfield 12, 3) := by decide +kernel
theorem dX4_pin_53 : decode cX4_pin 53 = .ok (.aload_n 1, 1) := by decide +kernel
theorem dX4_pin_54 : decode cX4_pin 54 = .ok (.invokevirtual 80, 3) := by decide +kernel
theorem dX4_pin_57 : decode cX4_pin 57 = .ok (.pop, 1) := by decide +kernel
theorem dX4_pin_58 : decode cX4_pin 58 = .ok (.aload_n 0, 1) := by decide +kernel
theorem dX4_pin_59 : decode cX4_pin 59 = .ok (.iconst 0, 1) := by decide +kernel
theorem dX4_pin_60 : decode cX4_pin 60 = .ok (.putfield 50, 3) := by decide +kernel
theorem dX4_pin_63 : decode cX4_pin 63 = .ok (.aload_n 0, 1) := by decide +kernel
theorem dX4_pin_64 : decode cX4_pin 64 = .ok (.getfield 12, 3) := by decide +kernel
theorem dX4_pin_67 : decode cX4_pin 67 = .ok (.invokevirtual 70, 3) := by decide +kernel
theorem dX4_pin_70 : decode cX4_pin 70 = .ok (.iconst 1, 1) := by decide +kernel
theorem dX4_pin_71 : decode cX4_pin 71 = .ok (.isub, 1) := by decide +kernel
theorem dX4_pin_72 : decode cX4_pin 72 = .ok (.ireturn, 1) := by decide +kernel
theorem dX4_arc_0 : decode cX4_arc 0 = .ok (.iload_n 1, 1) := by decide +kernel
theorem dX4_arc_1 : decode cX4_arc 1 = .ok (.aload_n 0, 1) := by decide +kernel
theorem dX4_arc_2 : decode cX4_arc 2 = .ok (.getfield 12, 3) := by decide +kernel
theorem dX4_arc_5 : decode cX4_arc 5 = .ok (.invokevirtual 70, 3) := by decide +kernel
theorem dX4_arc_8 : decode cX4_arc 8 = .ok (.invokestatic 84, 3) := by decide +kernel
theorem dX4_arc_11 : decode cX4_arc 11 = .ok (.iload_n 2, 1) := by decide +kernel
theorem dX4_arc_12 : decode cX4_arc 12 = .ok (.aload_n 0, 1) := by decide +kernel
theorem dX4_arc_13 : decode cX4_arc 13 = .ok (.getfield 12, 3) := by decide +kernel
theorem dX4_arc_16 : decode cX4_arc 16 = .ok (.invokevirtual 70, 3) := by decide +kernel
theorem dX4_arc_19 : decode cX4_arc 19 = .ok (.invokestatic 84, 3) := by decide +kernel
theorem dX4_arc_22 : decode cX4_arc 22 = .ok (.aload_n 0, 1) := by decide +kernel
theorem dX4_arc_23 : decode cX4_arc 23 = .ok (.getfield 16, 3) := by decide +kernel
theorem dX4_arc_26 : decode cX4_arc 26 = .ok (.invokevirtual 70, 3) := by decide +kernel
theorem dX4_arc_29 : decode cX4_arc 29 = .ok (.sipush 150, 3) := by decide +kernel
theorem dX4_arc_32 : decode cX4_arc 32 = .ok (.if_icmp .lt 13, 3) := by decide +kernel
theorem dX4_arc_35 : decode cX4_arc 35 = .ok (.new 73, 3) := by decide +kernel
theorem dX4_arc_38 : decode cX4_arc 38 = .ok (.dup, 1) := by decide +kernel
theorem dX4_arc_39 : decode cX4_arc 39 = .ok (.ldc 87, 2) := by decide +kernel
theorem dX4_arc_41 : decode cX4_arc 41 = .ok (.invokespecial 77, 3) := by decide +kernel
theorem dX4_arc_44 : decode cX4_arc 44 = .ok (.athrow, 1) := by decide +kernel
theorem dX4_arc_45 : decode cX4_arc 45 = .ok (.dload_n 3, 1) := by decide +kernel
theorem dX4_arc_46 : decode cX4_arc 46 = .ok (.invokestatic 89, 3) := by decide +kernel
theorem dX4_arc_49 : decode cX4_arc 49 = .ok (.ifCond .ne 13, 3) := by decide +kernel
theorem dX4_arc_52 : decode cX4_arc 52 = .ok (.new 93, 3) := by decide +kernel
theorem dX4_arc_55 : decode cX4_arc 55 = .ok (.dup, 1) := by decide +kernel
theorem dX4_arc_56 : decode cX4_arc 56 = .ok (.ldc 95, 2) := by decide +kernel
theorem dX4_arc_58 : decode cX4_arc 58 = .ok (.invokespecial 97, 3) := by decide +kernel
theorem dX4_arc_61 : decode cX4_arc 61 = .ok (.athrow, 1) := by decide +kernel
theorem dX4_arc_62 : decode cX4_arc 62 = .ok (.aload_n 0, 1) := by decide +kernel
theorem dX4_arc_63 : decode cX4_arc 63 = .ok (.getfield 12, 3) := by decide +kernel
theorem dX4_arc_66 : decode cX4_arc 66 = .ok (.iload_n 1, 1) := by decide +kernel
theorem dX4_arc_67 : decode cX4_arc 67 = .ok (.invokevirtual 98, 3) := by decide +kernel
theorem dX4_arc_70 : decode cX4_arc 70 = .ok (.checkcast 35, 3) := by decide +kernel
theorem dX4_arc_73 : decode cX4_arc 73 = .ok (.astore 5, 2) := by decide +kernel
theorem dX4_arc_75 : decode cX4_arc 75 = .ok (.aload_n 0, 1) := by decide +kernel
theorem dX4_arc_76 : decode cX4_arc 76 = .ok (.getfield 12, 3) := by decide +kernel
theorem dX4_arc_79 : decode cX4_arc 79 = .ok (.iload_n 2, 1) := by decide +kernel
theorem dX4_arc_80 : decode cX4_arc 80 = .ok (.invokevirtual 98, 3) := by decide +kernel
theorem dX4_arc_83 : decode cX4_arc 83 = .ok (.checkcast 35, 3) := by decide +kernel
theorem dX4_arc_86 : decode cX4_arc 86 = .ok (.astore 6, 2) := by decide +kernel
theorem dX4_arc_88 : decode cX4_arc 88 = .ok (.aload_n 0, 1) := by decide +kernel
theorem dX4_arc_89 : decode cX4_arc 89 = .ok (.aload 6, 2) := by decide +kernel
theorem dX4_arc_91 : decode cX4_arc 91 = .ok (.iconst (-1), 1) := by decide +kernel
theorem dX4_arc_92 : decode cX4_arc 92 = .ok (.invokevirtual 102, 3) := by decide +kernel
theorem dX4_arc_95 : decode cX4_arc 95 = .ok (.aload 5, 2) := by decide +kernel
theorem dX4_arc_97 : decode cX4_arc 97 = .ok (.getfield 106, 3) := by decide +kernel
theorem dX4_arc_100 : decode cX4_arc 100 = .ok (.dconst 0, 1) := by decide +kernel
theorem dX4_arc_101 : decode cX4_arc 101 = .ok (.dcmp .l, 1) := by decide +kernel
theorem dX4_arc_102 : decode cX4_arc 102 = .ok (.ifCond .lt 13, 3) := by decide +kernel
theorem dX4_arc_105 : decode cX4_arc 105 = .ok (.new 93, 3) := by decide +kernel
theorem dX4_arc_108 : decode cX4_arc 108 = .ok (.dup, 1) := by decide +kernel
theorem dX4_arc_109 : decode cX4_arc 109 = .ok (.ldc 110, 2) := by decide +kernel
theorem dX4_arc_111 : decode cX4_arc 111 = .ok (.invokespecial 97, 3) := by decide +kernel
theorem dX4_arc_114 : decode cX4_arc 114 = .ok (.athrow, 1) := by decide +kernel
theorem dX4_arc_115 : decode cX4_arc 115 = .ok (.aload_n 0, 1) := by decide +kernel
theorem dX4_arc_116 : decode cX4_arc 116 = .ok (.invokevirtual 112, 3) := by decide +kernel
theorem dX4_arc_119 : decode cX4_arc 119 = .ok (.new 115, 3) := by decide +kernel
theorem dX4_arc_122 : decode cX4_arc 122 = .ok (.dup, 1) := by decide +kernel
theorem dX4_arc_123 : decode cX4_arc 123 = .ok (.aload_n 0, 1) := by decide +kernel
theorem dX4_arc_124 : decode cX4_arc 124 = .ok (.getfield 16, 3) := by decide +kernel
theorem dX4_arc_127 : decode cX4_arc 127 = .ok (.invokevirtual 70, 3) := by decide +kernel
theorem dX4_arc_130 : decode cX4_arc 130 = .ok (.aload 5, 2) := by decide +kernel
theorem dX4_arc_132 : decode cX4_arc 132 = .ok (.aload 6, 2) := by decide +kernel
theorem dX4_arc_134 : decode cX4_arc 134 = .ok (.dload_n 3, 1) := by decide +kernel
theorem dX4_arc_135 : decode cX4_arc 135 = .ok (.invokespecial 117, 3) := by decide +kernel
theorem dX4_arc_138 : decode cX4_arc 138 = .ok (.astore 7, 2) := by decide +kernel
theorem dX4_arc_140 : decode cX4_arc 140 = .ok (.aload 5, 2) := by decide +kernel
theorem dX4_arc_142 : decode cX4_arc 142 = .ok (.getfield 120, 3) := by decide +kernel
theorem dX4_arc_145 : decode cX4_arc 145 = .ok (.aload 7, 2) := by decide +kernel
theorem dX4_arc_147 : decode cX4_arc 147 = .ok (.invokevirtual 80, 3) := by decide +kernel
theorem dX4_arc_150 : decode cX4_arc 150 = .ok (.pop, 1) := by decide +kernel
theorem dX4_arc_151 : decode cX4_arc 151 = .ok (.aload 6, 2) := by decide +kernel
theorem dX4_arc_153 : decode cX4_arc 153 = .ok (.getfield 123, 3) := by decide +kernel
theorem dX4_arc_156 : decode cX4_arc 156 = .ok (.aload 7, 2) := by decide +kernel
theorem dX4_arc_158 : decode cX4_arc 158 = .ok (.invokevirtual 80, 3) := by decide +kernel
theorem dX4_arc_161 : decode cX4_arc 161 = .ok (.pop, 1) := by decide +kernel
theorem dX4_arc_162 : decode cX4_arc 162 = .ok (.aload_n 0, 1) := by decide +kernel
theorem dX4_arc_163 : decode cX4_arc 163 = .ok (.getfield 16, 3) := by decide +kernel
theorem dX4_arc_166 : decode cX4_arc 166 = .ok (.aload 7, 2) := by decide +kernel
theorem dX4_arc_168 : decode cX4_arc 168 = .ok (.invokevirtual 80, 3) := by decide +kernel
theorem dX4_arc_171 : decode cX4_arc 171 = .ok (.pop, 1) := by decide +kernel
theorem dX4_arc_172 : decode cX4_arc 172 = .ok (.aload_n 0, 1) := by decide +kernel
theorem dX4_arc_173 : decode cX4_arc 173 = .ok (.iconst 0, 1) := by decide +kernel
theorem dX4_arc_174 : decode cX4_arc 174 = .ok (.putfield 50, 3) := by decide +kernel
theorem dX4_arc_177 : decode cX4_arc 177 = .ok (.aload 7, 2) := by decide +kernel
theorem dX4_arc_179 : decode cX4_arc 179 = .ok (.getfield 126, 3) := by decide +kernel
theorem dX4_arc_182 : decode cX4_arc 182 = .ok (.ireturn, 1) := by decide +kernel
theorem dX4_end_0 : decode cX4_end 0 = .ok (.iload_n 1, 1) := by decide +kernel
theorem dX4_end_1 : decode cX4_end 1 = .ok (.aload_n 0, 1) := by decide +kernel
theorem dX4_end_2 : decode cX4_end 2 = .ok (.getfield 12, 3) := by decide +kernel
theorem dX4_end_5 : decode cX4_end 5 = .ok (.invokevirtual 70, 3) := by decide +kernel
theorem dX4_end_8 : decode cX4_end 8 = .ok (.invokestatic 84, 3) := by decide +kernel
theorem dX4_end_11 : decode cX4_end 11 = .ok (.aload_n 0, 1) := by decide +kernel
theorem dX4_end_12 : decode cX4_end 12 = .ok (.getfield 22, 3) := by decide +kernel
theorem dX4_end_15 : decode cX4_end 15 = .ok (.invokevirtual 70, 3) := by decide +kernel
theorem dX4_end_18 : decode cX4_end 18 = .ok (.bipush 30, 2) := by decide +kernel
theorem dX4_end_20 : decode cX4_end 20 = .ok (.if_icmp .lt 13, 3) := by decide +kernel
theorem dX4_end_23 : decode cX4_end 23 = .ok (.new 73, 3) := by decide +kernel
theorem dX4_end_26 : decode cX4_end 26 = .ok (.dup, 1) := by decide +kernel
theorem dX4_end_27 : decode cX4_end 27 = .ok (.ldc 129, 2) := by decide +kernel
theorem dX4_end_29 : decode cX4_end 29 = .ok (.invokespecial 77, 3) := by decide +kernel
theorem dX4_end_32 : decode cX4_end 32 = .ok (.athrow, 1) := by decide +kernel
theorem dX4_end_33 : decode cX4_end 33 = .ok (.dload_n 2, 1) := by decide +kernel
theorem dX4_end_34 : decode cX4_end 34 = .ok (.invokestatic 131, 3) := by decide +kernel
theorem dX4_end_37 : decode cX4_end 37 = .ok (.aload_n 0, 1) := by decide +kernel
theorem dX4_end_38 : decode cX4_end 38 = .ok (.getfield 12, 3) := by decide +kernel
theorem dX4_end_41 : decode cX4_end 41 = .ok (.iload_n 1, 1) := by decide +kernel
theorem dX4_end_42 : decode cX4_end 42 = .ok (.invokevirtual 98, 3) := by decide +kernel
theorem dX4_end_45 : decode cX4_end 45 = .ok (.checkcast 35, 3) := by decide +kernel
theorem dX4_end_48 : decode cX4_end 48 = .ok (.astore 4, 2) := by decide +kernel
theorem dX4_end_50 : decode cX4_end 50 = .ok (.new 115, 3) := by decide +kernel
theorem dX4_end_53 : decode cX4_end 53 = .ok (.dup, 1) := by decide +kernel
theorem dX4_end_54 : decode cX4_end 54 = .ok (.aload_n 0, 1) := by decide +kernel
theorem dX4_end_55 : decode cX4_end 55 = .ok (.getfield 22, 3) := by decide +kernel
theorem dX4_end_58 : decode cX4_end 58 = .ok (.invokevirtual 70, 3) := by decide +kernel
theorem dX4_end_61 : decode cX4_end 61 = .ok (.aload 4, 2) := by decide +kernel
theorem dX4_end_63 : decode cX4_end 63 = .ok (.aload_n 0, 1) := by decide +kernel
theorem dX4_end_64 : decode cX4_end 64 = .ok (.getfield 44, 3) := by decide +kernel
theorem dX4_end_67 : decode cX4_end 67 = .ok (.dconst 0, 1) := by decide +kernel
theorem dX4_end_68 : decode cX4_end 68 = .ok (.dload_n 2, 1) := by decide +kernel
theorem dX4_end_69 : decode cX4_end 69 = .ok (.dsub, 1) := by decide +kernel
theorem dX4_end_70 : decode cX4_end 70 = .ok (.invokespecial 117, 3) := by decide +kernel
theorem dX4_end_73 : decode cX4_end 73 = .ok (.astore 5, 2) := by decide +kernel
theorem dX4_end_75 : decode cX4_end 75 = .ok (.aload 4, 2) := by decide +kernel
theorem dX4_end_77 : decode cX4_end 77 = .ok (.getfield 120, 3) := by decide +kernel
theorem dX4_end_80 : decode cX4_end 80 = .ok (.aload 4, 2) := by decide +kernel
theorem dX4_end_82 : decode cX4_end 82 = .ok (.getfield 135, 3) := by decide +kernel
theorem dX4_end_85 : decode cX4_end 85 = .ok (.aload 5, 2) := by decide +kernel
theorem dX4_end_87 : decode cX4_end 87 = .ok (.invokevirtual 138, 3) := by decide +kernel
theorem dX4_end_90 : decode cX4_end 90 = .ok (.aload 4, 2) := by decide +kernel
theorem dX4_end_92 : decode cX4_end 92 = .ok (.dup, 1) := by decide +kernel
theorem dX4_end_93 : decode cX4_end 93 = .ok (.getfield 135, 3) := by decide +kernel
theorem dX4_end_96 : decode cX4_end 96 = .ok (.iconst 1, 1) := by decide +kernel
theorem dX4_end_97 : decode cX4_end 97 = .ok (.iadd, 1) := by decide +kernel
theorem dX4_end_98 : decode cX4_end 98 = .ok (.putfield 135, 3) := by decide +kernel
theorem dX4_end_101 : decode cX4_end 101 = .ok (.aload_n 0, 1) := by decide +kernel
theorem dX4_end_102 : decode cX4_end 102 = .ok (.getfield 22, 3) := by decide +kernel
theorem dX4_end_105 : decode cX4_end 105 = .ok (.aload 5, 2) := by decide +kernel
theorem dX4_end_107 : decode cX4_end 107 = .ok (.invokevirtual 80, 3) := by decide +kernel
theorem dX4_end_110 : decode cX4_end 110 = .ok (.pop, 1) := by decide +kernel
theorem dX4_end_111 : decode cX4_end 111 = .ok (.aload_n 0, 1) := by decide +kernel
theorem dX4_end_112 : decode cX4_end 112 = .ok (.iconst 0, 1) := by decide +kernel
theorem dX4_end_113 : decode cX4_end 113 = .ok (.putfield 50, 3) := by decide +kernel
theorem dX4_end_116 : decode cX4_end 116 = .ok (.aload 5, 2) := by decide +kernel
theorem dX4_end_118 : decode cX4_end 118 = .ok (.getfield 126, 3) := by decide +kernel
theorem dX4_end_121 : decode cX4_end 121 = .ok (.ireturn, 1) := by decide +kernel
theorem dX4_start_0 : decode cX4_start 0 = .ok (.iload_n 1, 1) := by decide +kernel
theorem dX4_start_1 : decode cX4_start 1 = .ok (.aload_n 0, 1) := by decide +kernel
theorem dX4_start_2 : decode cX4_start 2 = .ok (.getfield 12, 3) := by decide +kernel
theorem dX4_start_5 : decode cX4_start 5 = .ok (.invokevirtual 70, 3) := by decide +kernel
theorem dX4_start_8 : decode cX4_start 8 = .ok (.invokestatic 84, 3) := by decide +kernel
theorem dX4_start_11 : decode cX4_start 11 = .ok (.aload_n 0, 1) := by decide +kernel
theorem dX4_start_12 : decode cX4_start 12 = .ok (.getfield 19, 3) := by decide +kernel
theorem dX4_start_15 : decode cX4_start 15 = .ok (.invokevirtual 70, 3) := by decide +kernel
theorem dX4_start_18 : decode cX4_start 18 = .ok (.bipush 30, 2) := by decide +kernel
theorem dX4_start_20 : decode cX4_start 20 = .ok (.if_icmp .lt 13, 3) := by decide +kernel
theorem dX4_start_23 : decode cX4_start 23 = .ok (.new 73, 3) := by decide +kernel
theorem dX4_start_26 : decode cX4_start 26 = .ok (.dup, 1) := by decide +kernel
theorem dX4_start_27 : decode cX4_start 27 = .ok (.ldc 141, 2) := by decide +kernel
theorem dX4_start_29 : decode cX4_start 29 = .ok (.invokespecial 77, 3) := by decide +kernel
theorem dX4_start_32 : decode cX4_start 32 = .ok (.athrow, 1) := by decide +kernel
theorem dX4_start_33 : decode cX4_start 33 = .ok (.dload_n 2, 1) := by decide +kernel
theorem dX4_start_34 : decode cX4_start 34 = .ok (.invokestatic 131, 3) := by decide +kernel
theorem dX4_start_37 : decode cX4_start 37 = .ok (.aload_n 0, 1) := by decide +kernel
theorem dX4_start_38 : decode cX4_start 38 = .ok (.getfield 12, 3) := by decide +kernel
theorem dX4_start_41 : decode cX4_start 41 = .ok (.iload_n 1, 1) := by decide +kernel
theorem dX4_start_42 : decode cX4_start 42 = .ok (.invokevirtual 98, 3) := by decide +kernel
theorem dX4_start_45 : decode cX4_start 45 = .ok (.checkcast 35, 3) := by decide +kernel
theorem dX4_start_48 : decode cX4_start 48 = .ok (.astore 4, 2) := by decide +kernel
theorem dX4_start_50 : decode cX4_start 50 = .ok (.new 115, 3) := by decide +kernel
theorem dX4_start_53 : decode cX4_start 53 = .ok (.dup, 1) := by decide +kernel
theorem dX4_start_54 : decode cX4_start 54 = .ok (.aload_n 0, 1) := by decide +kernel
theorem dX4_start_55 : decode cX4_start 55 = .ok (.getfield 19, 3) := by decide +kernel
theorem dX4_start_58 : decode cX4_start 58 = .ok (.invokevirtual 70, 3) := by decide +kernel
theorem dX4_start_61 : decode cX4_start 61 = .ok (.aload_n 0, 1) := by decide +kernel
theorem dX4_start_62 : decode cX4_start 62 = .ok (.getfield 40, 3) := by decide +kernel
theorem dX4_start_65 : decode cX4_start 65 = .ok (.aload 4, 2) := by decide +kernel
theorem dX4_start_67 : decode cX4_start 67 = .ok (.dload_n 2, 1) := by decide +kernel
theorem dX4_start_68 : decode cX4_start 68 = .ok (.invokespecial 117, 3) := by decide +kernel
theorem dX4_start_71 : decode cX4_start 71 = .ok (.astore 5, 2) := by decide +kernel
theorem dX4_start_73 : decode cX4_start 73 = .ok (.aload_n 0, 1) := by decide +kernel
theorem dX4_start_74 : decode cX4_start 74 = .ok (.getfield 40, 3) := by decide +kernel
theorem dX4_start_77 : decode cX4_start 77 = .ok (.getfield 120, 3) := by decide +kernel
theorem dX4_start_80 : decode cX4_start 80 = .ok (.aload 5, 2) := by decide +kernel
theorem dX4_start_82 : decode cX4_start 82 = .ok (.invokevirtual 80, 3) := by decide +kernel
theorem dX4_start_85 : decode cX4_start 85 = .ok (.pop, 1) := by decide +kernel
theorem dX4_start_86 : decode cX4_start 86 = .ok (.aload 4, 2) := by decide +kernel
theorem dX4_start_88 : decode cX4_start 88 = .ok (.getfield 123, 3) := by decide +kernel
theorem dX4_start_91 : decode cX4_start 91 = .ok (.aload 5, 2) := by decide +kernel
theorem dX4_start_93 : decode cX4_start 93 = .ok (.invokevirtual 80, 3) := by decide +kernel
theorem dX4_start_96 : decode cX4_start 96 = .ok (.pop, 1) := by decide +kernel
theorem dX4_start_97 : decode cX4_start 97 = .ok (.aload_n 0, 1) := by decide +kernel
theorem dX4_start_98 : decode cX4_start 98 = .ok (.getfield 19, 3) := by decide +kernel
theorem dX4_start_101 : decode cX4_start 101 = .ok (.aload 5, 2) := by decide +kernel
theorem dX4_start_103 : decode cX4_start 103 = .ok (.invokevirtual 80, 3) := by decide +kernel
theorem dX4_start_106 : decode cX4_start 106 = .ok (.pop, 1) := by decide +kernel
theorem dX4_start_107 : decode cX4_start 107 = .ok (.aload_n 0, 1) := by decide +kernel
theorem dX4_start_108 : decode cX4_start 108 = .ok (.iconst 0, 1) := by decide +kernel
theorem dX4_start_109 : decode cX4_start 109 = .ok (.putfield 50, 3) := by decide +kernel
theorem dX4_start_112 : decode cX4_start 112 = .ok (.aload 5, 2) := by decide +kernel
theorem dX4_start_114 : decode cX4_start 114 = .ok (.getfield 126, 3) := by decide +kernel
theorem dX4_start_117 : decode cX4_start 117 = .ok (.ireturn, 1) := by decide +kernel
theorem dX4_through_0 : decode cX4_through 0 = .ok (.iload_n 1, 1) := by decide +kernel
theorem dX4_through_1 : decode cX4_through 1 = .ok (.iconst (-1), 1) := by decide +kernel
theorem dX4_through_2 : decode cX4_through 2 = .ok (.if_icmp .eq 14, 3) := by decide +kernel
theorem dX4_through_5 : decode cX4_through 5 = .ok (.iload_n 1, 1) := by decide +kernel
theorem dX4_through_6 : decode cX4_through 6 = .ok (.aload_n 0, 1) := by decide +kernel
theorem dX4_through_7 : decode cX4_through 7 = .ok (.getfield 12, 3) := by decide +kernel
theorem dX4_through_10 : decode cX4_through 10 = .ok (.invokevirtual 70, 3) := by decide +kernel
theorem dX4_through_13 : decode cX4_through 13 = .ok (.invokestatic 84, 3) := by decide +kernel
theorem dX4_through_16 : decode cX4_through 16 = .ok (.iload_n 2, 1) := by decide +kernel
theorem dX4_through_17 : decode cX4_through 17 = .ok (.ifCond .lt 9, 3) := by decide +kernel
theorem dX4_through_20 : decode cX4_through 20 = .ok (.iload_n 2, 1) := by decide +kernel
theorem dX4_through_21 : decode cX4_through 21 = .ok (.bipush 10, 2) := by decide +kernel
theorem dX4_through_23 : decode cX4_through 23 = .ok (.if_icmp .lt 13, 3) := by decide +kernel
theorem dX4_through_26 : decode cX4_through 26 = .ok (.new 93, 3) := by decide +kernel
theorem dX4_through_29 : decode cX4_through 29 = .ok (.dup, 1) := by decide +kernel
theorem dX4_through_30 : decode cX4_through 30 = .ok (.ldc 143, 2) := by decide +kernel
theorem dX4_through_32 : decode cX4_through 32 = .ok (.invokespecial 97, 3) := by decide +kernel
theorem dX4_through_35 : decode cX4_through 35 = .ok (.athrow, 1) := by decide +kernel
theorem dX4_through_36 : decode cX4_through 36 = .ok (.aload_n 0, 1) := by decide +kernel
theorem dX4_through_37 : decode cX4_through 37 = .ok (.getfield 31, 3) := by decide +kernel
theorem dX4_through_40 : decode cX4_through 40 = .ok (.iload_n 2, 1) := by decide +kernel
theorem dX4_through_41 : decode cX4_through 41 = .ok (.iaload, 1) := by decide +kernel
theorem dX4_through_42 : decode cX4_through 42 = .ok (.iload_n 1, 1) := by decide +kernel
theorem dX4_through_43 : decode cX4_through 43 = .ok (.if_icmp .ne 5, 3) := by decide +kernel
theorem dX4_through_46 : decode cX4_through 46 = .ok (.iconst 0, 1) := by decide +kernel
theorem dX4_through_47 : decode cX4_through 47 = .ok (.ireturn, 1) := by decide +kernel
theorem dX4_through_48 : decode cX4_through 48 = .ok (.aload_n 0, 1) := by decide +kernel
theorem dX4_through_49 : decode cX4_through 49 = .ok (.getfield 31, 3) := by decide +kernel
theorem dX4_through_52 : decode cX4_through 52 = .ok (.iload_n 2, 1) := by decide +kernel
theorem dX4_through_53 : decode cX4_through 53 = .ok (.iload_n 1, 1) := by decide +kernel
theorem dX4_through_54 : decode cX4_through 54 = .ok (.iastore, 1) := by decide +kernel
theorem dX4_through_55 : decode cX4_through 55 = .ok (.aload_n 0, 1) := by decide +kernel
theorem dX4_through_56 : decode cX4_through 56 = .ok (.iconst 0, 1) := by decide +kernel
theorem dX4_through_57 : decode cX4_through 57 = .ok (.putfield 50, 3) := by decide +kernel
theorem dX4_through_60 : decode cX4_through 60 = .ok (.iconst 1, 1) := by decide +kernel
theorem dX4_through_61 : decode cX4_through 61 = .ok (.ireturn, 1) := by decide +kernel
theorem dX4_run_0 : decode cX4_run 0 = .ok (.iload_n 1, 1) := by decide +kernel
theorem dX4_run_1 : decode cX4_run 1 = .ok (.iconst 1, 1) := by decide +kernel
theorem dX4_run_2 : decode cX4_run 2 = .ok (.if_icmp .lt 9, 3) := by decide +kernel
theorem dX4_run_5 : decode cX4_run 5 = .ok (.iload_n 1, 1) := by decide +kernel
theorem dX4_run_6 : decode cX4_run 6 = .ok (.bipush 40, 2) := by decide +kernel
theorem dX4_run_8 : decode cX4_run 8 = .ok (.if_icmp .le 13, 3) := by decide +kernel
theorem dX4_run_11 : decode cX4_run 11 = .ok (.new 93, 3) := by decide +kernel
theorem dX4_run_14 : decode cX4_run 14 = .ok (.dup, 1) := by decide +kernel
theorem dX4_run_15 : decode cX4_run 15 = .ok (.ldc 145, 2) := by decide +kernel
theorem dX4_run_17 : decode cX4_run 17 = .ok (.invokespecial 97, 3) := by decide +kernel
theorem dX4_run_20 : decode cX4_run 20 = .ok (.athrow, 1) := by decide +kernel
theorem dX4_run_21 : decode cX4_run 21 = .ok (.aload_n 0, 1) := by decide +kernel
theorem dX4_run_22 : decode cX4_run 22 = .ok (.getfield 40, 3) := by decide +kernel
theorem dX4_run_25 : decode cX4_run 25 = .ok (.getfield 60, 3) := by decide +kernel
theorem dX4_run_28 : decode cX4_run 28 = .ok (.iconst 0, 1) := by decide +kernel
theorem dX4_run_29 : decode cX4_run 29 = .ok (.putfield 64, 3) := by decide +kernel
theorem dX4_run_32 : decode cX4_run 32 = .ok (.aload_n 0, 1) := by decide +kernel
theorem dX4_run_33 : decode cX4_run 33 = .ok (.invokevirtual 147, 3) := by decide +kernel
theorem dX4_run_36 : decode cX4_run 36 = .ok (.ifCond .eq 48, 3) := by decide +kernel
theorem dX4_run_39 : decode cX4_run 39 = .ok (.aload_n 0, 1) := by decide +kernel
theorem dX4_run_40 : decode cX4_run 40 = .ok (.getfield 28, 3) := by decide +kernel
theorem dX4_run_43 : decode cX4_run 43 = .ok (.invokevirtual 70, 3) := by decide +kernel
theorem dX4_run_46 : decode cX4_run 46 = .ok (.iconst 1, 1) := by decide +kernel
theorem dX4_run_47 : decode cX4_run 47 = .ok (.isub, 1) := by decide +kernel
theorem dX4_run_48 : decode cX4_run 48 = .ok (.istore_n 2, 1) := by decide +kernel
theorem dX4_run_49 : decode cX4_run 49 = .ok (.iload_n 2, 1) := by decide +kernel
theorem dX4_run_50 : decode cX4_run 50 = .ok (.ifCond .lt 25, 3) := by decide +kernel
theorem dX4_run_53 : decode cX4_run 53 = .ok (.aload_n 0, 1) := by decide +kernel
theorem dX4_run_54 : decode cX4_run 54 = .ok (.aload_n 0, 1) := by decide +kernel
theorem dX4_run_55 : decode cX4_run 55 = .ok (.getfield 28, 3) := by decide +kernel
theorem dX4_run_58 : decode cX4_run 58 = .ok (.iload_n 2, 1) := by decide +kernel
theorem dX4_run_59 : decode cX4_run 59 = .ok (.invokevirtual 98, 3) := by decide +kernel
theorem dX4_run_62 : decode cX4_run 62 = .ok (.checkcast 35, 3) := by decide +kernel
theorem dX4_run_65 : decode cX4_run 65 = .ok (.iload_n 1, 1) := by decide +kernel
theorem dX4_run_66 : decode cX4_run 66 = .ok (.invokevirtual 151, 3) := by decide +kernel
theorem dX4_run_69 : decode cX4_run 69 = .ok (.iinc 2 (-1), 3) := by decide +kernel
theorem dX4_run_72 : decode cX4_run 72 = .ok (.goto (-23), 3) := by decide +kernel
theorem dX4_run_75 : decode cX4_run 75 = .ok (.aload_n 0, 1) := by decide +kernel
theorem dX4_run_76 : decode cX4_run 76 = .ok (.aload_n 0, 1) := by decide +kernel
theorem dX4_run_77 : decode cX4_run 77 = .ok (.getfield 40, 3) := by decide +kernel
theorem dX4_run_80 : decode cX4_run 80 = .ok (.iload_n 1, 1) := by decide +kernel
theorem dX4_run_81 : decode cX4_run 81 = .ok (.invokevirtual 151, 3) := by decide +kernel
theorem dX4_run_84 : decode cX4_run 84 = .ok (.aload_n 0, 1) := by decide +kernel
theorem dX4_run_85 : decode cX4_run 85 = .ok (.iconst 1, 1) := by decide +kernel
theorem dX4_run_86 : decode cX4_run 86 = .ok (.putfield 50, 3) := by decide +kernel
theorem dX4_run_89 : decode cX4_run 89 = .ok (.aload_n 0, 1) := by decide +kernel
theorem dX4_run_90 : decode cX4_run 90 = .ok (.getfield 40, 3) := by decide +kernel
theorem dX4_run_93 : decode cX4_run 93 = .ok (.getfield 60, 3) := by decide +kernel
theorem dX4_run_96 : decode cX4_run 96 = .ok (.getfield 64, 3) := by decide +kernel
theorem dX4_run_99 : decode cX4_run 99 = .ok (.ireturn, 1) := by decide +kernel
theorem dX4_slack_0 : decode cX4_slack 0 = .ok (.aload_n 0, 1) := by decide +kernel
theorem dX4_slack_1 : decode cX4_slack 1 = .ok (.invokevirtual 154, 3) := by decide +kernel
theorem dX4_slack_4 : decode cX4_slack 4 = .ok (.iload_n 1, 1) := by decide +kernel
theorem dX4_slack_5 : decode cX4_slack 5 = .ok (.aload_n 0, 1) := by decide +kernel
theorem dX4_slack_6 : decode cX4_slack 6 = .ok (.getfield 40, 3) := by decide +kernel
theorem dX4_slack_9 : decode cX4_slack 9 = .ok (.getfield 60, 3) := by decide +kernel
theorem dX4_slack_12 : decode cX4_slack 12 = .ok (.getfield 64, 3) := by decide +kernel
theorem dX4_slack_15 : decode cX4_slack 15 = .ok (.invokestatic 84, 3) := by decide +kernel
theorem dX4_slack_18 : decode cX4_slack 18 = .ok (.aload_n 0, 1) := by decide +kernel
theorem dX4_slack_19 : decode cX4_slack 19 = .ok (.getfield 40, 3) := by decide +kernel
theorem dX4_slack_22 : decode cX4_slack 22 = .ok (.getfield 60, 3) := by decide +kernel
theorem dX4_slack_25 : decode cX4_slack 25 = .ok (.getfield 157, 3) := by decide +kernel
theorem dX4_slack_28 : decode cX4_slack 28 = .ok (.iload_n 1, 1) := by decide +kernel
theorem dX4_slack_29 : decode cX4_slack 29 = .ok (.daload, 1) := by decide +kernel
theorem dX4_slack_30 : decode cX4_slack 30 = .ok (.dreturn, 1) := by decide +kernel
theorem dX4_at_0 : decode cX4_at 0 = .ok (.aload_n 0, 1) := by decide +kernel
theorem dX4_at_1 : decode cX4_at 1 = .ok (.invokevirtual 154, 3) := by decide +kernel
theorem dX4_at_4 : decode cX4_at 4 = .ok (.iload_n 1, 1) := by decide +kernel
theorem dX4_at_5 : decode cX4_at 5 = .ok (.aload_n 0, 1) := by decide +kernel
theorem dX4_at_6 : decode cX4_at 6 = .ok (.getfield 40, 3) := by decide +kernel
theorem dX4_at_9 : decode cX4_at 9 = .ok (.getfield 60, 3) := by decide +kernel
theorem dX4_at_12 : decode cX4_at 12 = .ok (.getfield 64, 3) := by decide +kernel
theorem dX4_at_15 : decode cX4_at 15 = .ok (.invokestatic 84, 3) := by decide +kernel
theorem dX4_at_18 : decode cX4_at 18 = .ok (.aload_n 0, 1) := by decide +kernel
theorem dX4_at_19 : decode cX4_at 19 = .ok (.iload_n 1, 1) := by decide +kernel
theorem dX4_at_20 : decode cX4_at 20 = .ok (.iload_n 2, 1) := by decide +kernel
theorem dX4_at_21 : decode cX4_at 21 = .ok (.invokevirtual 161, 3) := by decide +kernel
theorem dX4_at_24 : decode cX4_at 24 = .ok (.astore_n 3, 1) := by decide +kernel
theorem dX4_at_25 : decode cX4_at 25 = .ok (.aload_n 3, 1) := by decide +kernel
theorem dX4_at_26 : decode cX4_at 26 = .ok (.ifnonnull 13, 3) := by decide +kernel
theorem dX4_at_29 : decode cX4_at 29 = .ok (.new 165, 3) := by decide +kernel
theorem dX4_at_32 : decode cX4_at 32 = .ok (.dup, 1) := by decide +kernel
theorem dX4_at_33 : decode cX4_at 33 = .ok (.ldc 167, 2) := by decide +kernel
theorem dX4_at_35 : decode cX4_at 35 = .ok (.invokespecial 169, 3) := by decide +kernel
theorem dX4_at_38 : decode cX4_at 38 = .ok (.athrow, 1) := by decide +kernel
theorem dX4_at_39 : decode cX4_at 39 = .ok (.aload_n 3, 1) := by decide +kernel
theorem dX4_at_40 : decode cX4_at 40 = .ok (.getfield 126, 3) := by decide +kernel
theorem dX4_at_43 : decode cX4_at 43 = .ok (.ireturn, 1) := by decide +kernel
theorem dX4_group_0 : decode cX4_group 0 = .ok (.iload_n 1, 1) := by decide +kernel
theorem dX4_group_1 : decode cX4_group 1 = .ok (.aload_n 0, 1) := by decide +kernel
theorem dX4_group_2 : decode cX4_group 2 = .ok (.getfield 22, 3) := by decide +kernel
theorem dX4_group_5 : decode cX4_group 5 = .ok (.invokevirtual 70, 3) := by decide +kernel
theorem dX4_group_8 : decode cX4_group 8 = .ok (.invokestatic 84, 3) := by decide +kernel
theorem dX4_group_11 : decode cX4_group 11 = .ok (.iload_n 2, 1) := by decide +kernel
theorem dX4_group_12 : decode cX4_group 12 = .ok (.ifCond .lt 9, 3) := by decide +kernel
theorem dX4_group_15 : decode cX4_group 15 = .ok (.iload_n 2, 1) := by decide +kernel
theorem dX4_group_16 : decode cX4_group 16 = .ok (.bipush 8, 2) := by decide +kernel
theorem dX4_group_18 : decode cX4_group 18 = .ok (.if_icmp .lt 13, 3) := by decide +kernel
theorem dX4_group_21 : decode cX4_group 21 = .ok (.new 93, 3) := by decide +kernel
theorem dX4_group_24 : decode cX4_group 24 = .ok (.dup, 1) := by decide +kernel
theorem dX4_group_25 : decode cX4_group 25 = .ok (.ldc 170, 2) := by decide +kernel
theorem dX4_group_27 : decode cX4_group 27 = .ok (.invokespecial 97, 3) := by decide +kernel
theorem dX4_group_30 : decode cX4_group 30 = .ok (.athrow, 1) := by decide +kernel
theorem dX4_group_31 : decode cX4_group 31 = .ok (.aload_n 0, 1) := by decide +kernel
theorem dX4_group_32 : decode cX4_group 32 = .ok (.getfield 22, 3) := by decide +kernel
theorem dX4_group_35 : decode cX4_group 35 = .ok (.iload_n 1, 1) := by decide +kernel
theorem dX4_group_36 : decode cX4_group 36 = .ok (.invokevirtual 98, 3) := by decide +kernel
theorem dX4_group_39 : decode cX4_group 39 = .ok (.checkcast 115, 3) := by decide +kernel
theorem dX4_group_42 : decode cX4_group 42 = .ok (.getfield 172, 3) := by decide +kernel
theorem dX4_group_45 : decode cX4_group 45 = .ok (.iload_n 2, 1) := by decide +kernel
theorem dX4_group_46 : decode cX4_group 46 = .ok (.if_icmp .eq 23, 3) := by decide +kernel
theorem dX4_group_49 : decode cX4_group 49 = .ok (.aload_n 0, 1) := by decide +kernel
theorem dX4_group_50 : decode cX4_group 50 = .ok (.getfield 22, 3) := by decide +kernel
theorem dX4_group_53 : decode cX4_group 53 = .ok (.iload_n 1, 1) := by decide +kernel
theorem dX4_group_54 : decode cX4_group 54 = .ok (.invokevirtual 98, 3) := by decide +kernel
theorem dX4_group_57 : decode cX4_group 57 = .ok (.checkcast 115, 3) := by decide +kernel
theorem dX4_group_60 : decode cX4_group 60 = .ok (.iload_n 2, 1) := by decide +kernel
theorem dX4_group_61 : decode cX4_group 61 = .ok (.putfield 172, 3) := by decide +kernel
theorem dX4_group_64 : decode cX4_group 64 = .ok (.aload_n 0, 1) := by decide +kernel
theorem dX4_group_65 : decode cX4_group 65 = .ok (.iconst 0, 1) := by decide +kernel
theorem dX4_group_66 : decode cX4_group 66 = .ok (.putfield 50, 3) := by decide +kernel
theorem dX4_group_69 : decode cX4_group 69 = .ok (.iconst 0, 1) := by decide +kernel
theorem dX4_group_70 : decode cX4_group 70 = .ok (.istore_n 3, 1) := by decide +kernel
theorem dX4_group_71 : decode cX4_group 71 = .ok (.iconst 0, 1) := by decide +kernel
theorem dX4_group_72 : decode cX4_group 72 = .ok (.istore 4, 2) := by decide +kernel
theorem dX4_group_74 : decode cX4_group 74 = .ok (.iload 4, 2) := by decide +kernel
theorem dX4_group_76 : decode cX4_group 76 = .ok (.aload_n 0, 1) := by decide +kernel
theorem dX4_group_77 : decode cX4_group 77 = .ok (.getfield 22, 3) := by decide +kernel
theorem dX4_group_80 : decode cX4_group 80 = .ok (.invokevirtual 70, 3) := by decide +kernel
theorem dX4_group_83 : decode cX4_group 83 = .ok (.if_icmp .ge 31, 3) := by decide +kernel
theorem dX4_group_86 : decode cX4_group 86 = .ok (.aload_n 0, 1) := by decide +kernel
theorem dX4_group_87 : decode cX4_group 87 = .ok (.getfield 22, 3) := by decide +kernel
theorem dX4_group_90 : decode cX4_group 90 = .ok (.iload 4, 2) := by decide +kernel
theorem dX4_group_92 : decode cX4_group 92 = .ok (.invokevirtual 98, 3) := by decide +kernel
theorem dX4_group_95 : decode cX4_group 95 = .ok (.checkcast 115, 3) := by decide +kernel
theorem dX4_group_98 : decode cX4_group 98 = .ok (.getfield 172, 3) := by decide +kernel
theorem dX4_group_101 : decode cX4_group 101 = .ok (.iload_n 2, 1) := by decide +kernel
theorem dX4_group_102 : decode cX4_group 102 = .ok (.if_icmp .ne 6, 3) := by decide +kernel
theorem dX4_group_105 : decode cX4_group 105 = .ok (.iinc 3 1, 3) := by decide +kernel
theorem dX4_group_108 : decode cX4_group 108 = .ok (.iinc 4 1, 3) := by decide +kernel
theorem dX4_group_111 : decode cX4_group 111 = .ok (.goto (-37), 3) := by decide +kernel
theorem dX4_group_114 : decode cX4_group 114 = .ok (.iload_n 3, 1) := by decide +kernel
theorem dX4_group_115 : decode cX4_group 115 = .ok (.ireturn, 1) := by decide +kernel
theorem dX4_model_0 : decode cX4_model 0 = .ok (.iload_n 1, 1) := by decide +kernel
theorem dX4_model_1 : decode cX4_model 1 = .ok (.bipush 8, 2) := by decide +kernel
theorem dX4_model_3 : decode cX4_model 3 = .ok (.invokestatic 84, 3) := by decide +kernel
theorem dX4_model_6 : decode cX4_model 6 = .ok (.iconst 0, 1) := by decide +kernel
theorem dX4_model_7 : decode cX4_model 7 = .ok (.istore_n 2, 1) := by decide +kernel
theorem dX4_model_8 : decode cX4_model 8 = .ok (.iconst 0, 1) := by decide +kernel
theorem dX4_model_9 : decode cX4_model 9 = .ok (.istore_n 3, 1) := by decide +kernel
theorem dX4_model_10 : decode cX4_model 10 = .ok (.iload_n 3, 1) := by decide +kernel
theorem dX4_model_11 : decode cX4_model 11 = .ok (.aload_n 0, 1) := by decide +kernel
theorem dX4_model_12 : decode cX4_model 12 = .ok (.getfield 12, 3) := by decide +kernel
theorem dX4_model_15 : decode cX4_model 15 = .ok (.invokevirtual 70, 3) := by decide +kernel
theorem dX4_model_18 : decode cX4_model 18 = .ok (.if_icmp .ge 46, 3) := by decide +kernel
theorem dX4_model_21 : decode cX4_model 21 = .ok (.aload_n 0, 1) := by decide +kernel
theorem dX4_model_22 : decode cX4_model 22 = .ok (.getfield 12, 3) := by decide +kernel
theorem dX4_model_25 : decode cX4_model 25 = .ok (.iload_n 3, 1) := by decide +kernel
theorem dX4_model_26 : decode cX4_model 26 = .ok (.invokevirtual 98, 3) := by decide +kernel
theorem dX4_model_29 : decode cX4_model 29 = .ok (.checkcast 35, 3) := by decide +kernel
theorem dX4_model_32 : decode cX4_model 32 = .ok (.astore 4, 2) := by decide +kernel
theorem dX4_model_34 : decode cX4_model 34 = .ok (.aload 4, 2) := by decide +kernel
theorem dX4_model_36 : decode cX4_model 36 = .ok (.iload_n 1, 1) := by decide +kernel
theorem dX4_model_37 : decode cX4_model 37 = .ok (.invokestatic 175, 3) := by decide +kernel
theorem dX4_model_40 : decode cX4_model 40 = .ok (.ifCond .eq 18, 3) := by decide +kernel
theorem dX4_model_43 : decode cX4_model 43 = .ok (.aload_n 0, 1) := by decide +kernel
theorem dX4_model_44 : decode cX4_model 44 = .ok (.aload 4, 2) := by decide +kernel
theorem dX4_model_46 : decode cX4_model 46 = .ok (.iload_n 1, 1) := by decide +kernel
theorem dX4_model_47 : decode cX4_model 47 = .ok (.invokevirtual 102, 3) := by decide +kernel
theorem dX4_model_50 : decode cX4_model 50 = .ok (.iload_n 2, 1) := by decide +kernel
theorem dX4_model_51 : decode cX4_model 51 = .ok (.aload_n 0, 1) := by decide +kernel
theorem dX4_model_52 : decode cX4_model 52 = .ok (.iload_n 1, 1) := by decide +kernel
theorem dX4_model_53 : decode cX4_model 53 = .ok (.invokevirtual 179, 3) := by decide +kernel
theorem dX4_model_56 : decode cX4_model 56 = .ok (.iadd, 1) := by decide +kernel
theorem dX4_model_57 : decode cX4_model 57 = .ok (.istore_n 2, 1) := by decide +kernel
theorem dX4_model_58 : decode cX4_model 58 = .ok (.iinc 3 1, 3) := by decide +kernel
theorem dX4_model_61 : decode cX4_model 61 = .ok (.goto (-51), 3) := by decide +kernel
theorem dX4_model_64 : decode cX4_model 64 = .ok (.iload_n 2, 1) := by decide +kernel
theorem dX4_model_65 : decode cX4_model 65 = .ok (.ireturn, 1) := by decide +kernel
theorem dX4_into_0 : decode cX4_into 0 = .ok (.iload_n 1, 1) := by decide +kernel
theorem dX4_into_1 : decode cX4_into 1 = .ok (.aload_n 0, 1) := by decide +kernel
theorem dX4_into_2 : decode cX4_into 2 = .ok (.getfield 12, 3) := by decide +kernel
theorem dX4_into_5 : decode cX4_into 5 = .ok (.invokevirtual 70, 3) := by decide +kernel
theorem dX4_into_8 : decode cX4_into 8 = .ok (.invokestatic 84, 3) := by decide +kernel
theorem dX4_into_11 : decode cX4_into 11 = .ok (.iload_n 2, 1) := by decide +kernel
theorem dX4_into_12 : decode cX4_into 12 = .ok (.iconst (-1), 1) := by decide +kernel
theorem dX4_into_13 : decode cX4_into 13 = .ok (.if_icmp .eq 9, 3) := by decide +kernel
theorem dX4_into_16 : decode cX4_into 16 = .ok (.iload_n 2, 1) := by decide +kernel
theorem dX4_into_17 : decode cX4_into 17 = .ok (.bipush 8, 2) := by decide +kernel
theorem dX4_into_19 : decode cX4_into 19 = .ok (.invokestatic 84, 3) := by decide +kernel
theorem dX4_into_22 : decode cX4_into 22 = .ok (.aload_n 0, 1) := by decide +kernel
theorem dX4_into_23 : decode cX4_into 23 = .ok (.getfield 12, 3) := by decide +kernel
theorem dX4_into_26 : decode cX4_into 26 = .ok (.iload_n 1, 1) := by decide +kernel
theorem dX4_into_27 : decode cX4_into 27 = .ok (.invokevirtual 98, 3) := by decide +kernel
theorem dX4_into_30 : decode cX4_into 30 = .ok (.checkcast 35, 3) := by decide +kernel
theorem dX4_into_33 : decode cX4_into 33 = .ok (.astore_n 3, 1) := by decide +kernel
theorem dX4_into_34 : decode cX4_into 34 = .ok (.aload_n 3, 1) := by decide +kernel
theorem dX4_into_35 : decode cX4_into 35 = .ok (.getfield 183, 3) := by decide +kernel
theorem dX4_into_38 : decode cX4_into 38 = .ok (.iload_n 2, 1) := by decide +kernel
theorem dX4_into_39 : decode cX4_into 39 = .ok (.if_icmp .eq 7, 3) := by decide +kernel
theorem dX4_into_42 : decode cX4_into 42 = .ok (.iconst 1, 1) := by decide +kernel
theorem dX4_into_43 : decode cX4_into 43 = .ok (.goto 4, 3) := by decide +kernel
theorem dX4_into_46 : decode cX4_into 46 = .ok (.iconst 0, 1) := by decide +kernel
theorem dX4_into_47 : decode cX4_into 47 = .ok (.istore 4, 2) := by decide +kernel
theorem dX4_into_49 : decode cX4_into 49 = .ok (.aload_n 3, 1) := by decide +kernel
theorem dX4_into_50 : decode cX4_into 50 = .ok (.iload_n 2, 1) := by decide +kernel
theorem dX4_into_51 : decode cX4_into 51 = .ok (.putfield 183, 3) := by decide +kernel
theorem dX4_into_54 : decode cX4_into 54 = .ok (.iload 4, 2) := by decide +kernel
theorem dX4_into_56 : decode cX4_into 56 = .ok (.ireturn, 1) := by decide +kernel
theorem dX4_reduced_0 : decode cX4_reduced 0 = .ok (.iload_n 1, 1) := by decide +kernel
theorem dX4_reduced_1 : decode cX4_reduced 1 = .ok (.bipush 8, 2) := by decide +kernel
theorem dX4_reduced_3 : decode cX4_reduced 3 = .ok (.invokestatic 84, 3) := by decide +kernel
theorem dX4_reduced_6 : decode cX4_reduced 6 = .ok (.iload_n 2, 1) := by decide +kernel
theorem dX4_reduced_7 : decode cX4_reduced 7 = .ok (.aload_n 0, 1) := by decide +kernel
theorem dX4_reduced_8 : decode cX4_reduced 8 = .ok (.getfield 12, 3) := by decide +kernel
theorem dX4_reduced_11 : decode cX4_reduced 11 = .ok (.invokevirtual 70, 3) := by decide +kernel
theorem dX4_reduced_14 : decode cX4_reduced 14 = .ok (.invokestatic 84, 3) := by decide +kernel
theorem dX4_reduced_17 : decode cX4_reduced 17 = .ok (.iload_n 3, 1) := by decide +kernel
theorem dX4_reduced_18 : decode cX4_reduced 18 = .ok (.aload_n 0, 1) := by decide +kernel
theorem dX4_reduced_19 : decode cX4_reduced 19 = .ok (.getfield 12, 3) := by decide +kernel
theorem dX4_reduced_22 : decode cX4_reduced 22 = .ok (.invokevirtual 70, 3) := by decide +kernel
theorem dX4_reduced_25 : decode cX4_reduced 25 = .ok (.invokestatic 84, 3) := by decide +kernel
theorem dX4_reduced_28 : decode cX4_reduced 28 = .ok (.aload_n 0, 1) := by decide +kernel
theorem dX4_reduced_29 : decode cX4_reduced 29 = .ok (.getfield 12, 3) := by decide +kernel
theorem dX4_reduced_32 : decode cX4_reduced 32 = .ok (.iload_n 2, 1) := by decide +kernel
theorem dX4_reduced_33 : decode cX4_reduced 33 = .ok (.invokevirtual 98, 3) := by decide +kernel
theorem dX4_reduced_36 : decode cX4_reduced 36 = .ok (.checkcast 35, 3) := by decide +kernel
theorem dX4_reduced_39 : decode cX4_reduced 39 = .ok (.astore 4, 2) := by decide +kernel
theorem dX4_reduced_41 : decode cX4_reduced 41 = .ok (.aload_n 0, 1) := by decide +kernel
theorem dX4_reduced_42 : decode cX4_reduced 42 = .ok (.getfield 12, 3) := by decide +kernel
theorem dX4_reduced_45 : decode cX4_reduced 45 = .ok (.iload_n 3, 1) := by decide +kernel
theorem dX4_reduced_46 : decode cX4_reduced 46 = .ok (.invokevirtual 98, 3) := by decide +kernel
theorem dX4_reduced_49 : decode cX4_reduced 49 = .ok (.checkcast 35, 3) := by decide +kernel
theorem dX4_reduced_52 : decode cX4_reduced 52 = .ok (.astore 5, 2) := by decide +kernel
theorem dX4_reduced_54 : decode cX4_reduced 54 = .ok (.aload 4, 2) := by decide +kernel
theorem dX4_reduced_56 : decode cX4_reduced 56 = .ok (.iload_n 1, 1) := by decide +kernel
theorem dX4_reduced_57 : decode cX4_reduced 57 = .ok (.invokestatic 175, 3) := by decide +kernel
theorem dX4_reduced_60 : decode cX4_reduced 60 = .ok (.ifCond .eq 12, 3) := by decide +kernel
theorem dX4_reduced_63 : decode cX4_reduced 63 = .ok (.aload 5, 2) := by decide +kernel
theorem dX4_reduced_65 : decode cX4_reduced 65 = .ok (.iload_n 1, 1) := by decide +kernel
theorem dX4_reduced_66 : decode cX4_reduced 66 = .ok (.invokestatic 186, 3) := by decide +kernel
theorem dX4_reduced_69 : decode cX4_reduced 69 = .ok (.ifCond .ne 7, 3) := by decide +kernel
theorem dX4_reduced_72 : decode cX4_reduced 72 = .ok (.ldc2_w 189, 3) := by decide +kernel
theorem dX4_reduced_75 : decode cX4_reduced 75 = .ok (.dreturn, 1) := by decide +kernel
theorem dX4_reduced_76 : decode cX4_reduced 76 = .ok (.aload_n 0, 1) := by decide +kernel
theorem dX4_reduced_77 : decode cX4_reduced 77 = .ok (.aload 4, 2) := by decide +kernel
theorem dX4_reduced_79 : decode cX4_reduced 79 = .ok (.iload_n 1, 1) := by decide +kernel
theorem dX4_reduced_80 : decode cX4_reduced 80 = .ok (.invokevirtual 102, 3) := by decide +kernel
theorem dX4_reduced_83 : decode cX4_reduced 83 = .ok (.aload 5, 2) := by decide +kernel
theorem dX4_reduced_85 : decode cX4_reduced 85 = .ok (.getfield 106, 3) := by decide +kernel
theorem dX4_reduced_88 : decode cX4_reduced 88 = .ok (.dreturn, 1) := by decide +kernel
theorem dX4_budget_0 : decode cX4_budget 0 = .ok (.aload_n 0, 1) := by decide +kernel
theorem dX4_budget_1 : decode cX4_budget 1 = .ok (.invokevirtual 154, 3) := by decide +kernel
theorem dX4_budget_4 : decode cX4_budget 4 = .ok (.iload_n 1, 1) := by decide +kernel
theorem dX4_budget_5 : decode cX4_budget 5 = .ok (.bipush 8, 2) := by decide +kernel
theorem dX4_budget_7 : decode cX4_budget 7 = .ok (.invokestatic 84, 3) := by decide +kernel
theorem dX4_budget_10 : decode cX4_budget 10 = .ok (.iload_n 2, 1) := by decide +kernel
theorem dX4_budget_11 : decode cX4_budget 11 = .ok (.aload_n 0, 1) := by decide +kernel
theorem dX4_budget_12 : decode cX4_budget 12 = .ok (.getfield 40, 3) := by decide +kernel
theorem dX4_budget_15 : decode cX4_budget 15 = .ok (.getfield 60, 3) := by decide +kernel
theorem dX4_budget_18 : decode cX4_budget 18 = .ok (.getfield 64, 3) := by decide +kernel
theorem dX4_budget_21 : decode cX4_budget 21 = .ok (.invokestatic 84, 3) := by decide +kernel
theorem dX4_budget_24 : decode cX4_budget 24 = .ok (.dconst 0, 1) := by decide +kernel
theorem dX4_budget_25 : decode cX4_budget 25 = .ok (.dstore_n 3, 1) := by decide +kernel
theorem dX4_budget_26 : decode cX4_budget 26 = .ok (.dconst 0, 1) := by decide +kernel
theorem dX4_budget_27 : decode cX4_budget 27 = .ok (.dstore 5, 2) := by decide +kernel
theorem dX4_budget_29 : decode cX4_budget 29 = .ok (.iconst 1, 1) := by decide +kernel
theorem dX4_budget_30 : decode cX4_budget 30 = .ok (.istore 7, 2) := by decide +kernel
theorem dX4_budget_32 : decode cX4_budget 32 = .ok (.iload 7, 2) := by decide +kernel
theorem dX4_budget_34 : decode cX4_budget 34 = .ok (.sipush 150, 3) := by decide +kernel
theorem dX4_budget_37 : decode cX4_budget 37 = .ok (.if_icmp .gt 68, 3) := by decide +kernel
theorem dX4_budget_40 : decode cX4_budget 40 = .ok (.aload_n 0, 1) := by decide +kernel
theorem dX4_budget_41 : decode cX4_budget 41 = .ok (.iload_n 2, 1) := by decide +kernel
theorem dX4_budget_42 : decode cX4_budget 42 = .ok (.iload 7, 2) := by decide +kernel
theorem dX4_budget_44 : decode cX4_budget 44 = .ok (.invokevirtual 161, 3) := by decide +kernel
theorem dX4_budget_47 : decode cX4_budget 47 = .ok (.astore 8, 2) := by decide +kernel
theorem dX4_budget_49 : decode cX4_budget 49 = .ok (.aload 8, 2) := by decide +kernel
theorem dX4_budget_51 : decode cX4_budget 51 = .ok (.ifnull 54, 3) := by decide +kernel
theorem dX4_budget_54 : decode cX4_budget 54 = .ok (.aload 8, 2) := by decide +kernel
theorem dX4_budget_56 : decode cX4_budget 56 = .ok (.getfield 191, 3) := by decide +kernel
theorem dX4_budget_59 : decode cX4_budget 59 = .ok (.aload_n 0, 1) := by decide +kernel
theorem dX4_budget_60 : decode cX4_budget 60 = .ok (.getfield 44, 3) := by decide +kernel
theorem dX4_budget_63 : decode cX4_budget 63 = .ok (.if_acmp .ne 6, 3) := by decide +kernel
theorem dX4_budget_66 : decode cX4_budget 66 = .ok (.goto 39, 3) := by decide +kernel
theorem dX4_budget_69 : decode cX4_budget 69 = .ok (.dload_n 3, 1) := by decide +kernel
theorem dX4_budget_70 : decode cX4_budget 70 = .ok (.aload 8, 2) := by decide +kernel
theorem dX4_budget_72 : decode cX4_budget 72 = .ok (.getfield 194, 3) := by decide +kernel
theorem dX4_budget_75 : decode cX4_budget 75 = .ok (.dadd, 1) := by decide +kernel
theorem dX4_budget_76 : decode cX4_budget 76 = .ok (.dstore_n 3, 1) := by decide +kernel
theorem dX4_budget_77 : decode cX4_budget 77 = .ok (.aload 8, 2) := by decide +kernel
theorem dX4_budget_79 : decode cX4_budget 79 = .ok (.getfield 191, 3) := by decide +kernel
theorem dX4_budget_82 : decode cX4_budget 82 = .ok (.getfield 183, 3) := by decide +kernel
theorem dX4_budget_85 : decode cX4_budget 85 = .ok (.iload_n 1, 1) := by decide +kernel
theorem dX4_budget_86 : decode cX4_budget 86 = .ok (.if_icmp .ne 13, 3) := by decide +kernel
theorem dX4_budget_89 : decode cX4_budget 89 = .ok (.dload 5, 2) := by decide +kernel
theorem dX4_budget_91 : decode cX4_budget 91 = .ok (.aload 8, 2) := by decide +kernel
theorem dX4_budget_93 : decode cX4_budget 93 = .ok (.getfield 194, 3) := by decide +kernel
theorem dX4_budget_96 : decode cX4_budget 96 = .ok (.dadd, 1) := by decide +kernel
theorem dX4_budget_97 : decode cX4_budget 97 = .ok (.dstore 5, 2) := by decide +kernel
theorem dX4_budget_99 : decode cX4_budget 99 = .ok (.iinc 7 1, 3) := by decide +kernel
theorem dX4_budget_102 : decode cX4_budget 102 = .ok (.goto (-70), 3) := by decide +kernel
theorem dX4_budget_105 : decode cX4_budget 105 = .ok (.dload_n 3, 1) := by decide +kernel
theorem dX4_budget_106 : decode cX4_budget 106 = .ok (.dconst 0, 1) := by decide +kernel
theorem dX4_budget_107 : decode cX4_budget 107 = .ok (.dcmp .l, 1) := by decide +kernel
theorem dX4_budget_108 : decode cX4_budget 108 = .ok (.ifCond .le 23, 3) := by decide +kernel
theorem dX4_budget_111 : decode cX4_budget 111 = .ok (.aload_n 0, 1) := by decide +kernel
theorem dX4_budget_112 : decode cX4_budget 112 = .ok (.getfield 40, 3) := by decide +kernel
theorem dX4_budget_115 : decode cX4_budget 115 = .ok (.getfield 60, 3) := by decide +kernel
theorem dX4_budget_118 : decode cX4_budget 118 = .ok (.getfield 157, 3) := by decide +kernel
theorem dX4_budget_121 : decode cX4_budget 121 = .ok (.iload_n 2, 1) := by decide +kernel
theorem dX4_budget_122 : decode cX4_budget 122 = .ok (.daload, 1) := by decide +kernel
theorem dX4_budget_123 : decode cX4_budget 123 = .ok (.dload 5, 2) := by decide +kernel
theorem dX4_budget_125 : decode cX4_budget 125 = .ok (.dmul, 1) := by decide +kernel
theorem dX4_budget_126 : decode cX4_budget 126 = .ok (.dload_n 3, 1) := by decide +kernel
theorem dX4_budget_127 : decode cX4_budget 127 = .ok (.ddiv, 1) := by decide +kernel
theorem dX4_budget_128 : decode cX4_budget 128 = .ok (.goto 4, 3) := by decide +kernel
theorem dX4_budget_131 : decode cX4_budget 131 = .ok (.dconst 0, 1) := by decide +kernel
theorem dX4_budget_132 : decode cX4_budget 132 = .ok (.dreturn, 1) := by decide +kernel
theorem dX4_whatIf_0 : decode cX4_whatIf 0 = .ok (.iload_n 1, 1) := by decide +kernel
theorem dX4_whatIf_1 : decode cX4_whatIf 1 = .ok (.aload_n 0, 1) := by decide +kernel
theorem dX4_whatIf_2 : decode cX4_whatIf 2 = .ok (.getfield 16, 3) := by decide +kernel
theorem dX4_whatIf_5 : decode cX4_whatIf 5 = .ok (.invokevirtual 70, 3) := by decide +kernel
theorem dX4_whatIf_8 : decode cX4_whatIf 8 = .ok (.invokestatic 84, 3) := by decide +kernel
theorem dX4_whatIf_11 : decode cX4_whatIf 11 = .ok (.aload_n 0, 1) := by decide +kernel
theorem dX4_whatIf_12 : decode cX4_whatIf 12 = .ok (.getfield 25, 3) := by decide +kernel
theorem dX4_whatIf_15 : decode cX4_whatIf 15 = .ok (.invokevirtual 70, 3) := by decide +kernel
theorem dX4_whatIf_18 : decode cX4_whatIf 18 = .ok (.bipush 50, 2) := by decide +kernel
theorem dX4_whatIf_20 : decode cX4_whatIf 20 = .ok (.if_icmp .lt 13, 3) := by decide +kernel
theorem dX4_whatIf_23 : decode cX4_whatIf 23 = .ok (.new 73, 3) := by decide +kernel
theorem dX4_whatIf_26 : decode cX4_whatIf 26 = .ok (.dup, 1) := by decide +kernel
theorem dX4_whatIf_27 : decode cX4_whatIf 27 = .ok (.ldc 197, 2) := by decide +kernel
theorem dX4_whatIf_29 : decode cX4_whatIf 29 = .ok (.invokespecial 77, 3) := by decide +kernel
theorem dX4_whatIf_32 : decode cX4_whatIf 32 = .ok (.athrow, 1) := by decide +kernel
theorem dX4_whatIf_33 : decode cX4_whatIf 33 = .ok (.dload_n 2, 1) := by decide +kernel
theorem dX4_whatIf_34 : decode cX4_whatIf 34 = .ok (.invokestatic 89, 3) := by decide +kernel
theorem dX4_whatIf_37 : decode cX4_whatIf 37 = .ok (.ifCond .ne 13, 3) := by decide +kernel
theorem dX4_whatIf_40 : decode cX4_whatIf 40 = .ok (.new 93, 3) := by decide +kernel
theorem dX4_whatIf_43 : decode cX4_whatIf 43 = .ok (.dup, 1) := by decide +kernel
theorem dX4_whatIf_44 : decode cX4_whatIf 44 = .ok (.ldc 95, 2) := by decide +kernel
theorem dX4_whatIf_46 : decode cX4_whatIf 46 = .ok (.invokespecial 97, 3) := by decide +kernel
theorem dX4_whatIf_49 : decode cX4_whatIf 49 = .ok (.athrow, 1) := by decide +kernel
theorem dX4_whatIf_50 : decode cX4_whatIf 50 = .ok (.aload_n 0, 1) := by decide +kernel
theorem dX4_whatIf_51 : decode cX4_whatIf 51 = .ok (.getfield 16, 3) := by decide +kernel
theorem dX4_whatIf_54 : decode cX4_whatIf 54 = .ok (.iload_n 1, 1) := by decide +kernel
theorem dX4_whatIf_55 : decode cX4_whatIf 55 = .ok (.invokevirtual 98, 3) := by decide +kernel
theorem dX4_whatIf_58 : decode cX4_whatIf 58 = .ok (.checkcast 115, 3) := by decide +kernel
theorem dX4_whatIf_61 : decode cX4_whatIf 61 = .ok (.astore 4, 2) := by decide +kernel
theorem dX4_whatIf_63 : decode cX4_whatIf 63 = .ok (.aload 4, 2) := by decide +kernel
theorem dX4_whatIf_65 : decode cX4_whatIf 65 = .ok (.getfield 194, 3) := by decide +kernel
theorem dX4_whatIf_68 : decode cX4_whatIf 68 = .ok (.dload_n 2, 1) := by decide +kernel
theorem dX4_whatIf_69 : decode cX4_whatIf 69 = .ok (.dcmp .l, 1) := by decide +kernel
theorem dX4_whatIf_70 : decode cX4_whatIf 70 = .ok (.ifCond .ne 5, 3) := by decide +kernel
theorem dX4_whatIf_73 : decode cX4_whatIf 73 = .ok (.iconst 0, 1) := by decide +kernel
theorem dX4_whatIf_74 : decode cX4_whatIf 74 = .ok (.ireturn, 1) := by decide +kernel
theorem dX4_whatIf_75 : decode cX4_whatIf 75 = .ok (.aload_n 0, 1) := by decide +kernel
theorem dX4_whatIf_76 : decode cX4_whatIf 76 = .ok (.getfield 25, 3) := by decide +kernel
theorem dX4_whatIf_79 : decode cX4_whatIf 79 = .ok (.new 199, 3) := by decide +kernel
theorem dX4_whatIf_82 : decode cX4_whatIf 82 = .ok (.dup, 1) := by decide +kernel
theorem dX4_whatIf_83 : decode cX4_whatIf 83 = .ok (.aload 4, 2) := by decide +kernel
theorem dX4_whatIf_85 : decode cX4_whatIf 85 = .ok (.aload 4, 2) := by decide +kernel
theorem dX4_whatIf_87 : decode cX4_whatIf 87 = .ok (.getfield 194, 3) := by decide +kernel
theorem dX4_whatIf_90 : decode cX4_whatIf 90 = .ok (.invokespecial 201, 3) := by decide +kernel
theorem dX4_whatIf_93 : decode cX4_whatIf 93 = .ok (.invokevirtual 80, 3) := by decide +kernel
theorem dX4_whatIf_96 : decode cX4_whatIf 96 = .ok (.pop, 1) := by decide +kernel
theorem dX4_whatIf_97 : decode cX4_whatIf 97 = .ok (.aload 4, 2) := by decide +kernel
theorem dX4_whatIf_99 : decode cX4_whatIf 99 = .ok (.dload_n 2, 1) := by decide +kernel
theorem dX4_whatIf_100 : decode cX4_whatIf 100 = .ok (.putfield 194, 3) := by decide +kernel
theorem dX4_whatIf_103 : decode cX4_whatIf 103 = .ok (.aload_n 0, 1) := by decide +kernel
theorem dX4_whatIf_104 : decode cX4_whatIf 104 = .ok (.iconst 0, 1) := by decide +kernel
theorem dX4_whatIf_105 : decode cX4_whatIf 105 = .ok (.putfield 50, 3) := by decide +kernel
theorem dX4_whatIf_108 : decode cX4_whatIf 108 = .ok (.iconst 1, 1) := by decide +kernel
theorem dX4_whatIf_109 : decode cX4_whatIf 109 = .ok (.ireturn, 1) := by decide +kernel
theorem dX4_back_0 : decode cX4_back 0 = .ok (.aload_n 0, 1) := by decide +kernel
theorem dX4_back_1 : decode cX4_back 1 = .ok (.getfield 25, 3) := by decide +kernel
theorem dX4_back_4 : decode cX4_back 4 = .ok (.invokevirtual 204, 3) := by decide +kernel
theorem dX4_back_7 : decode cX4_back 7 = .ok (.ifCond .eq 5, 3) := by decide +kernel
theorem dX4_back_10 : decode cX4_back 10 = .ok (.iconst 0, 1) := by decide +kernel
theorem dX4_back_11 : decode cX4_back 11 = .ok (.ireturn, 1) := by decide +kernel
theorem dX4_back_12 : decode cX4_back 12 = .ok (.aload_n 0, 1) := by decide +kernel
theorem dX4_back_13 : decode cX4_back 13 = .ok (.getfield 25, 3) := by decide +kernel
theorem dX4_back_16 : decode cX4_back 16 = .ok (.aload_n 0, 1) := by decide +kernel
theorem dX4_back_17 : decode cX4_back 17 = .ok (.getfield 25, 3) := by decide +kernel
theorem dX4_back_20 : decode cX4_back 20 = .ok (.invokevirtual 70, 3) := by decide +kernel
theorem dX4_back_23 : decode cX4_back 23 = .ok (.iconst 1, 1) := by decide +kernel
theorem dX4_back_24 : decode cX4_back 24 = .ok (.isub, 1) := by decide +kernel
theorem dX4_back_25 : decode cX4_back 25 = .ok (.invokevirtual 207, 3) := by decide +kernel
theorem dX4_back_28 : decode cX4_back 28 = .ok (.checkcast 199, 3) := by decide +kernel
theorem dX4_back_31 : decode cX4_back 31 = .ok (.astore_n 1, 1) := by decide +kernel
theorem dX4_back_32 : decode cX4_back 32 = .ok (.aload_n 1, 1) := by decide +kernel
theorem dX4_back_33 : decode cX4_back 33 = .ok (.getfield 210, 3) := by decide +kernel
theorem dX4_back_36 : decode cX4_back 36 = .ok (.aload_n 1, 1) := by decide +kernel
theorem dX4_back_37 : decode cX4_back 37 = .ok (.getfield 214, 3) := by decide +kernel
theorem dX4_back_40 : decode cX4_back 40 = .ok (.putfield 194, 3) := by decide +kernel
theorem dX4_back_43 : decode cX4_back 43 = .ok (.aload_n 0, 1) := by decide +kernel
theorem dX4_back_44 : decode cX4_back 44 = .ok (.iconst 0, 1) := by decide +kernel
theorem dX4_back_45 : decode cX4_back 45 = .ok (.putfield 50, 3) := by decide +kernel
theorem dX4_back_48 : decode cX4_back 48 = .ok (.iconst 1, 1) := by decide +kernel
theorem dX4_back_49 : decode cX4_back 49 = .ok (.ireturn, 1) := by decide +kernel
theorem dX4_checkIndex_0 : decode cX4_checkIndex 0 = .ok (.iload_n 0, 1) := by decide +kernel
theorem dX4_checkIndex_1 : decode cX4_checkIndex 1 = .ok (.ifCond .lt 8, 3) := by decide +kernel
theorem dX4_checkIndex_4 : decode cX4_checkIndex 4 = .ok (.iload_n 0, 1) := by decide +kernel
theorem dX4_checkIndex_5 : decode cX4_checkIndex 5 = .ok (.iload_n 1, 1) := by decide +kernel
theorem dX4_checkIndex_6 : decode cX4_checkIndex 6 = .ok (.if_icmp .lt 13, 3) := by decide +kernel
theorem dX4_checkIndex_9 : decode cX4_checkIndex 9 = .ok (.new 165, 3) := by decide +kernel
theorem dX4_checkIndex_12 : decode cX4_checkIndex 12 = .ok (.dup, 1) := by decide +kernel
theorem dX4_checkIndex_13 : decode cX4_checkIndex 13 = .ok (.ldc 217, 2) := by decide +kernel
theorem dX4_checkIndex_15 : decode cX4_checkIndex 15 = .ok (.invokespecial 169, 3) := by decide +kernel
theorem dX4_checkIndex_18 : decode cX4_checkIndex 18 = .ok (.athrow, 1) := by decide +kernel
theorem dX4_checkIndex_19 : decode cX4_checkIndex 19 = .ok (.return_, 1) := by decide +kernel
theorem dX4_checkTime_0 : decode cX4_checkTime 0 = .ok (.dload_n 0, 1) := by decide +kernel
theorem dX4_checkTime_1 : decode cX4_checkTime 1 = .ok (.invokestatic 219, 3) := by decide +kernel
theorem dX4_checkTime_4 : decode cX4_checkTime 4 = .ok (.ifCond .ne 13, 3) := by decide +kernel
theorem dX4_checkTime_7 : decode cX4_checkTime 7 = .ok (.new 93, 3) := by decide +kernel
theorem dX4_checkTime_10 : decode cX4_checkTime 10 = .ok (.dup, 1) := by decide +kernel
theorem dX4_checkTime_11 : decode cX4_checkTime 11 = .ok (.ldc 222, 2) := by decide +kernel
theorem dX4_checkTime_13 : decode cX4_checkTime 13 = .ok (.invokespecial 97, 3) := by decide +kernel
theorem dX4_checkTime_16 : decode cX4_checkTime 16 = .ok (.athrow, 1) := by decide +kernel
theorem dX4_checkTime_17 : decode cX4_checkTime 17 = .ok (.return_, 1) := by decide +kernel
theorem dX4_checkListed_0 : decode cX4_checkListed 0 = .ok (.aload_n 0, 1) := by decide +kernel
theorem dX4_checkListed_1 : decode cX4_checkListed 1 = .ok (.getfield 50, 3) := by decide +kernel
theorem dX4_checkListed_4 : decode cX4_checkListed 4 = .ok (.ifCond .ne 13, 3) := by decide +kernel
theorem dX4_checkListed_7 : decode cX4_checkListed 7 = .ok (.new 73, 3) := by decide +kernel
theorem dX4_checkListed_10 : decode cX4_checkListed 10 = .ok (.dup, 1) := by decide +kernel
theorem dX4_checkListed_11 : decode cX4_checkListed 11 = .ok (.ldc 224, 2) := by decide +kernel
theorem dX4_checkListed_13 : decode cX4_checkListed 13 = .ok (.invokespecial 77, 3) := by decide +kernel
theorem dX4_checkListed_16 : decode cX4_checkListed 16 = .ok (.athrow, 1) := by decide +kernel
theorem dX4_checkListed_17 : decode cX4_checkListed 17 = .ok (.return_, 1) := by decide +kernel
theorem dX4_isTime_0 : decode cX4_isTime 0 = .ok (.dload_n 0, 1) := by decide +kernel
theorem dX4_isTime_1 : decode cX4_isTime 1 = .ok (.ldc2_w 226, 3) := by decide +kernel
theorem dX4_isTime_4 : decode cX4_isTime 4 = .ok (.dcmp .l, 1) := by decide +kernel
theorem dX4_isTime_5 : decode cX4_isTime 5 = .ok (.ifCond .lt 31, 3) := by decide +kernel
theorem dX4_isTime_8 : decode cX4_isTime 8 = .ok (.dload_n 0, 1) := by decide +kernel
theorem dX4_isTime_9 : decode cX4_isTime 9 = .ok (.ldc2_w 228, 3) := by decide +kernel
theorem dX4_isTime_12 : decode cX4_isTime 12 = .ok (.dcmp .g, 1) := by decide +kernel
theorem dX4_isTime_13 : decode cX4_isTime 13 = .ok (.ifCond .gt 23, 3) := by decide +kernel
theorem dX4_isTime_16 : decode cX4_isTime 16 = .ok (.dload_n 0, 1) := by decide +kernel
theorem dX4_isTime_17 : decode cX4_isTime 17 = .ok (.ldc2_w 230, 3) := by decide +kernel
theorem dX4_isTime_20 : decode cX4_isTime 20 = .ok (.dmul, 1) := by decide +kernel
theorem dX4_isTime_21 : decode cX4_isTime 21 = .ok (.dload_n 0, 1) := by decide +kernel
theorem dX4_isTime_22 : decode cX4_isTime 22 = .ok (.ldc2_w 230, 3) := by decide +kernel
theorem dX4_isTime_25 : decode cX4_isTime 25 = .ok (.dmul, 1) := by decide +kernel
theorem dX4_isTime_26 : decode cX4_isTime 26 = .ok (.d2i, 1) := by decide +kernel
theorem dX4_isTime_27 : decode cX4_isTime 27 = .ok (.i2d, 1) := by decide +kernel
theorem dX4_isTime_28 : decode cX4_isTime 28 = .ok (.dcmp .l, 1) := by decide +kernel
theorem dX4_isTime_29 : decode cX4_isTime 29 = .ok (.ifCond .ne 7, 3) := by decide +kernel
theorem dX4_isTime_32 : decode cX4_isTime 32 = .ok (.iconst 1, 1) := by decide +kernel
theorem dX4_isTime_33 : decode cX4_isTime 33 = .ok (.goto 4, 3) := by decide +kernel
theorem dX4_isTime_36 : decode cX4_isTime 36 = .ok (.iconst 0, 1) := by decide +kernel
theorem dX4_isTime_37 : decode cX4_isTime 37 = .ok (.ireturn, 1) := by decide +kernel
theorem dX4_isDelay_0 : decode cX4_isDelay 0 = .ok (.dload_n 0, 1) := by decide +kernel
theorem dX4_isDelay_1 : decode cX4_isDelay 1 = .ok (.dconst 0, 1) := by decide +kernel
theorem dX4_isDelay_2 : decode cX4_isDelay 2 = .ok (.dcmp .l, 1) := by decide +kernel
theorem dX4_isDelay_3 : decode cX4_isDelay 3 = .ok (.ifCond .lt 14, 3) := by decide +kernel
theorem dX4_isDelay_6 : decode cX4_isDelay 6 = .ok (.dload_n 0, 1) := by decide +kernel
theorem dX4_isDelay_7 : decode cX4_isDelay 7 = .ok (.invokestatic 219, 3) := by decide +kernel
theorem dX4_isDelay_10 : decode cX4_isDelay 10 = .ok (.ifCond .eq 7, 3) := by decide +kernel
theorem dX4_isDelay_13 : decode cX4_isDelay 13 = .ok (.iconst 1, 1) := by decide +kernel
theorem dX4_isDelay_14 : decode cX4_isDelay 14 = .ok (.goto 4, 3) := by decide +kernel
theorem dX4_isDelay_17 : decode cX4_isDelay 17 = .ok (.iconst 0, 1) := by decide +kernel
theorem dX4_isDelay_18 : decode cX4_isDelay 18 = .ok (.ireturn, 1) := by decide +kernel
theorem dX4_spread_0 : decode cX4_spread 0 = .ok (.iconst 0, 1) := by decide +kernel
theorem dX4_spread_1 : decode cX4_spread 1 = .ok (.istore_n 3, 1) := by decide +kernel
theorem dX4_spread_2 : decode cX4_spread 2 = .ok (.iload_n 3, 1) := by decide +kernel
theorem dX4_spread_3 : decode cX4_spread 3 = .ok (.aload_n 0, 1) := by decide +kernel
theorem dX4_spread_4 : decode cX4_spread 4 = .ok (.getfield 12, 3) := by decide +kernel
theorem dX4_spread_7 : decode cX4_spread 7 = .ok (.invokevirtual 70, 3) := by decide +kernel
theorem dX4_spread_10 : decode cX4_spread 10 = .ok (.if_icmp .ge 26, 3) := by decide +kernel
theorem dX4_spread_13 : decode cX4_spread 13 = .ok (.aload_n 0, 1) := by decide +kernel
theorem dX4_spread_14 : decode cX4_spread 14 = .ok (.getfield 12, 3) := by decide +kernel
theorem dX4_spread_17 : decode cX4_spread 17 = .ok (.iload_n 3, 1) := by decide +kernel
theorem dX4_spread_18 : decode cX4_spread 18 = .ok (.invokevirtual 98, 3) := by decide +kernel
theorem dX4_spread_21 : decode cX4_spread 21 = .ok (.checkcast 35, 3) := by decide +kernel
theorem dX4_spread_24 : decode cX4_spread 24 = .ok (.ldc2_w 189, 3) := by decide +kernel
theorem dX4_spread_27 : decode cX4_spread 27 = .ok (.putfield 106, 3) := by decide +kernel
theorem dX4_spread_30 : decode cX4_spread 30 = .ok (.iinc 3 1, 3) := by decide +kernel
theorem dX4_spread_33 : decode cX4_spread 33 = .ok (.goto (-31), 3) := by decide +kernel
theorem dX4_spread_36 : decode cX4_spread 36 = .ok (.aload_n 1, 1) := by decide +kernel
theorem dX4_spread_37 : decode cX4_spread 37 = .ok (.dconst 0, 1) := by decide +kernel
theorem dX4_spread_38 : decode cX4_spread 38 = .ok (.putfield 106, 3) := by decide +kernel
theorem dX4_spread_41 : decode cX4_spread 41 = .ok (.iconst 0, 1) := by decide +kernel
theorem dX4_spread_42 : decode cX4_spread 42 = .ok (.istore_n 3, 1) := by decide +kernel
theorem dX4_spread_43 : decode cX4_spread 43 = .ok (.iload_n 3, 1) := by decide +kernel
theorem dX4_spread_44 : decode cX4_spread 44 = .ok (.aload_n 0, 1) := by decide +kernel
theorem dX4_spread_45 : decode cX4_spread 45 = .ok (.getfield 28, 3) := by decide +kernel
theorem dX4_spread_48 : decode cX4_spread 48 = .ok (.invokevirtual 70, 3) := by decide +kernel
theorem dX4_spread_51 : decode cX4_spread 51 = .ok (.if_icmp .ge 39, 3) := by decide +kernel
theorem dX4_spread_54 : decode cX4_spread 54 = .ok (.aload_n 0, 1) := by decide +kernel
theorem dX4_spread_55 : decode cX4_spread 55 = .ok (.getfield 28, 3) := by decide +kernel
theorem dX4_spread_58 : decode cX4_spread 58 = .ok (.iload_n 3, 1) := by decide +kernel
theorem dX4_spread_59 : decode cX4_spread 59 = .ok (.invokevirtual 98, 3) := by decide +kernel
theorem dX4_spread_62 : decode cX4_spread 62 = .ok (.checkcast 35, 3) := by decide +kernel
theorem dX4_spread_65 : decode cX4_spread 65 = .ok (.astore 4, 2) := by decide +kernel
theorem dX4_spread_67 : decode cX4_spread 67 = .ok (.aload 4, 2) := by decide +kernel
theorem dX4_spread_69 : decode cX4_spread 69 = .ok (.getfield 106, 3) := by decide +kernel
theorem dX4_spread_72 : decode cX4_spread 72 = .ok (.dconst 0, 1) := by decide +kernel
theorem dX4_spread_73 : decode cX4_spread 73 = .ok (.dcmp .l, 1) := by decide +kernel
theorem dX4_spread_74 : decode cX4_spread 74 = .ok (.ifCond .lt 10, 3) := by decide +kernel
theorem dX4_spread_77 : decode cX4_spread 77 = .ok (.aload_n 0, 1) := by decide +kernel
theorem dX4_spread_78 : decode cX4_spread 78 = .ok (.aload 4, 2) := by decide +kernel
theorem dX4_spread_80 : decode cX4_spread 80 = .ok (.iload_n 2, 1) := by decide +kernel
theorem dX4_spread_81 : decode cX4_spread 81 = .ok (.invokevirtual 232, 3) := by decide +kernel
theorem dX4_spread_84 : decode cX4_spread 84 = .ok (.iinc 3 1, 3) := by decide +kernel
theorem dX4_spread_87 : decode cX4_spread 87 = .ok (.goto (-44), 3) := by decide +kernel
theorem dX4_spread_90 : decode cX4_spread 90 = .ok (.return_, 1) := by decide +kernel
theorem dX4_spreadFurther_0 : decode cX4_spreadFurther 0 = .ok (.iconst 0, 1) := by decide +kernel
theorem dX4_spreadFurther_1 : decode cX4_spreadFurther 1 = .ok (.istore_n 3, 1) := by decide +kernel
theorem dX4_spreadFurther_2 : decode cX4_spreadFurther 2 = .ok (.iload_n 3, 1) := by decide +kernel
theorem dX4_spreadFurther_3 : decode cX4_spreadFurther 3 = .ok (.aload_n 1, 1) := by decide +kernel
theorem dX4_spreadFurther_4 : decode cX4_spreadFurther 4 = .ok (.getfield 120, 3) := by decide +kernel
theorem dX4_spreadFurther_7 : decode cX4_spreadFurther 7 = .ok (.invokevirtual 70, 3) := by decide +kernel
theorem dX4_spreadFurther_10 : decode cX4_spreadFurther 10 = .ok (.if_icmp .ge 75, 3) := by decide +kernel
theorem dX4_spreadFurther_13 : decode cX4_spreadFurther 13 = .ok (.aload_n 1, 1) := by decide +kernel
theorem dX4_spreadFurther_14 : decode cX4_spreadFurther 14 = .ok (.getfield 120, 3) := by decide +kernel
theorem dX4_spreadFurther_17 : decode cX4_spreadFurther 17 = .ok (.iload_n 3, 1) := by decide +kernel
theorem dX4_spreadFurther_18 : decode cX4_spreadFurther 18 = .ok (.invokevirtual 98, 3) := by decide +kernel
theorem dX4_spreadFurther_21 : decode cX4_spreadFurther 21 = .ok (.checkcast 115, 3) := by decide +kernel
theorem dX4_spreadFurther_24 : decode cX4_spreadFurther 24 = .ok (.astore 4, 2) := by decide +kernel
theorem dX4_spreadFurther_26 : decode cX4_spreadFurther 26 = .ok (.aload_n 1, 1) := by decide +kernel
theorem dX4_spreadFurther_27 : decode cX4_spreadFurther 27 = .ok (.getfield 106, 3) := by decide +kernel
theorem dX4_spreadFurther_30 : decode cX4_spreadFurther 30 = .ok (.aload 4, 2) := by decide +kernel
theorem dX4_spreadFurther_32 : decode cX4_spreadFurther 32 = .ok (.getfield 194, 3) := by decide +kernel
theorem dX4_spreadFurther_35 : decode cX4_spreadFurther 35 = .ok (.dadd, 1) := by decide +kernel
theorem dX4_spreadFurther_36 : decode cX4_spreadFurther 36 = .ok (.dstore 5, 2) := by decide +kernel
theorem dX4_spreadFurther_38 : decode cX4_spreadFurther 38 = .ok (.iload_n 2, 1) := by decide +kernel
theorem dX4_spreadFurther_39 : decode cX4_spreadFurther 39 = .ok (.iconst (-1), 1) := by decide +kernel
theorem dX4_spreadFurther_40 : decode cX4_spreadFurther 40 = .ok (.if_icmp .eq 15, 3) := by decide +kernel
theorem dX4_spreadFurther_43 : decode cX4_spreadFurther 43 = .ok (.aload 4, 2) := by decide +kernel
theorem dX4_spreadFurther_45 : decode cX4_spreadFurther 45 = .ok (.getfield 191, 3) := by decide +kernel
theorem dX4_spreadFurther_48 : decode cX4_spreadFurther 48 = .ok (.getfield 183, 3) := by decide +kernel
theorem dX4_spreadFurther_51 : decode cX4_spreadFurther 51 = .ok (.iload_n 2, 1) := by decide +kernel
theorem dX4_spreadFurther_52 : decode cX4_spreadFurther 52 = .ok (.if_icmp .ne 27, 3) := by decide +kernel
theorem dX4_spreadFurther_55 : decode cX4_spreadFurther 55 = .ok (.dload 5, 2) := by decide +kernel
theorem dX4_spreadFurther_57 : decode cX4_spreadFurther 57 = .ok (.aload 4, 2) := by decide +kernel
theorem dX4_spreadFurther_59 : decode cX4_spreadFurther 59 = .ok (.getfield 191, 3) := by decide +kernel
theorem dX4_spreadFurther_62 : decode cX4_spreadFurther 62 = .ok (.getfield 106, 3) := by decide +kernel
theorem dX4_spreadFurther_65 : decode cX4_spreadFurther 65 = .ok (.dcmp .l, 1) := by decide +kernel
theorem dX4_spreadFurther_66 : decode cX4_spreadFurther 66 = .ok (.ifCond .le 13, 3) := by decide +kernel
theorem dX4_spreadFurther_69 : decode cX4_spreadFurther 69 = .ok (.aload 4, 2) := by decide +kernel
theorem dX4_spreadFurther_71 : decode cX4_spreadFurther 71 = .ok (.getfield 191, 3) := by decide +kernel
theorem dX4_spreadFurther_74 : decode cX4_spreadFurther 74 = .ok (.dload 5, 2) := by decide +kernel
theorem dX4_spreadFurther_76 : decode cX4_spreadFurther 76 = .ok (.putfield 106, 3) := by decide +kernel
theorem dX4_spreadFurther_79 : decode cX4_spreadFurther 79 = .ok (.iinc 3 1, 3) := by decide +kernel
theorem dX4_spreadFurther_82 : decode cX4_spreadFurther 82 = .ok (.goto (-80), 3) := by decide +kernel
theorem dX4_spreadFurther_85 : decode cX4_spreadFurther 85 = .ok (.return_, 1) := by decide +kernel
theorem dX4_placeReachedLast_0 : decode cX4_placeReachedLast 0 = .ok (.iconst 0, 1) := by decide +kernel
theorem dX4_placeReachedLast_1 : decode cX4_placeReachedLast 1 = .ok (.istore_n 1, 1) := by decide +kernel
theorem dX4_placeReachedLast_2 : decode cX4_placeReachedLast 2 = .ok (.iconst 0, 1) := by decide +kernel
theorem dX4_placeReachedLast_3 : decode cX4_placeReachedLast 3 = .ok (.istore_n 2, 1) := by decide +kernel
theorem dX4_placeReachedLast_4 : decode cX4_placeReachedLast 4 = .ok (.iload_n 2, 1) := by decide +kernel
theorem dX4_placeReachedLast_5 : decode cX4_placeReachedLast 5 = .ok (.aload_n 0, 1) := by decide +kernel
theorem dX4_placeReachedLast_6 : decode cX4_placeReachedLast 6 = .ok (.getfield 28, 3) := by decide +kernel
theorem dX4_placeReachedLast_9 : decode cX4_placeReachedLast 9 = .ok (.invokevirtual 70, 3) := by decide +kernel
theorem dX4_placeReachedLast_12 : decode cX4_placeReachedLast 12 = .ok (.if_icmp .ge 51, 3) := by decide +kernel
theorem dX4_placeReachedLast_15 : decode cX4_placeReachedLast 15 = .ok (.aload_n 0, 1) := by decide +kernel
theorem dX4_placeReachedLast_16 : decode cX4_placeReachedLast 16 = .ok (.getfield 28, 3) := by decide +kernel
theorem dX4_placeReachedLast_19 : decode cX4_placeReachedLast 19 = .ok (.iload_n 2, 1) := by decide +kernel
theorem dX4_placeReachedLast_20 : decode cX4_placeReachedLast 20 = .ok (.invokevirtual 98, 3) := by decide +kernel
theorem dX4_placeReachedLast_23 : decode cX4_placeReachedLast 23 = .ok (.checkcast 35, 3) := by decide +kernel
theorem dX4_placeReachedLast_26 : decode cX4_placeReachedLast 26 = .ok (.astore_n 3, 1) := by decide +kernel
theorem dX4_placeReachedLast_27 : decode cX4_placeReachedLast 27 = .ok (.aload_n 3, 1) := by decide +kernel
theorem dX4_placeReachedLast_28 : decode cX4_placeReachedLast 28 = .ok (.getfield 106, 3) := by decide +kernel
theorem dX4_placeReachedLast_31 : decode cX4_placeReachedLast 31 = .ok (.dconst 0, 1) := by decide +kernel
theorem dX4_placeReachedLast_32 : decode cX4_placeReachedLast 32 = .ok (.dcmp .g, 1) := by decide +kernel
theorem dX4_placeReachedLast_33 : decode cX4_placeReachedLast 33 = .ok (.ifCond .ge 24, 3) := by decide +kernel
theorem dX4_placeReachedLast_36 : decode cX4_placeReachedLast 36 = .ok (.aload_n 0, 1) := by decide +kernel
theorem dX4_placeReachedLast_37 : decode cX4_placeReachedLast 37 = .ok (.getfield 28, 3) := by decide +kernel
theorem dX4_placeReachedLast_40 : decode cX4_placeReachedLast 40 = .ok (.iload_n 2, 1) := by decide +kernel
theorem dX4_placeReachedLast_41 : decode cX4_placeReachedLast 41 = .ok (.invokevirtual 207, 3) := by decide +kernel
theorem dX4_placeReachedLast_44 : decode cX4_placeReachedLast 44 = .ok (.pop, 1) := by decide +kernel
theorem dX4_placeReachedLast_45 : decode cX4_placeReachedLast 45 = .ok (.aload_n 0, 1) := by decide +kernel
theorem dX4_placeReachedLast_46 : decode cX4_placeReachedLast 46 = .ok (.getfield 28, 3) := by decide +kernel
theorem dX4_placeReachedLast_49 : decode cX4_placeReachedLast 49 = .ok (.iload_n 1, 1) := by decide +kernel
theorem dX4_placeReachedLast_50 : decode cX4_placeReachedLast 50 = .ok (.aload_n 3, 1) := by decide +kernel
theorem dX4_placeReachedLast_51 : decode cX4_placeReachedLast 51 = .ok (.invokevirtual 138, 3) := by decide +kernel
theorem dX4_placeReachedLast_54 : decode cX4_placeReachedLast 54 = .ok (.iinc 1 1, 3) := by decide +kernel
theorem dX4_placeReachedLast_57 : decode cX4_placeReachedLast 57 = .ok (.iinc 2 1, 3) := by decide +kernel
theorem dX4_placeReachedLast_60 : decode cX4_placeReachedLast 60 = .ok (.goto (-56), 3) := by decide +kernel
theorem dX4_placeReachedLast_63 : decode cX4_placeReachedLast 63 = .ok (.iconst 0, 1) := by decide +kernel
theorem dX4_placeReachedLast_64 : decode cX4_placeReachedLast 64 = .ok (.istore_n 2, 1) := by decide +kernel
theorem dX4_placeReachedLast_65 : decode cX4_placeReachedLast 65 = .ok (.iload_n 2, 1) := by decide +kernel
theorem dX4_placeReachedLast_66 : decode cX4_placeReachedLast 66 = .ok (.aload_n 0, 1) := by decide +kernel
theorem dX4_placeReachedLast_67 : decode cX4_placeReachedLast 67 = .ok (.getfield 28, 3) := by decide +kernel
theorem dX4_placeReachedLast_70 : decode cX4_placeReachedLast 70 = .ok (.invokevirtual 70, 3) := by decide +kernel
theorem dX4_placeReachedLast_73 : decode cX4_placeReachedLast 73 = .ok (.if_icmp .ge 24, 3) := by decide +kernel
theorem dX4_placeReachedLast_76 : decode cX4_placeReachedLast 76 = .ok (.aload_n 0, 1) := by decide +kernel
theorem dX4_placeReachedLast_77 : decode cX4_placeReachedLast 77 = .ok (.getfield 28, 3) := by decide +kernel
theorem dX4_placeReachedLast_80 : decode cX4_placeReachedLast 80 = .ok (.iload_n 2, 1) := by decide +kernel
theorem dX4_placeReachedLast_81 : decode cX4_placeReachedLast 81 = .ok (.invokevirtual 98, 3) := by decide +kernel
theorem dX4_placeReachedLast_84 : decode cX4_placeReachedLast 84 = .ok (.checkcast 35, 3) := by decide +kernel
theorem dX4_placeReachedLast_87 : decode cX4_placeReachedLast 87 = .ok (.iload_n 2, 1) := by decide +kernel
theorem dX4_placeReachedLast_88 : decode cX4_placeReachedLast 88 = .ok (.putfield 235, 3) := by decide +kernel
theorem dX4_placeReachedLast_91 : decode cX4_placeReachedLast 91 = .ok (.iinc 2 1, 3) := by decide +kernel
theorem dX4_placeReachedLast_94 : decode cX4_placeReachedLast 94 = .ok (.goto (-29), 3) := by decide +kernel
theorem dX4_placeReachedLast_97 : decode cX4_placeReachedLast 97 = .ok (.return_, 1) := by decide +kernel
theorem dX4_throughRises_0 : decode cX4_throughRises 0 = .ok (.iconst (-1), 1) := by decide +kernel
theorem dX4_throughRises_1 : decode cX4_throughRises 1 = .ok (.istore_n 1, 1) := by decide +kernel
theorem dX4_throughRises_2 : decode cX4_throughRises 2 = .ok (.iconst 0, 1) := by decide +kernel
theorem dX4_throughRises_3 : decode cX4_throughRises 3 = .ok (.istore_n 2, 1) := by decide +kernel
theorem dX4_throughRises_4 : decode cX4_throughRises 4 = .ok (.iload_n 2, 1) := by decide +kernel
theorem dX4_throughRises_5 : decode cX4_throughRises 5 = .ok (.bipush 10, 2) := by decide +kernel
theorem dX4_throughRises_7 : decode cX4_throughRises 7 = .ok (.if_icmp .ge 38, 3) := by decide +kernel
theorem dX4_throughRises_10 : decode cX4_throughRises 10 = .ok (.aload_n 0, 1) := by decide +kernel
theorem dX4_throughRises_11 : decode cX4_throughRises 11 = .ok (.iload_n 2, 1) := by decide +kernel
theorem dX4_throughRises_12 : decode cX4_throughRises 12 = .ok (.invokevirtual 238, 3) := by decide +kernel
theorem dX4_throughRises_15 : decode cX4_throughRises 15 = .ok (.istore_n 3, 1) := by decide +kernel
theorem dX4_throughRises_16 : decode cX4_throughRises 16 = .ok (.iload_n 3, 1) := by decide +kernel
theorem dX4_throughRises_17 : decode cX4_throughRises 17 = .ok (.iconst (-1), 1) := by decide +kernel
theorem dX4_throughRises_18 : decode cX4_throughRises 18 = .ok (.if_icmp .eq 10, 3) := by decide +kernel
theorem dX4_throughRises_21 : decode cX4_throughRises 21 = .ok (.iload_n 3, 1) := by decide +kernel
theorem dX4_throughRises_22 : decode cX4_throughRises 22 = .ok (.iload_n 1, 1) := by decide +kernel
theorem dX4_throughRises_23 : decode cX4_throughRises 23 = .ok (.if_icmp .ge 5, 3) := by decide +kernel
theorem dX4_throughRises_26 : decode cX4_throughRises 26 = .ok (.iconst 0, 1) := by decide +kernel
theorem dX4_throughRises_27 : decode cX4_throughRises 27 = .ok (.ireturn, 1) := by decide +kernel
theorem dX4_throughRises_28 : decode cX4_throughRises 28 = .ok (.iload_n 3, 1) := by decide +kernel
theorem dX4_throughRises_29 : decode cX4_throughRises 29 = .ok (.iconst (-1), 1) := by decide +kernel
theorem dX4_throughRises_30 : decode cX4_throughRises 30 = .ok (.if_icmp .ne 7, 3) := by decide +kernel
theorem dX4_throughRises_33 : decode cX4_throughRises 33 = .ok (.iload_n 1, 1) := by decide +kernel
theorem dX4_throughRises_34 : decode cX4_throughRises 34 = .ok (.goto 4, 3) := by decide +kernel
theorem dX4_throughRises_37 : decode cX4_throughRises 37 = .ok (.iload_n 3, 1) := by decide +kernel
theorem dX4_throughRises_38 : decode cX4_throughRises 38 = .ok (.istore_n 1, 1) := by decide +kernel
theorem dX4_throughRises_39 : decode cX4_throughRises 39 = .ok (.iinc 2 1, 3) := by decide +kernel
theorem dX4_throughRises_42 : decode cX4_throughRises 42 = .ok (.goto (-38), 3) := by decide +kernel
theorem dX4_throughRises_45 : decode cX4_throughRises 45 = .ok (.iconst 1, 1) := by decide +kernel
theorem dX4_throughRises_46 : decode cX4_throughRises 46 = .ok (.ireturn, 1) := by decide +kernel
theorem dX4_placeOfOrder_0 : decode cX4_placeOfOrder 0 = .ok (.aload_n 0, 1) := by decide +kernel
theorem dX4_placeOfOrder_1 : decode cX4_placeOfOrder 1 = .ok (.getfield 31, 3) := by decide +kernel
theorem dX4_placeOfOrder_4 : decode cX4_placeOfOrder 4 = .ok (.iload_n 1, 1) := by decide +kernel
theorem dX4_placeOfOrder_5 : decode cX4_placeOfOrder 5 = .ok (.iaload, 1) := by decide +kernel
theorem dX4_placeOfOrder_6 : decode cX4_placeOfOrder 6 = .ok (.istore_n 2, 1) := by decide +kernel
theorem dX4_placeOfOrder_7 : decode cX4_placeOfOrder 7 = .ok (.iload_n 2, 1) := by decide +kernel
theorem dX4_placeOfOrder_8 : decode cX4_placeOfOrder 8 = .ok (.ifCond .lt 31, 3) := by decide +kernel
theorem dX4_placeOfOrder_11 : decode cX4_placeOfOrder 11 = .ok (.iload_n 2, 1) := by decide +kernel
theorem dX4_placeOfOrder_12 : decode cX4_placeOfOrder 12 = .ok (.aload_n 0, 1) := by decide +kernel
theorem dX4_placeOfOrder_13 : decode cX4_placeOfOrder 13 = .ok (.getfield 12, 3) := by decide +kernel
theorem dX4_placeOfOrder_16 : decode cX4_placeOfOrder 16 = .ok (.invokevirtual 70, 3) := by decide +kernel
theorem dX4_placeOfOrder_19 : decode cX4_placeOfOrder 19 = .ok (.if_icmp .ge 20, 3) := by decide +kernel
theorem dX4_placeOfOrder_22 : decode cX4_placeOfOrder 22 = .ok (.aload_n 0, 1) := by decide +kernel
theorem dX4_placeOfOrder_23 : decode cX4_placeOfOrder 23 = .ok (.getfield 12, 3) := by decide +kernel
theorem dX4_placeOfOrder_26 : decode cX4_placeOfOrder 26 = .ok (.iload_n 2, 1) := by decide +kernel
theorem dX4_placeOfOrder_27 : decode cX4_placeOfOrder 27 = .ok (.invokevirtual 98, 3) := by decide +kernel
theorem dX4_placeOfOrder_30 : decode cX4_placeOfOrder 30 = .ok (.checkcast 35, 3) := by decide +kernel
theorem dX4_placeOfOrder_33 : decode cX4_placeOfOrder 33 = .ok (.getfield 235, 3) := by decide +kernel
theorem dX4_placeOfOrder_36 : decode cX4_placeOfOrder 36 = .ok (.goto 4, 3) := by decide +kernel
theorem dX4_placeOfOrder_39 : decode cX4_placeOfOrder 39 = .ok (.iconst (-1), 1) := by decide +kernel
theorem dX4_placeOfOrder_40 : decode cX4_placeOfOrder 40 = .ok (.ireturn, 1) := by decide +kernel
theorem dX4_leavesOut_0 : decode cX4_leavesOut 0 = .ok (.iconst 0, 1) := by decide +kernel
theorem dX4_leavesOut_1 : decode cX4_leavesOut 1 = .ok (.istore_n 2, 1) := by decide +kernel
theorem dX4_leavesOut_2 : decode cX4_leavesOut 2 = .ok (.iload_n 2, 1) := by decide +kernel
theorem dX4_leavesOut_3 : decode cX4_leavesOut 3 = .ok (.bipush 10, 2) := by decide +kernel
theorem dX4_leavesOut_5 : decode cX4_leavesOut 5 = .ok (.if_icmp .ge 44, 3) := by decide +kernel
theorem dX4_leavesOut_8 : decode cX4_leavesOut 8 = .ok (.aload_n 0, 1) := by decide +kernel
theorem dX4_leavesOut_9 : decode cX4_leavesOut 9 = .ok (.iload_n 2, 1) := by decide +kernel
theorem dX4_leavesOut_10 : decode cX4_leavesOut 10 = .ok (.invokevirtual 238, 3) := by decide +kernel
theorem dX4_leavesOut_13 : decode cX4_leavesOut 13 = .ok (.istore_n 3, 1) := by decide +kernel
theorem dX4_leavesOut_14 : decode cX4_leavesOut 14 = .ok (.iload_n 3, 1) := by decide +kernel
theorem dX4_leavesOut_15 : decode cX4_leavesOut 15 = .ok (.iconst (-1), 1) := by decide +kernel
theorem dX4_leavesOut_16 : decode cX4_leavesOut 16 = .ok (.if_icmp .eq 27, 3) := by decide +kernel
theorem dX4_leavesOut_19 : decode cX4_leavesOut 19 = .ok (.aload_n 1, 1) := by decide +kernel
theorem dX4_leavesOut_20 : decode cX4_leavesOut 20 = .ok (.getfield 241, 3) := by decide +kernel
theorem dX4_leavesOut_23 : decode cX4_leavesOut 23 = .ok (.getfield 235, 3) := by decide +kernel
theorem dX4_leavesOut_26 : decode cX4_leavesOut 26 = .ok (.iload_n 3, 1) := by decide +kernel
theorem dX4_leavesOut_27 : decode cX4_leavesOut 27 = .ok (.if_icmp .ge 16, 3) := by decide +kernel
theorem dX4_leavesOut_30 : decode cX4_leavesOut 30 = .ok (.iload_n 3, 1) := by decide +kernel
theorem dX4_leavesOut_31 : decode cX4_leavesOut 31 = .ok (.aload_n 1, 1) := by decide +kernel
theorem dX4_leavesOut_32 : decode cX4_leavesOut 32 = .ok (.getfield 191, 3) := by decide +kernel
theorem dX4_leavesOut_35 : decode cX4_leavesOut 35 = .ok (.getfield 235, 3) := by decide +kernel
theorem dX4_leavesOut_38 : decode cX4_leavesOut 38 = .ok (.if_icmp .ge 5, 3) := by decide +kernel
theorem dX4_leavesOut_41 : decode cX4_leavesOut 41 = .ok (.iconst 1, 1) := by decide +kernel
theorem dX4_leavesOut_42 : decode cX4_leavesOut 42 = .ok (.ireturn, 1) := by decide +kernel
theorem dX4_leavesOut_43 : decode cX4_leavesOut 43 = .ok (.iinc 2 1, 3) := by decide +kernel
theorem dX4_leavesOut_46 : decode cX4_leavesOut 46 = .ok (.goto (-44), 3) := by decide +kernel
theorem dX4_leavesOut_49 : decode cX4_leavesOut 49 = .ok (.iconst 0, 1) := by decide +kernel
theorem dX4_leavesOut_50 : decode cX4_leavesOut 50 = .ok (.ireturn, 1) := by decide +kernel
theorem dX4_gather_0 : decode cX4_gather 0 = .ok (.aload_n 0, 1) := by decide +kernel
theorem dX4_gather_1 : decode cX4_gather 1 = .ok (.getfield 47, 3) := by decide +kernel
theorem dX4_gather_4 : decode cX4_gather 4 = .ok (.iconst 0, 1) := by decide +kernel
theorem dX4_gather_5 : decode cX4_gather 5 = .ok (.invokestatic 54, 3) := by decide +kernel
theorem dX4_gather_8 : decode cX4_gather 8 = .ok (.aload_n 1, 1) := by decide +kernel
theorem dX4_gather_9 : decode cX4_gather 9 = .ok (.getfield 60, 3) := by decide +kernel
theorem dX4_gather_12 : decode cX4_gather 12 = .ok (.astore_n 3, 1) := by decide +kernel
theorem dX4_gather_13 : decode cX4_gather 13 = .ok (.aload_n 3, 1) := by decide +kernel
theorem dX4_gather_14 : decode cX4_gather 14 = .ok (.iconst 0, 1) := by decide +kernel
theorem dX4_gather_15 : decode cX4_gather 15 = .ok (.putfield 64, 3) := by decide +kernel
theorem dX4_gather_18 : decode cX4_gather 18 = .ok (.iconst 0, 1) := by decide +kernel
theorem dX4_gather_19 : decode cX4_gather 19 = .ok (.istore 4, 2) := by decide +kernel
theorem dX4_gather_21 : decode cX4_gather 21 = .ok (.iload 4, 2) := by decide +kernel
theorem dX4_gather_23 : decode cX4_gather 23 = .ok (.aload_n 1, 1) := by decide +kernel
theorem dX4_gather_24 : decode cX4_gather 24 = .ok (.getfield 120, 3) := by decide +kernel
theorem dX4_gather_27 : decode cX4_gather 27 = .ok (.invokevirtual 70, 3) := by decide +kernel
theorem dX4_gather_30 : decode cX4_gather 30 = .ok (.if_icmp .ge 52, 3) := by decide +kernel
theorem dX4_gather_33 : decode cX4_gather 33 = .ok (.aload_n 1, 1) := by decide +kernel
theorem dX4_gather_34 : decode cX4_gather 34 = .ok (.getfield 120, 3) := by decide +kernel
theorem dX4_gather_37 : decode cX4_gather 37 = .ok (.iload 4, 2) := by decide +kernel
theorem dX4_gather_39 : decode cX4_gather 39 = .ok (.invokevirtual 98, 3) := by decide +kernel
theorem dX4_gather_42 : decode cX4_gather 42 = .ok (.checkcast 115, 3) := by decide +kernel
theorem dX4_gather_45 : decode cX4_gather 45 = .ok (.astore 5, 2) := by decide +kernel
theorem dX4_gather_47 : decode cX4_gather 47 = .ok (.aload 5, 2) := by decide +kernel
theorem dX4_gather_49 : decode cX4_gather 49 = .ok (.aload_n 0, 1) := by decide +kernel
theorem dX4_gather_50 : decode cX4_gather 50 = .ok (.aload 5, 2) := by decide +kernel
theorem dX4_gather_52 : decode cX4_gather 52 = .ok (.invokevirtual 244, 3) := by decide +kernel
theorem dX4_gather_55 : decode cX4_gather 55 = .ok (.ifCond .eq 17, 3) := by decide +kernel
theorem dX4_gather_58 : decode cX4_gather 58 = .ok (.aload 5, 2) := by decide +kernel
theorem dX4_gather_60 : decode cX4_gather 60 = .ok (.getfield 191, 3) := by decide +kernel
theorem dX4_gather_63 : decode cX4_gather 63 = .ok (.getfield 60, 3) := by decide +kernel
theorem dX4_gather_66 : decode cX4_gather 66 = .ok (.getfield 64, 3) := by decide +kernel
theorem dX4_gather_69 : decode cX4_gather 69 = .ok (.goto 4, 3) := by decide +kernel
theorem dX4_gather_72 : decode cX4_gather 72 = .ok (.iconst 0, 1) := by decide +kernel
theorem dX4_gather_73 : decode cX4_gather 73 = .ok (.putfield 248, 3) := by decide +kernel
theorem dX4_gather_76 : decode cX4_gather 76 = .ok (.iinc 4 1, 3) := by decide +kernel
theorem dX4_gather_79 : decode cX4_gather 79 = .ok (.goto (-58), 3) := by decide +kernel
theorem dX4_gather_82 : decode cX4_gather 82 = .ok (.iconst 0, 1) := by decide +kernel
theorem dX4_gather_83 : decode cX4_gather 83 = .ok (.istore 4, 2) := by decide +kernel
theorem dX4_gather_85 : decode cX4_gather 85 = .ok (.iload 4, 2) := by decide +kernel
theorem dX4_gather_87 : decode cX4_gather 87 = .ok (.aload_n 3, 1) := by decide +kernel
theorem dX4_gather_88 : decode cX4_gather 88 = .ok (.getfield 157, 3) := by decide +kernel
theorem dX4_gather_91 : decode cX4_gather 91 = .ok (.arraylength, 1) := by decide +kernel
theorem dX4_gather_92 : decode cX4_gather 92 = .ok (.if_icmp .ge 33, 3) := by decide +kernel
theorem dX4_gather_95 : decode cX4_gather 95 = .ok (.aload_n 0, 1) := by decide +kernel
theorem dX4_gather_96 : decode cX4_gather 96 = .ok (.aload_n 1, 1) := by decide +kernel
theorem dX4_gather_97 : decode cX4_gather 97 = .ok (.getfield 120, 3) := by decide +kernel
theorem dX4_gather_100 : decode cX4_gather 100 = .ok (.iload_n 2, 1) := by decide +kernel
theorem dX4_gather_101 : decode cX4_gather 101 = .ok (.invokevirtual 251, 3) := by decide +kernel
theorem dX4_gather_104 : decode cX4_gather 104 = .ok (.astore 5, 2) := by decide +kernel
theorem dX4_gather_106 : decode cX4_gather 106 = .ok (.aload 5, 2) := by decide +kernel
theorem dX4_gather_108 : decode cX4_gather 108 = .ok (.ifnonnull 4, 3) := by decide +kernel
theorem dX4_gather_111 : decode cX4_gather 111 = .ok (.return_, 1) := by decide +kernel
theorem dX4_gather_112 : decode cX4_gather 112 = .ok (.aload_n 0, 1) := by decide +kernel
theorem dX4_gather_113 : decode cX4_gather 113 = .ok (.aload 5, 2) := by decide +kernel
theorem dX4_gather_115 : decode cX4_gather 115 = .ok (.aload_n 3, 1) := by decide +kernel
theorem dX4_gather_116 : decode cX4_gather 116 = .ok (.invokevirtual 255, 3) := by decide +kernel
theorem dX4_gather_119 : decode cX4_gather 119 = .ok (.iinc 4 1, 3) := by decide +kernel
theorem dX4_gather_122 : decode cX4_gather 122 = .ok (.goto (-37), 3) := by decide +kernel
theorem dX4_gather_125 : decode cX4_gather 125 = .ok (.return_, 1) := by decide +kernel
theorem dX4_firstOf_0 : decode cX4_firstOf 0 = .ok (.aconst_null, 1) := by decide +kernel
theorem dX4_firstOf_1 : decode cX4_firstOf 1 = .ok (.astore_n 3, 1) := by decide +kernel
theorem dX4_firstOf_2 : decode cX4_firstOf 2 = .ok (.iconst 0, 1) := by decide +kernel
theorem dX4_firstOf_3 : decode cX4_firstOf 3 = .ok (.istore 4, 2) := by decide +kernel
theorem dX4_firstOf_5 : decode cX4_firstOf 5 = .ok (.iload 4, 2) := by decide +kernel
theorem dX4_firstOf_7 : decode cX4_firstOf 7 = .ok (.aload_n 1, 1) := by decide +kernel
theorem dX4_firstOf_8 : decode cX4_firstOf 8 = .ok (.invokevirtual 70, 3) := by decide +kernel
theorem dX4_firstOf_11 : decode cX4_firstOf 11 = .ok (.if_icmp .ge 52, 3) := by decide +kernel
theorem dX4_firstOf_14 : decode cX4_firstOf 14 = .ok (.aload_n 1, 1) := by decide +kernel
theorem dX4_firstOf_15 : decode cX4_firstOf 15 = .ok (.iload 4, 2) := by decide +kernel
theorem dX4_firstOf_17 : decode cX4_firstOf 17 = .ok (.invokevirtual 98, 3) := by decide +kernel
theorem dX4_firstOf_20 : decode cX4_firstOf 20 = .ok (.checkcast 115, 3) := by decide +kernel
theorem dX4_firstOf_23 : decode cX4_firstOf 23 = .ok (.astore 5, 2) := by decide +kernel
theorem dX4_firstOf_25 : decode cX4_firstOf 25 = .ok (.aload_n 0, 1) := by decide +kernel
theorem dX4_firstOf_26 : decode cX4_firstOf 26 = .ok (.aload 5, 2) := by decide +kernel
theorem dX4_firstOf_28 : decode cX4_firstOf 28 = .ok (.iload_n 2, 1) := by decide +kernel
theorem dX4_firstOf_29 : decode cX4_firstOf 29 = .ok (.invokevirtual 259, 3) := by decide +kernel
theorem dX4_firstOf_32 : decode cX4_firstOf 32 = .ok (.ifCond .eq 25, 3) := by decide +kernel
theorem dX4_firstOf_35 : decode cX4_firstOf 35 = .ok (.aload_n 3, 1) := by decide +kernel
theorem dX4_firstOf_36 : decode cX4_firstOf 36 = .ok (.ifnull 18, 3) := by decide +kernel
theorem dX4_firstOf_39 : decode cX4_firstOf 39 = .ok (.aload_n 0, 1) := by decide +kernel
theorem dX4_firstOf_40 : decode cX4_firstOf 40 = .ok (.aload 5, 2) := by decide +kernel
theorem dX4_firstOf_42 : decode cX4_firstOf 42 = .ok (.invokevirtual 263, 3) := by decide +kernel
theorem dX4_firstOf_45 : decode cX4_firstOf 45 = .ok (.aload_n 0, 1) := by decide +kernel
theorem dX4_firstOf_46 : decode cX4_firstOf 46 = .ok (.aload_n 3, 1) := by decide +kernel
theorem dX4_firstOf_47 : decode cX4_firstOf 47 = .ok (.invokevirtual 263, 3) := by decide +kernel
theorem dX4_firstOf_50 : decode cX4_firstOf 50 = .ok (.dcmp .g, 1) := by decide +kernel
theorem dX4_firstOf_51 : decode cX4_firstOf 51 = .ok (.ifCond .ge 6, 3) := by decide +kernel
theorem dX4_firstOf_54 : decode cX4_firstOf 54 = .ok (.aload 5, 2) := by decide +kernel
theorem dX4_firstOf_56 : decode cX4_firstOf 56 = .ok (.astore_n 3, 1) := by decide +kernel
theorem dX4_firstOf_57 : decode cX4_firstOf 57 = .ok (.iinc 4 1, 3) := by decide +kernel
theorem dX4_firstOf_60 : decode cX4_firstOf 60 = .ok (.goto (-55), 3) := by decide +kernel
theorem dX4_firstOf_63 : decode cX4_firstOf 63 = .ok (.aload_n 3, 1) := by decide +kernel
theorem dX4_firstOf_64 : decode cX4_firstOf 64 = .ok (.areturn, 1) := by decide +kernel
theorem dX4_hasNext_0 : decode cX4_hasNext 0 = .ok (.aload_n 1, 1) := by decide +kernel
theorem dX4_hasNext_1 : decode cX4_hasNext 1 = .ok (.getfield 191, 3) := by decide +kernel
theorem dX4_hasNext_4 : decode cX4_hasNext 4 = .ok (.getfield 60, 3) := by decide +kernel
theorem dX4_hasNext_7 : decode cX4_hasNext 7 = .ok (.getfield 64, 3) := by decide +kernel
theorem dX4_hasNext_10 : decode cX4_hasNext 10 = .ok (.istore_n 3, 1) := by decide +kernel
theorem dX4_hasNext_11 : decode cX4_hasNext 11 = .ok (.aload_n 1, 1) := by decide +kernel
theorem dX4_hasNext_12 : decode cX4_hasNext 12 = .ok (.getfield 248, 3) := by decide +kernel
theorem dX4_hasNext_15 : decode cX4_hasNext 15 = .ok (.iload_n 3, 1) := by decide +kernel
theorem dX4_hasNext_16 : decode cX4_hasNext 16 = .ok (.if_icmp .ge 30, 3) := by decide +kernel
theorem dX4_hasNext_19 : decode cX4_hasNext 19 = .ok (.aload_n 0, 1) := by decide +kernel
theorem dX4_hasNext_20 : decode cX4_hasNext 20 = .ok (.getfield 47, 3) := by decide +kernel
theorem dX4_hasNext_23 : decode cX4_hasNext 23 = .ok (.aload_n 0, 1) := by decide +kernel
theorem dX4_hasNext_24 : decode cX4_hasNext 24 = .ok (.aload_n 1, 1) := by decide +kernel
theorem dX4_hasNext_25 : decode cX4_hasNext 25 = .ok (.invokevirtual 267, 3) := by decide +kernel
theorem dX4_hasNext_28 : decode cX4_hasNext 28 = .ok (.iaload, 1) := by decide +kernel
theorem dX4_hasNext_29 : decode cX4_hasNext 29 = .ok (.iload_n 2, 1) := by decide +kernel
theorem dX4_hasNext_30 : decode cX4_hasNext 30 = .ok (.if_icmp .lt 16, 3) := by decide +kernel
theorem dX4_hasNext_33 : decode cX4_hasNext 33 = .ok (.aload_n 1, 1) := by decide +kernel
theorem dX4_hasNext_34 : decode cX4_hasNext 34 = .ok (.dup, 1) := by decide +kernel
theorem dX4_hasNext_35 : decode cX4_hasNext 35 = .ok (.getfield 248, 3) := by decide +kernel
theorem dX4_hasNext_38 : decode cX4_hasNext 38 = .ok (.iconst 1, 1) := by decide +kernel
theorem dX4_hasNext_39 : decode cX4_hasNext 39 = .ok (.iadd, 1) := by decide +kernel
theorem dX4_hasNext_40 : decode cX4_hasNext 40 = .ok (.putfield 248, 3) := by decide +kernel
theorem dX4_hasNext_43 : decode cX4_hasNext 43 = .ok (.goto (-32), 3) := by decide +kernel
theorem dX4_hasNext_46 : decode cX4_hasNext 46 = .ok (.aload_n 1, 1) := by decide +kernel
theorem dX4_hasNext_47 : decode cX4_hasNext 47 = .ok (.getfield 248, 3) := by decide +kernel
theorem dX4_hasNext_50 : decode cX4_hasNext 50 = .ok (.iload_n 3, 1) := by decide +kernel
theorem dX4_hasNext_51 : decode cX4_hasNext 51 = .ok (.if_icmp .ge 7, 3) := by decide +kernel
theorem dX4_hasNext_54 : decode cX4_hasNext 54 = .ok (.iconst 1, 1) := by decide +kernel
theorem dX4_hasNext_55 : decode cX4_hasNext 55 = .ok (.goto 4, 3) := by decide +kernel
theorem dX4_hasNext_58 : decode cX4_hasNext 58 = .ok (.iconst 0, 1) := by decide +kernel
theorem dX4_hasNext_59 : decode cX4_hasNext 59 = .ok (.ireturn, 1) := by decide +kernel
theorem dX4_leftByNext_0 : decode cX4_leftByNext 0 = .ok (.aload_n 1, 1) := by decide +kernel
theorem dX4_leftByNext_1 : decode cX4_leftByNext 1 = .ok (.getfield 191, 3) := by decide +kernel
theorem dX4_leftByNext_4 : decode cX4_leftByNext 4 = .ok (.getfield 60, 3) := by decide +kernel
theorem dX4_leftByNext_7 : decode cX4_leftByNext 7 = .ok (.getfield 157, 3) := by decide +kernel
theorem dX4_leftByNext_10 : decode cX4_leftByNext 10 = .ok (.aload_n 1, 1) := by decide +kernel
theorem dX4_leftByNext_11 : decode cX4_leftByNext 11 = .ok (.getfield 248, 3) := by decide +kernel
theorem dX4_leftByNext_14 : decode cX4_leftByNext 14 = .ok (.daload, 1) := by decide +kernel
theorem dX4_leftByNext_15 : decode cX4_leftByNext 15 = .ok (.aload_n 1, 1) := by decide +kernel
theorem dX4_leftByNext_16 : decode cX4_leftByNext 16 = .ok (.getfield 194, 3) := by decide +kernel
theorem dX4_leftByNext_19 : decode cX4_leftByNext 19 = .ok (.dsub, 1) := by decide +kernel
theorem dX4_leftByNext_20 : decode cX4_leftByNext 20 = .ok (.dreturn, 1) := by decide +kernel
theorem dX4_groupOfNext_0 : decode cX4_groupOfNext 0 = .ok (.aload_n 1, 1) := by decide +kernel
theorem dX4_groupOfNext_1 : decode cX4_groupOfNext 1 = .ok (.getfield 191, 3) := by decide +kernel
theorem dX4_groupOfNext_4 : decode cX4_groupOfNext 4 = .ok (.aload_n 0, 1) := by decide +kernel
theorem dX4_groupOfNext_5 : decode cX4_groupOfNext 5 = .ok (.getfield 44, 3) := by decide +kernel
theorem dX4_groupOfNext_8 : decode cX4_groupOfNext 8 = .ok (.if_acmp .ne 10, 3) := by decide +kernel
theorem dX4_groupOfNext_11 : decode cX4_groupOfNext 11 = .ok (.aload_n 1, 1) := by decide +kernel
theorem dX4_groupOfNext_12 : decode cX4_groupOfNext 12 = .ok (.getfield 172, 3) := by decide +kernel
theorem dX4_groupOfNext_15 : decode cX4_groupOfNext 15 = .ok (.goto 18, 3) := by decide +kernel
theorem dX4_groupOfNext_18 : decode cX4_groupOfNext 18 = .ok (.aload_n 1, 1) := by decide +kernel
theorem dX4_groupOfNext_19 : decode cX4_groupOfNext 19 = .ok (.getfield 191, 3) := by decide +kernel
theorem dX4_groupOfNext_22 : decode cX4_groupOfNext 22 = .ok (.getfield 60, 3) := by decide +kernel
theorem dX4_groupOfNext_25 : decode cX4_groupOfNext 25 = .ok (.getfield 271, 3) := by decide +kernel
theorem dX4_groupOfNext_28 : decode cX4_groupOfNext 28 = .ok (.aload_n 1, 1) := by decide +kernel
theorem dX4_groupOfNext_29 : decode cX4_groupOfNext 29 = .ok (.getfield 248, 3) := by decide +kernel
theorem dX4_groupOfNext_32 : decode cX4_groupOfNext 32 = .ok (.iaload, 1) := by decide +kernel
theorem dX4_groupOfNext_33 : decode cX4_groupOfNext 33 = .ok (.ireturn, 1) := by decide +kernel
theorem dX4_take_0 : decode cX4_take 0 = .ok (.aload_n 0, 1) := by decide +kernel
theorem dX4_take_1 : decode cX4_take 1 = .ok (.aload_n 1, 1) := by decide +kernel
theorem dX4_take_2 : decode cX4_take 2 = .ok (.invokevirtual 267, 3) := by decide +kernel
theorem dX4_take_5 : decode cX4_take 5 = .ok (.istore_n 3, 1) := by decide +kernel
theorem dX4_take_6 : decode cX4_take 6 = .ok (.aload_n 2, 1) := by decide +kernel
theorem dX4_take_7 : decode cX4_take 7 = .ok (.getfield 157, 3) := by decide +kernel
theorem dX4_take_10 : decode cX4_take 10 = .ok (.aload_n 2, 1) := by decide +kernel
theorem dX4_take_11 : decode cX4_take 11 = .ok (.getfield 64, 3) := by decide +kernel
theorem dX4_take_14 : decode cX4_take 14 = .ok (.aload_n 0, 1) := by decide +kernel
theorem dX4_take_15 : decode cX4_take 15 = .ok (.aload_n 1, 1) := by decide +kernel
theorem dX4_take_16 : decode cX4_take 16 = .ok (.invokevirtual 263, 3) := by decide +kernel
theorem dX4_take_19 : decode cX4_take 19 = .ok (.dastore, 1) := by decide +kernel
theorem dX4_take_20 : decode cX4_take 20 = .ok (.aload_n 2, 1) := by decide +kernel
theorem dX4_take_21 : decode cX4_take 21 = .ok (.getfield 273, 3) := by decide +kernel
theorem dX4_take_24 : decode cX4_take 24 = .ok (.aload_n 2, 1) := by decide +kernel
theorem dX4_take_25 : decode cX4_take 25 = .ok (.getfield 64, 3) := by decide +kernel
theorem dX4_take_28 : decode cX4_take 28 = .ok (.aload_n 1, 1) := by decide +kernel
theorem dX4_take_29 : decode cX4_take 29 = .ok (.aastore, 1) := by decide +kernel
theorem dX4_take_30 : decode cX4_take 30 = .ok (.aload_n 2, 1) := by decide +kernel
theorem dX4_take_31 : decode cX4_take 31 = .ok (.getfield 277, 3) := by decide +kernel
theorem dX4_take_34 : decode cX4_take 34 = .ok (.aload_n 2, 1) := by decide +kernel
theorem dX4_take_35 : decode cX4_take 35 = .ok (.getfield 64, 3) := by decide +kernel
theorem dX4_take_38 : decode cX4_take 38 = .ok (.aload_n 1, 1) := by decide +kernel
theorem dX4_take_39 : decode cX4_take 39 = .ok (.getfield 248, 3) := by decide +kernel
theorem dX4_take_42 : decode cX4_take 42 = .ok (.iastore, 1) := by decide +kernel
theorem dX4_take_43 : decode cX4_take 43 = .ok (.aload_n 2, 1) := by decide +kernel
theorem dX4_take_44 : decode cX4_take 44 = .ok (.getfield 271, 3) := by decide +kernel
theorem dX4_take_47 : decode cX4_take 47 = .ok (.aload_n 2, 1) := by decide +kernel
theorem dX4_take_48 : decode cX4_take 48 = .ok (.getfield 64, 3) := by decide +kernel
theorem dX4_take_51 : decode cX4_take 51 = .ok (.iload_n 3, 1) := by decide +kernel
theorem dX4_take_52 : decode cX4_take 52 = .ok (.iastore, 1) := by decide +kernel
theorem dX4_take_53 : decode cX4_take 53 = .ok (.aload_n 2, 1) := by decide +kernel
theorem dX4_take_54 : decode cX4_take 54 = .ok (.dup, 1) := by decide +kernel
theorem dX4_take_55 : decode cX4_take 55 = .ok (.getfield 64, 3) := by decide +kernel
theorem dX4_take_58 : decode cX4_take 58 = .ok (.iconst 1, 1) := by decide +kernel
theorem dX4_take_59 : decode cX4_take 59 = .ok (.iadd, 1) := by decide +kernel
theorem dX4_take_60 : decode cX4_take 60 = .ok (.putfield 64, 3) := by decide +kernel
theorem dX4_take_63 : decode cX4_take 63 = .ok (.aload_n 0, 1) := by decide +kernel
theorem dX4_take_64 : decode cX4_take 64 = .ok (.getfield 47, 3) := by decide +kernel
theorem dX4_take_67 : decode cX4_take 67 = .ok (.iload_n 3, 1) := by decide +kernel
theorem dX4_take_68 : decode cX4_take 68 = .ok (.dup2, 1) := by decide +kernel
theorem dX4_take_69 : decode cX4_take 69 = .ok (.iaload, 1) := by decide +kernel
theorem dX4_take_70 : decode cX4_take 70 = .ok (.iconst 1, 1) := by decide +kernel
theorem dX4_take_71 : decode cX4_take 71 = .ok (.iadd, 1) := by decide +kernel
theorem dX4_take_72 : decode cX4_take 72 = .ok (.iastore, 1) := by decide +kernel
theorem dX4_take_73 : decode cX4_take 73 = .ok (.aload_n 1, 1) := by decide +kernel
theorem dX4_take_74 : decode cX4_take 74 = .ok (.dup, 1) := by decide +kernel
theorem dX4_take_75 : decode cX4_take 75 = .ok (.getfield 248, 3) := by decide +kernel
theorem dX4_take_78 : decode cX4_take 78 = .ok (.iconst 1, 1) := by decide +kernel
theorem dX4_take_79 : decode cX4_take 79 = .ok (.iadd, 1) := by decide +kernel
theorem dX4_take_80 : decode cX4_take 80 = .ok (.putfield 248, 3) := by decide +kernel
theorem dX4_take_83 : decode cX4_take 83 = .ok (.return_, 1) := by decide +kernel
theorem dX4_stepOf_0 : decode cX4_stepOf 0 = .ok (.iload_n 2, 1) := by decide +kernel
theorem dX4_stepOf_1 : decode cX4_stepOf 1 = .ok (.ifCond .ge 5, 3) := by decide +kernel
theorem dX4_stepOf_4 : decode cX4_stepOf 4 = .ok (.aconst_null, 1) := by decide +kernel
theorem dX4_stepOf_5 : decode cX4_stepOf 5 = .ok (.areturn, 1) := by decide +kernel
theorem dX4_stepOf_6 : decode cX4_stepOf 6 = .ok (.aload_n 0, 1) := by decide +kernel
theorem dX4_stepOf_7 : decode cX4_stepOf 7 = .ok (.getfield 40, 3) := by decide +kernel
theorem dX4_stepOf_10 : decode cX4_stepOf 10 = .ok (.getfield 60, 3) := by decide +kernel
theorem dX4_stepOf_13 : decode cX4_stepOf 13 = .ok (.astore_n 3, 1) := by decide +kernel
theorem dX4_stepOf_14 : decode cX4_stepOf 14 = .ok (.iload_n 1, 1) := by decide +kernel
theorem dX4_stepOf_15 : decode cX4_stepOf 15 = .ok (.istore 4, 2) := by decide +kernel
theorem dX4_stepOf_17 : decode cX4_stepOf 17 = .ok (.iconst 0, 1) := by decide +kernel
theorem dX4_stepOf_18 : decode cX4_stepOf 18 = .ok (.istore 5, 2) := by decide +kernel
theorem dX4_stepOf_20 : decode cX4_stepOf 20 = .ok (.iload 5, 2) := by decide +kernel
theorem dX4_stepOf_22 : decode cX4_stepOf 22 = .ok (.iload_n 2, 1) := by decide +kernel
theorem dX4_stepOf_23 : decode cX4_stepOf 23 = .ok (.if_icmp .ge 42, 3) := by decide +kernel
theorem dX4_stepOf_26 : decode cX4_stepOf 26 = .ok (.aload_n 3, 1) := by decide +kernel
theorem dX4_stepOf_27 : decode cX4_stepOf 27 = .ok (.iload 4, 2) := by decide +kernel
theorem dX4_stepOf_29 : decode cX4_stepOf 29 = .ok (.invokestatic 280, 3) := by decide +kernel
theorem dX4_stepOf_32 : decode cX4_stepOf 32 = .ok (.astore 6, 2) := by decide +kernel
theorem dX4_stepOf_34 : decode cX4_stepOf 34 = .ok (.aload 6, 2) := by decide +kernel
theorem dX4_stepOf_36 : decode cX4_stepOf 36 = .ok (.ifnonnull 5, 3) := by decide +kernel
theorem dX4_stepOf_39 : decode cX4_stepOf 39 = .ok (.aconst_null, 1) := by decide +kernel
theorem dX4_stepOf_40 : decode cX4_stepOf 40 = .ok (.areturn, 1) := by decide +kernel
theorem dX4_stepOf_41 : decode cX4_stepOf 41 = .ok (.aload_n 3, 1) := by decide +kernel
theorem dX4_stepOf_42 : decode cX4_stepOf 42 = .ok (.getfield 277, 3) := by decide +kernel
theorem dX4_stepOf_45 : decode cX4_stepOf 45 = .ok (.iload 4, 2) := by decide +kernel
theorem dX4_stepOf_47 : decode cX4_stepOf 47 = .ok (.iaload, 1) := by decide +kernel
theorem dX4_stepOf_48 : decode cX4_stepOf 48 = .ok (.istore 4, 2) := by decide +kernel
theorem dX4_stepOf_50 : decode cX4_stepOf 50 = .ok (.aload 6, 2) := by decide +kernel
theorem dX4_stepOf_52 : decode cX4_stepOf 52 = .ok (.getfield 191, 3) := by decide +kernel
theorem dX4_stepOf_55 : decode cX4_stepOf 55 = .ok (.getfield 60, 3) := by decide +kernel
theorem dX4_stepOf_58 : decode cX4_stepOf 58 = .ok (.astore_n 3, 1) := by decide +kernel
theorem dX4_stepOf_59 : decode cX4_stepOf 59 = .ok (.iinc 5 1, 3) := by decide +kernel
theorem dX4_stepOf_62 : decode cX4_stepOf 62 = .ok (.goto (-42), 3) := by decide +kernel
theorem dX4_stepOf_65 : decode cX4_stepOf 65 = .ok (.aload_n 3, 1) := by decide +kernel
theorem dX4_stepOf_66 : decode cX4_stepOf 66 = .ok (.iload 4, 2) := by decide +kernel
theorem dX4_stepOf_68 : decode cX4_stepOf 68 = .ok (.invokestatic 280, 3) := by decide +kernel
theorem dX4_stepOf_71 : decode cX4_stepOf 71 = .ok (.areturn, 1) := by decide +kernel
theorem dX4_firstStep_0 : decode cX4_firstStep 0 = .ok (.iload_n 1, 1) := by decide +kernel
theorem dX4_firstStep_1 : decode cX4_firstStep 1 = .ok (.ifCond .lt 20, 3) := by decide +kernel
theorem dX4_firstStep_4 : decode cX4_firstStep 4 = .ok (.iload_n 1, 1) := by decide +kernel
theorem dX4_firstStep_5 : decode cX4_firstStep 5 = .ok (.aload_n 0, 1) := by decide +kernel
theorem dX4_firstStep_6 : decode cX4_firstStep 6 = .ok (.getfield 64, 3) := by decide +kernel
theorem dX4_firstStep_9 : decode cX4_firstStep 9 = .ok (.if_icmp .ge 12, 3) := by decide +kernel
theorem dX4_firstStep_12 : decode cX4_firstStep 12 = .ok (.aload_n 0, 1) := by decide +kernel
theorem dX4_firstStep_13 : decode cX4_firstStep 13 = .ok (.getfield 273, 3) := by decide +kernel
theorem dX4_firstStep_16 : decode cX4_firstStep 16 = .ok (.iload_n 1, 1) := by decide +kernel
theorem dX4_firstStep_17 : decode cX4_firstStep 17 = .ok (.aaload, 1) := by decide +kernel
theorem dX4_firstStep_18 : decode cX4_firstStep 18 = .ok (.goto 4, 3) := by decide +kernel
theorem dX4_firstStep_21 : decode cX4_firstStep 21 = .ok (.aconst_null, 1) := by decide +kernel
theorem dX4_firstStep_22 : decode cX4_firstStep 22 = .ok (.areturn, 1) := by decide +kernel
theorem dX4_isInput_0 : decode cX4_isInput 0 = .ok (.aload_n 0, 1) := by decide +kernel
theorem dX4_isInput_1 : decode cX4_isInput 1 = .ok (.getfield 183, 3) := by decide +kernel
theorem dX4_isInput_4 : decode cX4_isInput 4 = .ok (.iload_n 1, 1) := by decide +kernel
theorem dX4_isInput_5 : decode cX4_isInput 5 = .ok (.if_icmp .eq 5, 3) := by decide +kernel
theorem dX4_isInput_8 : decode cX4_isInput 8 = .ok (.iconst 0, 1) := by decide +kernel
theorem dX4_isInput_9 : decode cX4_isInput 9 = .ok (.ireturn, 1) := by decide +kernel
theorem dX4_isInput_10 : decode cX4_isInput 10 = .ok (.iconst 0, 1) := by decide +kernel
theorem dX4_isInput_11 : decode cX4_isInput 11 = .ok (.istore_n 2, 1) := by decide +kernel
theorem dX4_isInput_12 : decode cX4_isInput 12 = .ok (.iload_n 2, 1) := by decide +kernel
theorem dX4_isInput_13 : decode cX4_isInput 13 = .ok (.aload_n 0, 1) := by decide +kernel
theorem dX4_isInput_14 : decode cX4_isInput 14 = .ok (.getfield 123, 3) := by decide +kernel
theorem dX4_isInput_17 : decode cX4_isInput 17 = .ok (.invokevirtual 70, 3) := by decide +kernel
theorem dX4_isInput_20 : decode cX4_isInput 20 = .ok (.if_icmp .ge 32, 3) := by decide +kernel
theorem dX4_isInput_23 : decode cX4_isInput 23 = .ok (.aload_n 0, 1) := by decide +kernel
theorem dX4_isInput_24 : decode cX4_isInput 24 = .ok (.getfield 123, 3) := by decide +kernel
theorem dX4_isInput_27 : decode cX4_isInput 27 = .ok (.iload_n 2, 1) := by decide +kernel
theorem dX4_isInput_28 : decode cX4_isInput 28 = .ok (.invokevirtual 98, 3) := by decide +kernel
theorem dX4_isInput_31 : decode cX4_isInput 31 = .ok (.checkcast 115, 3) := by decide +kernel
theorem dX4_isInput_34 : decode cX4_isInput 34 = .ok (.getfield 241, 3) := by decide +kernel
theorem dX4_isInput_37 : decode cX4_isInput 37 = .ok (.getfield 183, 3) := by decide +kernel
theorem dX4_isInput_40 : decode cX4_isInput 40 = .ok (.iload_n 1, 1) := by decide +kernel
theorem dX4_isInput_41 : decode cX4_isInput 41 = .ok (.if_icmp .eq 5, 3) := by decide +kernel
theorem dX4_isInput_44 : decode cX4_isInput 44 = .ok (.iconst 1, 1) := by decide +kernel
theorem dX4_isInput_45 : decode cX4_isInput 45 = .ok (.ireturn, 1) := by decide +kernel
theorem dX4_isInput_46 : decode cX4_isInput 46 = .ok (.iinc 2 1, 3) := by decide +kernel
theorem dX4_isInput_49 : decode cX4_isInput 49 = .ok (.goto (-37), 3) := by decide +kernel
theorem dX4_isInput_52 : decode cX4_isInput 52 = .ok (.iconst 0, 1) := by decide +kernel
theorem dX4_isInput_53 : decode cX4_isInput 53 = .ok (.ireturn, 1) := by decide +kernel
theorem dX4_isOutput_0 : decode cX4_isOutput 0 = .ok (.aload_n 0, 1) := by decide +kernel
theorem dX4_isOutput_1 : decode cX4_isOutput 1 = .ok (.getfield 183, 3) := by decide +kernel
theorem dX4_isOutput_4 : decode cX4_isOutput 4 = .ok (.iload_n 1, 1) := by decide +kernel
theorem dX4_isOutput_5 : decode cX4_isOutput 5 = .ok (.if_icmp .eq 5, 3) := by decide +kernel
theorem dX4_isOutput_8 : decode cX4_isOutput 8 = .ok (.iconst 0, 1) := by decide +kernel
theorem dX4_isOutput_9 : decode cX4_isOutput 9 = .ok (.ireturn, 1) := by decide +kernel
theorem dX4_isOutput_10 : decode cX4_isOutput 10 = .ok (.iconst 0, 1) := by decide +kernel
theorem dX4_isOutput_11 : decode cX4_isOutput 11 = .ok (.istore_n 2, 1) := by decide +kernel
theorem dX4_isOutput_12 : decode cX4_isOutput 12 = .ok (.iload_n 2, 1) := by decide +kernel
theorem dX4_isOutput_13 : decode cX4_isOutput 13 = .ok (.aload_n 0, 1) := by decide +kernel
theorem dX4_isOutput_14 : decode cX4_isOutput 14 = .ok (.getfield 120, 3) := by decide +kernel
theorem dX4_isOutput_17 : decode cX4_isOutput 17 = .ok (.invokevirtual 70, 3) := by decide +kernel
theorem dX4_isOutput_20 : decode cX4_isOutput 20 = .ok (.if_icmp .ge 32, 3) := by decide +kernel
theorem dX4_isOutput_23 : decode cX4_isOutput 23 = .ok (.aload_n 0, 1) := by decide +kernel
theorem dX4_isOutput_24 : decode cX4_isOutput 24 = .ok (.getfield 120, 3) := by decide +kernel
theorem dX4_isOutput_27 : decode cX4_isOutput 27 = .ok (.iload_n 2, 1) := by decide +kernel
theorem dX4_isOutput_28 : decode cX4_isOutput 28 = .ok (.invokevirtual 98, 3) := by decide +kernel
theorem dX4_isOutput_31 : decode cX4_isOutput 31 = .ok (.checkcast 115, 3) := by decide +kernel
theorem dX4_isOutput_34 : decode cX4_isOutput 34 = .ok (.getfield 191, 3) := by decide +kernel
theorem dX4_isOutput_37 : decode cX4_isOutput 37 = .ok (.getfield 183, 3) := by decide +kernel
theorem dX4_isOutput_40 : decode cX4_isOutput 40 = .ok (.iload_n 1, 1) := by decide +kernel
theorem dX4_isOutput_41 : decode cX4_isOutput 41 = .ok (.if_icmp .eq 5, 3) := by decide +kernel
theorem dX4_isOutput_44 : decode cX4_isOutput 44 = .ok (.iconst 1, 1) := by decide +kernel
theorem dX4_isOutput_45 : decode cX4_isOutput 45 = .ok (.ireturn, 1) := by decide +kernel
theorem dX4_isOutput_46 : decode cX4_isOutput 46 = .ok (.iinc 2 1, 3) := by decide +kernel
theorem dX4_isOutput_49 : decode cX4_isOutput 49 = .ok (.goto (-37), 3) := by decide +kernel
theorem dX4_isOutput_52 : decode cX4_isOutput 52 = .ok (.iconst 0, 1) := by decide +kernel
theorem dX4_isOutput_53 : decode cX4_isOutput 53 = .ok (.ireturn, 1) := by decide +kernel
theorem dX4_countReachedOutputs_0 : decode cX4_countReachedOutputs 0 = .ok (.iconst 0, 1) := by decide +kernel
theorem dX4_countReachedOutputs_1 : decode cX4_countReachedOutputs 1 = .ok (.istore_n 2, 1) := by decide +kernel
theorem dX4_countReachedOutputs_2 : decode cX4_countReachedOutputs 2 = .ok (.iconst 0, 1) := by decide +kernel
theorem dX4_countReachedOutputs_3 : decode cX4_countReachedOutputs 3 = .ok (.istore_n 3, 1) := by decide +kernel
theorem dX4_countReachedOutputs_4 : decode cX4_countReachedOutputs 4 = .ok (.iload_n 3, 1) := by decide +kernel
theorem dX4_countReachedOutputs_5 : decode cX4_countReachedOutputs 5 = .ok (.aload_n 0, 1) := by decide +kernel
theorem dX4_countReachedOutputs_6 : decode cX4_countReachedOutputs 6 = .ok (.getfield 12, 3) := by decide +kernel
theorem dX4_countReachedOutputs_9 : decode cX4_countReachedOutputs 9 = .ok (.invokevirtual 70, 3) := by decide +kernel
theorem dX4_countReachedOutputs_12 : decode cX4_countReachedOutputs 12 = .ok (.if_icmp .ge 44, 3) := by decide +kernel
theorem dX4_countReachedOutputs_15 : decode cX4_countReachedOutputs 15 = .ok (.aload_n 0, 1) := by decide +kernel
theorem dX4_countReachedOutputs_16 : decode cX4_countReachedOutputs 16 = .ok (.getfield 12, 3) := by decide +kernel
theorem dX4_countReachedOutputs_19 : decode cX4_countReachedOutputs 19 = .ok (.iload_n 3, 1) := by decide +kernel
theorem dX4_countReachedOutputs_20 : decode cX4_countReachedOutputs 20 = .ok (.invokevirtual 98, 3) := by decide +kernel
theorem dX4_countReachedOutputs_23 : decode cX4_countReachedOutputs 23 = .ok (.checkcast 35, 3) := by decide +kernel
theorem dX4_countReachedOutputs_26 : decode cX4_countReachedOutputs 26 = .ok (.astore 4, 2) := by decide +kernel
theorem dX4_countReachedOutputs_28 : decode cX4_countReachedOutputs 28 = .ok (.aload 4, 2) := by decide +kernel
theorem dX4_countReachedOutputs_30 : decode cX4_countReachedOutputs 30 = .ok (.getfield 106, 3) := by decide +kernel
theorem dX4_countReachedOutputs_33 : decode cX4_countReachedOutputs 33 = .ok (.dconst 0, 1) := by decide +kernel
theorem dX4_countReachedOutputs_34 : decode cX4_countReachedOutputs 34 = .ok (.dcmp .l, 1) := by decide +kernel
theorem dX4_countReachedOutputs_35 : decode cX4_countReachedOutputs 35 = .ok (.ifCond .lt 15, 3) := by decide +kernel
theorem dX4_countReachedOutputs_38 : decode cX4_countReachedOutputs 38 = .ok (.aload 4, 2) := by decide +kernel
theorem dX4_countReachedOutputs_40 : decode cX4_countReachedOutputs 40 = .ok (.iload_n 1, 1) := by decide +kernel
theorem dX4_countReachedOutputs_41 : decode cX4_countReachedOutputs 41 = .ok (.invokestatic 186, 3) := by decide +kernel
theorem dX4_countReachedOutputs_44 : decode cX4_countReachedOutputs 44 = .ok (.ifCond .eq 6, 3) := by decide +kernel
theorem dX4_countReachedOutputs_47 : decode cX4_countReachedOutputs 47 = .ok (.iinc 2 1, 3) := by decide +kernel
theorem dX4_countReachedOutputs_50 : decode cX4_countReachedOutputs 50 = .ok (.iinc 3 1, 3) := by decide +kernel
theorem dX4_countReachedOutputs_53 : decode cX4_countReachedOutputs 53 = .ok (.goto (-49), 3) := by decide +kernel
theorem dX4_countReachedOutputs_56 : decode cX4_countReachedOutputs 56 = .ok (.iload_n 2, 1) := by decide +kernel
theorem dX4_countReachedOutputs_57 : decode cX4_countReachedOutputs 57 = .ok (.ireturn, 1) := by decide +kernel
theorem dX5_init_0 : decode cX5_init 0 = .ok (.aload_n 0, 1) := by decide +kernel
theorem dX5_init_1 : decode cX5_init 1 = .ok (.invokespecial 1, 3) := by decide +kernel
theorem dX5_init_4 : decode cX5_init 4 = .ok (.aload_n 0, 1) := by decide +kernel
theorem dX5_init_5 : decode cX5_init 5 = .ok (.bipush 60, 2) := by decide +kernel
theorem dX5_init_7 : decode cX5_init 7 = .ok (.newarray .int, 2) := by decide +kernel
theorem dX5_init_9 : decode cX5_init 9 = .ok (.putfield 7, 3) := by decide +kernel
theorem dX5_init_12 : decode cX5_init 12 = .ok (.aload_n 0, 1) := by decide +kernel
theorem dX5_init_13 : decode cX5_init 13 = .ok (.sipush 150, 3) := by decide +kernel
theorem dX5_init_16 : decode cX5_init 16 = .ok (.newarray .int, 2) := by decide +kernel
theorem dX5_init_18 : decode cX5_init 18 = .ok (.putfield 13, 3) := by decide +kernel
theorem dX5_init_21 : decode cX5_init 21 = .ok (.aload_n 0, 1) := by decide +kernel
theorem dX5_init_22 : decode cX5_init 22 = .ok (.sipush 150, 3) := by decide +kernel
theorem dX5_init_25 : decode cX5_init 25 = .ok (.newarray .int, 2) := by decide +kernel
theorem dX5_init_27 : decode cX5_init 27 = .ok (.putfield 16, 3) := by decide +kernel
theorem dX5_init_30 : decode cX5_init 30 = .ok (.aload_n 0, 1) := by decide +kernel
theorem dX5_init_31 : decode cX5_init 31 = .ok (.sipush 150, 3) := by decide +kernel
theorem dX5_init_34 : decode cX5_init 34 = .ok (.newarray .double, 2) := by decide +kernel
theorem dX5_init_36 : decode cX5_init 36 = .ok (.putfield 19, 3) := by decide +kernel
theorem dX5_init_39 : decode cX5_init 39 = .ok (.aload_n 0, 1) := by decide +kernel
theorem dX5_init_40 : decode cX5_init 40 = .ok (.bipush 30, 2) := by decide +kernel
theorem dX5_init_42 : decode cX5_init 42 = .ok (.newarray .int, 2) := by decide +kernel
theorem dX5_init_44 : decode cX5_init 44 = .ok (.putfield 23, 3) := by decide +kernel
theorem dX5_init_47 : decode cX5_init 47 = .ok (.aload_n 0, 1) := by decide +kernel
theorem dX5_init_48 : decode cX5_init 48 = .ok (.bipush 30, 2) := by decide +kernel
theorem dX5_init_50 : decode cX5_init 50 = .ok (.newarray .double, 2) := by decide +kernel
theorem dX5_init_52 : decode cX5_init 52 = .ok (.putfield 26, 3) := by decide +kernel
theorem dX5_init_55 : decode cX5_init 55 = .ok (.aload_n 0, 1) := by decide +kernel
theorem dX5_init_56 : decode cX5_init 56 = .ok (.bipush 30, 2) := by decide +kernel
theorem dX5_init_58 : decode cX5_init 58 = .ok (.newarray .int, 2) := by decide +kernel
theorem dX5_init_60 : decode cX5_init 60 = .ok (.putfield 29, 3) := by decide +kernel
theorem dX5_init_63 : decode cX5_init 63 = .ok (.aload_n 0, 1) := by decide +kernel
theorem dX5_init_64 : decode cX5_init 64 = .ok (.bipush 30, 2) := by decide +kernel
theorem dX5_init_66 : decode cX5_init 66 = .ok (.newarray .double, 2) := by decide +kernel
theorem dX5_init_68 : decode cX5_init 68 = .ok (.putfield 32, 3) := by decide +kernel
theorem dX5_init_71 : decode cX5_init 71 = .ok (.aload_n 0, 1) := by decide +kernel
theorem dX5_init_72 : decode cX5_init 72 = .ok (.bipush 30, 2) := by decide +kernel
theorem dX5_init_74 : decode cX5_init 74 = .ok (.newarray .int, 2) := by decide +kernel
theorem dX5_init_76 : decode cX5_init 76 = .ok (.putfield 35, 3) := by decide +kernel
theorem dX5_init_79 : decode cX5_init 79 = .ok (.aload_n 0, 1) := by decide +kernel
theorem dX5_init_80 : decode cX5_init 80 = .ok (.bipush 10, 2) := by decide +kernel
theorem dX5_init_82 : decode cX5_init 82 = .ok (.newarray .int, 2) := by decide +kernel
theorem dX5_init_84 : decode cX5_init 84 = .ok (.putfield 38, 3) := by decide +kernel
theorem dX5_init_87 : decode cX5_init 87 = .ok (.aload_n 0, 1) := by decide +kernel
theorem dX5_init_88 : decode cX5_init 88 = .ok (.bipush 50, 2) := by decide +kernel
theorem dX5_init_90 : decode cX5_init 90 = .ok (.newarray .int, 2) := by decide +kernel
theorem dX5_init_92 : decode cX5_init 92 = .ok (.putfield 41, 3) := by decide +kernel
theorem dX5_init_95 : decode cX5_init 95 = .ok (.aload_n 0, 1) := by decide +kernel
theorem dX5_init_96 : decode cX5_init 96 = .ok (.bipush 50, 2) := by decide +kernel
theorem dX5_init_98 : decode cX5_init 98 = .ok (.newarray .double, 2) := by decide +kernel
theorem dX5_init_100 : decode cX5_init 100 = .ok (.putfield 44, 3) := by decide +kernel
theorem dX5_init_103 : decode cX5_init 103 = .ok (.aload_n 0, 1) := by decide +kernel
theorem dX5_init_104 : decode cX5_init 104 = .ok (.sipush 26401, 3) := by decide +kernel
theorem dX5_init_107 : decode cX5_init 107 = .ok (.newarray .int, 2) := by decide +kernel
theorem dX5_init_109 : decode cX5_init 109 = .ok (.putfield 47, 3) := by decide +kernel
theorem dX5_init_112 : decode cX5_init 112 = .ok (.aload_n 0, 1) := by decide +kernel
theorem dX5_init_113 : decode cX5_init 113 = .ok (.sipush 26401, 3) := by decide +kernel
theorem dX5_init_116 : decode cX5_init 116 = .ok (.newarray .int, 2) := by decide +kernel
theorem dX5_init_118 : decode cX5_init 118 = .ok (.putfield 50, 3) := by decide +kernel
theorem dX5_init_121 : decode cX5_init 121 = .ok (.aload_n 0, 1) := by decide +kernel
theorem dX5_init_122 : decode cX5_init 122 = .ok (.sipush 26401, 3) := by decide +kernel
theorem dX5_init_125 : decode cX5_init 125 = .ok (.newarray .double, 2) := by decide +kernel
theorem dX5_init_127 : decode cX5_init 127 = .ok (.putfield 53, 3) := by decide +kernel
theorem dX5_init_130 : decode cX5_init 130 = .ok (.aload_n 0, 1) := by decide +kernel
theorem dX5_init_131 : decode cX5_init 131 = .ok (.sipush 660, 3) := by decide +kernel
theorem dX5_init_134 : decode cX5_init 134 = .ok (.newarray .int, 2) := by decide +kernel
theorem dX5_init_136 : decode cX5_init 136 = .ok (.putfield 56, 3) := by decide +kernel
theorem dX5_init_139 : decode cX5_init 139 = .ok (.aload_n 0, 1) := by decide +kernel
theorem dX5_init_140 : decode cX5_init 140 = .ok (.sipush 321, 3) := by decide +kernel
theorem dX5_init_143 : decode cX5_init 143 = .ok (.newarray .int, 2) := by decide +kernel
theorem dX5_init_145 : decode cX5_init 145 = .ok (.putfield 59, 3) := by decide +kernel
theorem dX5_init_148 : decode cX5_init 148 = .ok (.aload_n 0, 1) := by decide +kernel
theorem dX5_init_149 : decode cX5_init 149 = .ok (.sipush 321, 3) := by decide +kernel
theorem dX5_init_152 : decode cX5_init 152 = .ok (.newarray .int, 2) := by decide +kernel
theorem dX5_init_154 : decode cX5_init 154 = .ok (.putfield 62, 3) := by decide +kernel
theorem dX5_init_157 : decode cX5_init 157 = .ok (.aload_n 0, 1) := by decide +kernel
theorem dX5_init_158 : decode cX5_init 158 = .ok (.bipush 60, 2) := by decide +kernel
theorem dX5_init_160 : decode cX5_init 160 = .ok (.newarray .boolean, 2) := by decide +kernel
theorem dX5_init_162 : decode cX5_init 162 = .ok (.putfield 65, 3) := by decide +kernel
theorem dX5_init_165 : decode cX5_init 165 = .ok (.aload_n 0, 1) := by decide +kernel
theorem dX5_init_166 : decode cX5_init 166 = .ok (.bipush 64, 2) := by decide +kernel
theorem dX5_init_168 : decode cX5_init 168 = .ok (.newarray .int, 2) := by decide +kernel
theorem dX5_init_170 : decode cX5_init 170 = .ok (.putfield 69, 3) := by decide +kernel
theorem dX5_init_173 : decode cX5_init 173 = .ok (.aload_n 0, 1) := by decide +kernel
theorem dX5_init_174 : decode cX5_init 174 = .ok (.bipush 64, 2) := by decide +kernel
theorem dX5_init_176 : decode cX5_init 176 = .ok (.newarray .int, 2) := by decide +kernel
theorem dX5_init_178 : decode cX5_init 178 = .ok (.putfield 72, 3) := by decide +kernel
theorem dX5_init_181 : decode cX5_init 181 = .ok (.aload_n 0, 1) := by decide +kernel
theorem dX5_init_182 : decode cX5_init 182 = .ok (.bipush 60, 2) := by decide +kernel
theorem dX5_init_184 : decode cX5_init 184 = .ok (.newarray .int, 2) := by decide +kernel
theorem dX5_init_186 : decode cX5_init 186 = .ok (.putfield 75, 3) := by decide +kernel
theorem dX5_init_189 : decode cX5_init 189 = .ok (.aload_n 0, 1) := by decide +kernel
theorem dX5_init_190 : decode cX5_init 190 = .ok (.bipush 60, 2) := by decide +kernel
theorem dX5_init_192 : decode cX5_init 192 = .ok (.newarray .double, 2) := by decide +kernel
theorem dX5_init_194 : decode cX5_init 194 = .ok (.putfield 78, 3) := by decide +kernel
theorem dX5_init_197 : decode cX5_init 197 = .ok (.iconst 0, 1) := by decide +kernel
theorem dX5_init_198 : decode cX5_init 198 = .ok (.istore_n 1, 1) := by decide +kernel
theorem dX5_init_199 : decode cX5_init 199 = .ok (.iload_n 1, 1) := by decide +kernel
theorem dX5_init_200 : decode cX5_init 200 = .ok (.bipush 10, 2) := by decide +kernel
theorem dX5_init_202 : decode cX5_init 202 = .ok (.if_icmp .ge 16, 3) := by decide +kernel
theorem dX5_init_205 : decode cX5_init 205 = .ok (.aload_n 0, 1) := by decide +kernel
theorem dX5_init_206 : decode cX5_init 206 = .ok (.getfield 38, 3) := by decide +kernel
theorem dX5_init_209 : decode cX5_init 209 = .ok (.iload_n 1, 1) := by decide +kernel
theorem dX5_init_210 : decode cX5_init 210 = .ok (.iconst (-1), 1) := by decide +kernel
theorem dX5_init_211 : decode cX5_init 211 = .ok (.iastore, 1) := by decide +kernel
theorem dX5_init_212 : decode cX5_init 212 = .ok (.iinc 1 1, 3) := by decide +kernel
theorem dX5_init_215 : decode cX5_init 215 = .ok (.goto (-16), 3) := by decide +kernel
theorem dX5_init_218 : decode cX5_init 218 = .ok (.return_, 1) := by decide +kernel
theorem dX5_thrown_0 : decode cX5_thrown 0 = .ok (.aload_n 0, 1) := by decide +kernel
theorem dX5_thrown_1 : decode cX5_thrown 1 = .ok (.getfield 81, 3) := by decide +kernel
theorem dX5_thrown_4 : decode cX5_thrown 4 = .ok (.ireturn, 1) := by decide +kernel
theorem dX5_isPin_0 : decode cX5_isPin 0 = .ok (.iload_n 1, 1) := by decide +kernel
theorem dX5_isPin_1 : decode cX5_isPin 1 = .ok (.ifCond .lt 15, 3) := by decide +kernel
theorem dX5_isPin_4 : decode cX5_isPin 4 = .ok (.iload_n 1, 1) := by decide +kernel
theorem dX5_isPin_5 : decode cX5_isPin 5 = .ok (.aload_n 0, 1) := by decide +kernel
theorem dX5_isPin_6 : decode cX5_isPin 6 = .ok (.getfield 85, 3) := by decide +kernel
theorem dX5_isPin_9 : decode cX5_isPin 9 = .ok (.if_icmp .ge 7, 3) := by decide +kernel
theorem dX5_isPin_12 : decode cX5_isPin 12 = .ok (.iconst 1, 1) := by decide +kernel
theorem dX5_isPin_13 : decode cX5_isPin 13 = .ok (.goto 4, 3) := by decide +kernel
theorem dX5_isPin_16 : decode cX5_isPin 16 = .ok (.iconst 0, 1) := by decide +kernel
theorem dX5_isPin_17 : decode cX5_isPin 17 = .ok (.ireturn, 1) := by decide +kernel
theorem dX5_isTime_0 : decode cX5_isTime 0 = .ok (.dload_n 0, 1) := by decide +kernel
theorem dX5_isTime_1 : decode cX5_isTime 1 = .ok (.ldc2_w 88, 3) := by decide +kernel
theorem dX5_isTime_4 : decode cX5_isTime 4 = .ok (.dmul, 1) := by decide +kernel
