theorem dX7_init_0 : decode cX7_init 0 = .ok (.aload_n 0, 1) := by decide +kernel
theorem dX7_init_1 : decode cX7_init 1 = .ok (.invokespecial 1, 3) := by decide +kernel
theorem dX7_init_4 : decode cX7_init 4 = .ok (.aload_n 0, 1) := by decide +kernel
theorem dX7_init_5 : decode cX7_init 5 = .ok (.new 7, 3) := by decide +kernel
theorem dX7_init_8 : decode cX7_init 8 = .ok (.dup, 1) := by decide +kernel
theorem dX7_init_9 : decode cX7_init 9 = .ok (.invokespecial 9, 3) := by decide +kernel
theorem dX7_init_12 : decode cX7_init 12 = .ok (.putfield 10, 3) := by decide +kernel
theorem dX7_init_15 : decode cX7_init 15 = .ok (.aload_n 0, 1) := by decide +kernel
theorem dX7_init_16 : decode cX7_init 16 = .ok (.aload_n 0, 1) := by decide +kernel
theorem dX7_init_17 : decode cX7_init 17 = .ok (.getfield 10, 3) := by decide +kernel
theorem dX7_init_20 : decode cX7_init 20 = .ok (.getfield 16, 3) := by decide +kernel
theorem dX7_init_23 : decode cX7_init 23 = .ok (.putfield 20, 3) := by decide +kernel
theorem dX7_init_26 : decode cX7_init 26 = .ok (.aload_n 0, 1) := by decide +kernel
theorem dX7_init_27 : decode cX7_init 27 = .ok (.aload_n 0, 1) := by decide +kernel
theorem dX7_init_28 : decode cX7_init 28 = .ok (.getfield 10, 3) := by decide +kernel
theorem dX7_init_31 : decode cX7_init 31 = .ok (.getfield 21, 3) := by decide +kernel
theorem dX7_init_34 : decode cX7_init 34 = .ok (.putfield 25, 3) := by decide +kernel
theorem dX7_init_37 : decode cX7_init 37 = .ok (.aload_n 0, 1) := by decide +kernel
theorem dX7_init_38 : decode cX7_init 38 = .ok (.new 26, 3) := by decide +kernel
theorem dX7_init_41 : decode cX7_init 41 = .ok (.dup, 1) := by decide +kernel
theorem dX7_init_42 : decode cX7_init 42 = .ok (.aload_n 0, 1) := by decide +kernel
theorem dX7_init_43 : decode cX7_init 43 = .ok (.getfield 10, 3) := by decide +kernel
theorem dX7_init_46 : decode cX7_init 46 = .ok (.invokespecial 28, 3) := by decide +kernel
theorem dX7_init_49 : decode cX7_init 49 = .ok (.putfield 31, 3) := by decide +kernel
theorem dX7_init_52 : decode cX7_init 52 = .ok (.aload_n 0, 1) := by decide +kernel
theorem dX7_init_53 : decode cX7_init 53 = .ok (.iconst 3, 1) := by decide +kernel
theorem dX7_init_54 : decode cX7_init 54 = .ok (.anewarray 7, 3) := by decide +kernel
theorem dX7_init_57 : decode cX7_init 57 = .ok (.putfield 35, 3) := by decide +kernel
theorem dX7_init_60 : decode cX7_init 60 = .ok (.aload_n 0, 1) := by decide +kernel
theorem dX7_init_61 : decode cX7_init 61 = .ok (.iconst 0, 1) := by decide +kernel
theorem dX7_init_62 : decode cX7_init 62 = .ok (.putfield 39, 3) := by decide +kernel
theorem dX7_init_65 : decode cX7_init 65 = .ok (.aload_n 0, 1) := by decide +kernel
theorem dX7_init_66 : decode cX7_init 66 = .ok (.sipush 2000, 3) := by decide +kernel
theorem dX7_init_69 : decode cX7_init 69 = .ok (.newarray .byte, 2) := by decide +kernel
theorem dX7_init_71 : decode cX7_init 71 = .ok (.putfield 43, 3) := by decide +kernel
theorem dX7_init_74 : decode cX7_init 74 = .ok (.aload_n 0, 1) := by decide +kernel
theorem dX7_init_75 : decode cX7_init 75 = .ok (.iconst 0, 1) := by decide +kernel
theorem dX7_init_76 : decode cX7_init 76 = .ok (.putfield 47, 3) := by decide +kernel
theorem dX7_init_79 : decode cX7_init 79 = .ok (.aload_n 0, 1) := by decide +kernel
theorem dX7_init_80 : decode cX7_init 80 = .ok (.iconst (-1), 1) := by decide +kernel
theorem dX7_init_81 : decode cX7_init 81 = .ok (.putfield 50, 3) := by decide +kernel
theorem dX7_init_84 : decode cX7_init 84 = .ok (.aload_n 0, 1) := by decide +kernel
theorem dX7_init_85 : decode cX7_init 85 = .ok (.iconst 0, 1) := by decide +kernel
theorem dX7_init_86 : decode cX7_init 86 = .ok (.putfield 53, 3) := by decide +kernel
theorem dX7_init_89 : decode cX7_init 89 = .ok (.aload_n 0, 1) := by decide +kernel
theorem dX7_init_90 : decode cX7_init 90 = .ok (.new 56, 3) := by decide +kernel
theorem dX7_init_93 : decode cX7_init 93 = .ok (.dup, 1) := by decide +kernel
theorem dX7_init_94 : decode cX7_init 94 = .ok (.invokespecial 58, 3) := by decide +kernel
theorem dX7_init_97 : decode cX7_init 97 = .ok (.putfield 59, 3) := by decide +kernel
theorem dX7_init_100 : decode cX7_init 100 = .ok (.aload_n 0, 1) := by decide +kernel
theorem dX7_init_101 : decode cX7_init 101 = .ok (.new 63, 3) := by decide +kernel
theorem dX7_init_104 : decode cX7_init 104 = .ok (.dup, 1) := by decide +kernel
theorem dX7_init_105 : decode cX7_init 105 = .ok (.aload_n 0, 1) := by decide +kernel
theorem dX7_init_106 : decode cX7_init 106 = .ok (.getfield 59, 3) := by decide +kernel
theorem dX7_init_109 : decode cX7_init 109 = .ok (.invokespecial 65, 3) := by decide +kernel
theorem dX7_init_112 : decode cX7_init 112 = .ok (.putfield 68, 3) := by decide +kernel
theorem dX7_init_115 : decode cX7_init 115 = .ok (.aload_n 0, 1) := by decide +kernel
theorem dX7_init_116 : decode cX7_init 116 = .ok (.new 72, 3) := by decide +kernel
theorem dX7_init_119 : decode cX7_init 119 = .ok (.dup, 1) := by decide +kernel
theorem dX7_init_120 : decode cX7_init 120 = .ok (.aload_n 0, 1) := by decide +kernel
theorem dX7_init_121 : decode cX7_init 121 = .ok (.getfield 59, 3) := by decide +kernel
theorem dX7_init_124 : decode cX7_init 124 = .ok (.invokespecial 74, 3) := by decide +kernel
theorem dX7_init_127 : decode cX7_init 127 = .ok (.putfield 75, 3) := by decide +kernel
theorem dX7_init_130 : decode cX7_init 130 = .ok (.aload_n 0, 1) := by decide +kernel
theorem dX7_init_131 : decode cX7_init 131 = .ok (.sipush 241, 3) := by decide +kernel
theorem dX7_init_134 : decode cX7_init 134 = .ok (.newarray .byte, 2) := by decide +kernel
theorem dX7_init_136 : decode cX7_init 136 = .ok (.putfield 79, 3) := by decide +kernel
theorem dX7_init_139 : decode cX7_init 139 = .ok (.aload_n 0, 1) := by decide +kernel
theorem dX7_init_140 : decode cX7_init 140 = .ok (.new 82, 3) := by decide +kernel
theorem dX7_init_143 : decode cX7_init 143 = .ok (.dup, 1) := by decide +kernel
theorem dX7_init_144 : decode cX7_init 144 = .ok (.invokespecial 84, 3) := by decide +kernel
theorem dX7_init_147 : decode cX7_init 147 = .ok (.putfield 85, 3) := by decide +kernel
theorem dX7_init_150 : decode cX7_init 150 = .ok (.return_, 1) := by decide +kernel
theorem dX7_feed_0 : decode cX7_feed 0 = .ok (.aload_n 0, 1) := by decide +kernel
theorem dX7_feed_1 : decode cX7_feed 1 = .ok (.getfield 47, 3) := by decide +kernel
theorem dX7_feed_4 : decode cX7_feed 4 = .ok (.bipush 20, 2) := by decide +kernel
theorem dX7_feed_6 : decode cX7_feed 6 = .ok (.iadd, 1) := by decide +kernel
theorem dX7_feed_7 : decode cX7_feed 7 = .ok (.sipush 2000, 3) := by decide +kernel
theorem dX7_feed_10 : decode cX7_feed 10 = .ok (.if_icmp .le 5, 3) := by decide +kernel
theorem dX7_feed_13 : decode cX7_feed 13 = .ok (.iconst (-1), 1) := by decide +kernel
theorem dX7_feed_14 : decode cX7_feed 14 = .ok (.ireturn, 1) := by decide +kernel
theorem dX7_feed_15 : decode cX7_feed 15 = .ok (.aload_n 0, 1) := by decide +kernel
theorem dX7_feed_16 : decode cX7_feed 16 = .ok (.iload_n 1, 1) := by decide +kernel
theorem dX7_feed_17 : decode cX7_feed 17 = .ok (.invokevirtual 89, 3) := by decide +kernel
theorem dX7_feed_20 : decode cX7_feed 20 = .ok (.aload_n 0, 1) := by decide +kernel
theorem dX7_feed_21 : decode cX7_feed 21 = .ok (.iload_n 2, 1) := by decide +kernel
theorem dX7_feed_22 : decode cX7_feed 22 = .ok (.invokevirtual 89, 3) := by decide +kernel
theorem dX7_feed_25 : decode cX7_feed 25 = .ok (.aload_n 0, 1) := by decide +kernel
theorem dX7_feed_26 : decode cX7_feed 26 = .ok (.iload_n 3, 1) := by decide +kernel
theorem dX7_feed_27 : decode cX7_feed 27 = .ok (.invokevirtual 89, 3) := by decide +kernel
theorem dX7_feed_30 : decode cX7_feed 30 = .ok (.aload_n 0, 1) := by decide +kernel
theorem dX7_feed_31 : decode cX7_feed 31 = .ok (.iload 4, 2) := by decide +kernel
theorem dX7_feed_33 : decode cX7_feed 33 = .ok (.invokevirtual 89, 3) := by decide +kernel
theorem dX7_feed_36 : decode cX7_feed 36 = .ok (.aload_n 0, 1) := by decide +kernel
theorem dX7_feed_37 : decode cX7_feed 37 = .ok (.iload 5, 2) := by decide +kernel
theorem dX7_feed_39 : decode cX7_feed 39 = .ok (.invokevirtual 89, 3) := by decide +kernel
theorem dX7_feed_42 : decode cX7_feed 42 = .ok (.aload_n 0, 1) := by decide +kernel
theorem dX7_feed_43 : decode cX7_feed 43 = .ok (.getfield 47, 3) := by decide +kernel
theorem dX7_feed_46 : decode cX7_feed 46 = .ok (.ireturn, 1) := by decide +kernel
theorem dX7_putBytes_0 : decode cX7_putBytes 0 = .ok (.bipush 24, 2) := by decide +kernel
theorem dX7_putBytes_2 : decode cX7_putBytes 2 = .ok (.istore_n 2, 1) := by decide +kernel
theorem dX7_putBytes_3 : decode cX7_putBytes 3 = .ok (.iload_n 2, 1) := by decide +kernel
theorem dX7_putBytes_4 : decode cX7_putBytes 4 = .ok (.ifCond .lt 51, 3) := by decide +kernel
theorem dX7_putBytes_7 : decode cX7_putBytes 7 = .ok (.aload_n 0, 1) := by decide +kernel
theorem dX7_putBytes_8 : decode cX7_putBytes 8 = .ok (.getfield 47, 3) := by decide +kernel
theorem dX7_putBytes_11 : decode cX7_putBytes 11 = .ok (.ifCond .lt 38, 3) := by decide +kernel
theorem dX7_putBytes_14 : decode cX7_putBytes 14 = .ok (.aload_n 0, 1) := by decide +kernel
theorem dX7_putBytes_15 : decode cX7_putBytes 15 = .ok (.getfield 47, 3) := by decide +kernel
theorem dX7_putBytes_18 : decode cX7_putBytes 18 = .ok (.aload_n 0, 1) := by decide +kernel
theorem dX7_putBytes_19 : decode cX7_putBytes 19 = .ok (.getfield 43, 3) := by decide +kernel
theorem dX7_putBytes_22 : decode cX7_putBytes 22 = .ok (.arraylength, 1) := by decide +kernel
theorem dX7_putBytes_23 : decode cX7_putBytes 23 = .ok (.if_icmp .ge 26, 3) := by decide +kernel
theorem dX7_putBytes_26 : decode cX7_putBytes 26 = .ok (.aload_n 0, 1) := by decide +kernel
theorem dX7_putBytes_27 : decode cX7_putBytes 27 = .ok (.getfield 43, 3) := by decide +kernel
theorem dX7_putBytes_30 : decode cX7_putBytes 30 = .ok (.aload_n 0, 1) := by decide +kernel
theorem dX7_putBytes_31 : decode cX7_putBytes 31 = .ok (.getfield 47, 3) := by decide +kernel
theorem dX7_putBytes_34 : decode cX7_putBytes 34 = .ok (.iload_n 1, 1) := by decide +kernel
theorem dX7_putBytes_35 : decode cX7_putBytes 35 = .ok (.iload_n 2, 1) := by decide +kernel
theorem dX7_putBytes_36 : decode cX7_putBytes 36 = .ok (.ishr, 1) := by decide +kernel
theorem dX7_putBytes_37 : decode cX7_putBytes 37 = .ok (.i2b, 1) := by decide +kernel
theorem dX7_putBytes_38 : decode cX7_putBytes 38 = .ok (.bastore, 1) := by decide +kernel
theorem dX7_putBytes_39 : decode cX7_putBytes 39 = .ok (.aload_n 0, 1) := by decide +kernel
theorem dX7_putBytes_40 : decode cX7_putBytes 40 = .ok (.dup, 1) := by decide +kernel
theorem dX7_putBytes_41 : decode cX7_putBytes 41 = .ok (.getfield 47, 3) := by decide +kernel
theorem dX7_putBytes_44 : decode cX7_putBytes 44 = .ok (.iconst 1, 1) := by decide +kernel
theorem dX7_putBytes_45 : decode cX7_putBytes 45 = .ok (.iadd, 1) := by decide +kernel
theorem dX7_putBytes_46 : decode cX7_putBytes 46 = .ok (.putfield 47, 3) := by decide +kernel
theorem dX7_putBytes_49 : decode cX7_putBytes 49 = .ok (.iinc 2 (-8), 3) := by decide +kernel
theorem dX7_putBytes_52 : decode cX7_putBytes 52 = .ok (.goto (-49), 3) := by decide +kernel
theorem dX7_putBytes_55 : decode cX7_putBytes 55 = .ok (.return_, 1) := by decide +kernel
theorem dX7_back_0 : decode cX7_back 0 = .ok (.iload_n 1, 1) := by decide +kernel
theorem dX7_back_1 : decode cX7_back 1 = .ok (.ifCond .lt 11, 3) := by decide +kernel
theorem dX7_back_4 : decode cX7_back 4 = .ok (.iload_n 1, 1) := by decide +kernel
theorem dX7_back_5 : decode cX7_back 5 = .ok (.aload_n 0, 1) := by decide +kernel
theorem dX7_back_6 : decode cX7_back 6 = .ok (.getfield 47, 3) := by decide +kernel
theorem dX7_back_9 : decode cX7_back 9 = .ok (.if_icmp .le 5, 3) := by decide +kernel
theorem dX7_back_12 : decode cX7_back 12 = .ok (.iconst (-1), 1) := by decide +kernel
theorem dX7_back_13 : decode cX7_back 13 = .ok (.ireturn, 1) := by decide +kernel
theorem dX7_back_14 : decode cX7_back 14 = .ok (.aload_n 0, 1) := by decide +kernel
theorem dX7_back_15 : decode cX7_back 15 = .ok (.dup, 1) := by decide +kernel
theorem dX7_back_16 : decode cX7_back 16 = .ok (.getfield 47, 3) := by decide +kernel
theorem dX7_back_19 : decode cX7_back 19 = .ok (.iload_n 1, 1) := by decide +kernel
theorem dX7_back_20 : decode cX7_back 20 = .ok (.isub, 1) := by decide +kernel
theorem dX7_back_21 : decode cX7_back 21 = .ok (.putfield 47, 3) := by decide +kernel
theorem dX7_back_24 : decode cX7_back 24 = .ok (.aload_n 0, 1) := by decide +kernel
theorem dX7_back_25 : decode cX7_back 25 = .ok (.getfield 47, 3) := by decide +kernel
theorem dX7_back_28 : decode cX7_back 28 = .ok (.ireturn, 1) := by decide +kernel
theorem dX7_read_0 : decode cX7_read 0 = .ok (.aload_n 0, 1) := by decide +kernel
theorem dX7_read_1 : decode cX7_read 1 = .ok (.getfield 59, 3) := by decide +kernel
theorem dX7_read_4 : decode cX7_read 4 = .ok (.aload_n 0, 1) := by decide +kernel
theorem dX7_read_5 : decode cX7_read 5 = .ok (.getfield 43, 3) := by decide +kernel
theorem dX7_read_8 : decode cX7_read 8 = .ok (.aload_n 0, 1) := by decide +kernel
theorem dX7_read_9 : decode cX7_read 9 = .ok (.getfield 47, 3) := by decide +kernel
theorem dX7_read_12 : decode cX7_read 12 = .ok (.invokevirtual 93, 3) := by decide +kernel
theorem dX7_read_15 : decode cX7_read 15 = .ok (.aload_n 0, 1) := by decide +kernel
theorem dX7_read_16 : decode cX7_read 16 = .ok (.iconst 0, 1) := by decide +kernel
theorem dX7_read_17 : decode cX7_read 17 = .ok (.putfield 47, 3) := by decide +kernel
theorem dX7_read_20 : decode cX7_read 20 = .ok (.aload_n 0, 1) := by decide +kernel
theorem dX7_read_21 : decode cX7_read 21 = .ok (.getfield 68, 3) := by decide +kernel
theorem dX7_read_24 : decode cX7_read 24 = .ok (.invokevirtual 97, 3) := by decide +kernel
theorem dX7_read_27 : decode cX7_read 27 = .ok (.aload_n 0, 1) := by decide +kernel
theorem dX7_read_28 : decode cX7_read 28 = .ok (.aload_n 0, 1) := by decide +kernel
theorem dX7_read_29 : decode cX7_read 29 = .ok (.getfield 68, 3) := by decide +kernel
theorem dX7_read_32 : decode cX7_read 32 = .ok (.getfield 100, 3) := by decide +kernel
theorem dX7_read_35 : decode cX7_read 35 = .ok (.putfield 50, 3) := by decide +kernel
theorem dX7_read_38 : decode cX7_read 38 = .ok (.aload_n 0, 1) := by decide +kernel
theorem dX7_read_39 : decode cX7_read 39 = .ok (.getfield 68, 3) := by decide +kernel
theorem dX7_read_42 : decode cX7_read 42 = .ok (.getfield 101, 3) := by decide +kernel
theorem dX7_read_45 : decode cX7_read 45 = .ok (.ifCond .eq 11, 3) := by decide +kernel
theorem dX7_read_48 : decode cX7_read 48 = .ok (.aload_n 0, 1) := by decide +kernel
theorem dX7_read_49 : decode cX7_read 49 = .ok (.getfield 68, 3) := by decide +kernel
theorem dX7_read_52 : decode cX7_read 52 = .ok (.getfield 101, 3) := by decide +kernel
theorem dX7_read_55 : decode cX7_read 55 = .ok (.ireturn, 1) := by decide +kernel
theorem dX7_read_56 : decode cX7_read 56 = .ok (.aload_n 0, 1) := by decide +kernel
theorem dX7_read_57 : decode cX7_read 57 = .ok (.getfield 10, 3) := by decide +kernel
theorem dX7_read_60 : decode cX7_read 60 = .ok (.aload_n 0, 1) := by decide +kernel
theorem dX7_read_61 : decode cX7_read 61 = .ok (.getfield 68, 3) := by decide +kernel
theorem dX7_read_64 : decode cX7_read 64 = .ok (.getfield 104, 3) := by decide +kernel
theorem dX7_read_67 : decode cX7_read 67 = .ok (.aload_n 0, 1) := by decide +kernel
theorem dX7_read_68 : decode cX7_read 68 = .ok (.getfield 68, 3) := by decide +kernel
theorem dX7_read_71 : decode cX7_read 71 = .ok (.getfield 107, 3) := by decide +kernel
theorem dX7_read_74 : decode cX7_read 74 = .ok (.invokevirtual 110, 3) := by decide +kernel
theorem dX7_read_77 : decode cX7_read 77 = .ok (.aload_n 0, 1) := by decide +kernel
theorem dX7_read_78 : decode cX7_read 78 = .ok (.iconst 0, 1) := by decide +kernel
theorem dX7_read_79 : decode cX7_read 79 = .ok (.putfield 39, 3) := by decide +kernel
theorem dX7_read_82 : decode cX7_read 82 = .ok (.aload_n 0, 1) := by decide +kernel
theorem dX7_read_83 : decode cX7_read 83 = .ok (.invokevirtual 114, 3) := by decide +kernel
theorem dX7_read_86 : decode cX7_read 86 = .ok (.iconst 0, 1) := by decide +kernel
theorem dX7_read_87 : decode cX7_read 87 = .ok (.ireturn, 1) := by decide +kernel
theorem dX7_perform_0 : decode cX7_perform 0 = .ok (.iconst 0, 1) := by decide +kernel
theorem dX7_perform_1 : decode cX7_perform 1 = .ok (.istore_n 1, 1) := by decide +kernel
theorem dX7_perform_2 : decode cX7_perform 2 = .ok (.aload_n 0, 1) := by decide +kernel
theorem dX7_perform_3 : decode cX7_perform 3 = .ok (.iconst 0, 1) := by decide +kernel
theorem dX7_perform_4 : decode cX7_perform 4 = .ok (.putfield 53, 3) := by decide +kernel
theorem dX7_perform_7 : decode cX7_perform 7 = .ok (.aload_n 0, 1) := by decide +kernel
theorem dX7_perform_8 : decode cX7_perform 8 = .ok (.getfield 75, 3) := by decide +kernel
theorem dX7_perform_11 : decode cX7_perform 11 = .ok (.aload_n 0, 1) := by decide +kernel
theorem dX7_perform_12 : decode cX7_perform 12 = .ok (.getfield 68, 3) := by decide +kernel
theorem dX7_perform_15 : decode cX7_perform 15 = .ok (.getfield 117, 3) := by decide +kernel
theorem dX7_perform_18 : decode cX7_perform 18 = .ok (.invokevirtual 120, 3) := by decide +kernel
theorem dX7_perform_21 : decode cX7_perform 21 = .ok (.iconst 0, 1) := by decide +kernel
theorem dX7_perform_22 : decode cX7_perform 22 = .ok (.istore_n 2, 1) := by decide +kernel
theorem dX7_perform_23 : decode cX7_perform 23 = .ok (.iload_n 2, 1) := by decide +kernel
theorem dX7_perform_24 : decode cX7_perform 24 = .ok (.sipush 300, 3) := by decide +kernel
theorem dX7_perform_27 : decode cX7_perform 27 = .ok (.if_icmp .ge 96, 3) := by decide +kernel
theorem dX7_perform_30 : decode cX7_perform 30 = .ok (.aload_n 0, 1) := by decide +kernel
theorem dX7_perform_31 : decode cX7_perform 31 = .ok (.getfield 75, 3) := by decide +kernel
theorem dX7_perform_34 : decode cX7_perform 34 = .ok (.aload_n 0, 1) := by decide +kernel
theorem dX7_perform_35 : decode cX7_perform 35 = .ok (.getfield 20, 3) := by decide +kernel
theorem dX7_perform_38 : decode cX7_perform 38 = .ok (.invokevirtual 123, 3) := by decide +kernel
theorem dX7_perform_41 : decode cX7_perform 41 = .ok (.aload_n 0, 1) := by decide +kernel
theorem dX7_perform_42 : decode cX7_perform 42 = .ok (.getfield 20, 3) := by decide +kernel
theorem dX7_perform_45 : decode cX7_perform 45 = .ok (.invokevirtual 129, 3) := by decide +kernel
theorem dX7_perform_48 : decode cX7_perform 48 = .ok (.aload_n 0, 1) := by decide +kernel
theorem dX7_perform_49 : decode cX7_perform 49 = .ok (.getfield 25, 3) := by decide +kernel
theorem dX7_perform_52 : decode cX7_perform 52 = .ok (.getfield 132, 3) := by decide +kernel
theorem dX7_perform_55 : decode cX7_perform 55 = .ok (.iload_n 1, 1) := by decide +kernel
theorem dX7_perform_56 : decode cX7_perform 56 = .ok (.invokevirtual 137, 3) := by decide +kernel
theorem dX7_perform_59 : decode cX7_perform 59 = .ok (.aload_n 0, 1) := by decide +kernel
theorem dX7_perform_60 : decode cX7_perform 60 = .ok (.getfield 75, 3) := by decide +kernel
theorem dX7_perform_63 : decode cX7_perform 63 = .ok (.aload_n 0, 1) := by decide +kernel
theorem dX7_perform_64 : decode cX7_perform 64 = .ok (.getfield 53, 3) := by decide +kernel
theorem dX7_perform_67 : decode cX7_perform 67 = .ok (.invokevirtual 141, 3) := by decide +kernel
theorem dX7_perform_70 : decode cX7_perform 70 = .ok (.ifCond .ne 4, 3) := by decide +kernel
theorem dX7_perform_73 : decode cX7_perform 73 = .ok (.return_, 1) := by decide +kernel
theorem dX7_perform_74 : decode cX7_perform 74 = .ok (.aload_n 0, 1) := by decide +kernel
theorem dX7_perform_75 : decode cX7_perform 75 = .ok (.aload_n 0, 1) := by decide +kernel
theorem dX7_perform_76 : decode cX7_perform 76 = .ok (.getfield 75, 3) := by decide +kernel
theorem dX7_perform_79 : decode cX7_perform 79 = .ok (.getfield 145, 3) := by decide +kernel
theorem dX7_perform_82 : decode cX7_perform 82 = .ok (.aload_n 0, 1) := by decide +kernel
theorem dX7_perform_83 : decode cX7_perform 83 = .ok (.getfield 75, 3) := by decide +kernel
theorem dX7_perform_86 : decode cX7_perform 86 = .ok (.getfield 148, 3) := by decide +kernel
theorem dX7_perform_89 : decode cX7_perform 89 = .ok (.aload_n 0, 1) := by decide +kernel
theorem dX7_perform_90 : decode cX7_perform 90 = .ok (.getfield 75, 3) := by decide +kernel
theorem dX7_perform_93 : decode cX7_perform 93 = .ok (.getfield 151, 3) := by decide +kernel
theorem dX7_perform_96 : decode cX7_perform 96 = .ok (.aload_n 0, 1) := by decide +kernel
theorem dX7_perform_97 : decode cX7_perform 97 = .ok (.getfield 75, 3) := by decide +kernel
theorem dX7_perform_100 : decode cX7_perform 100 = .ok (.getfield 154, 3) := by decide +kernel
theorem dX7_perform_103 : decode cX7_perform 103 = .ok (.invokevirtual 157, 3) := by decide +kernel
theorem dX7_perform_106 : decode cX7_perform 106 = .ok (.istore_n 1, 1) := by decide +kernel
theorem dX7_perform_107 : decode cX7_perform 107 = .ok (.aload_n 0, 1) := by decide +kernel
theorem dX7_perform_108 : decode cX7_perform 108 = .ok (.dup, 1) := by decide +kernel
theorem dX7_perform_109 : decode cX7_perform 109 = .ok (.getfield 53, 3) := by decide +kernel
theorem dX7_perform_112 : decode cX7_perform 112 = .ok (.iconst 1, 1) := by decide +kernel
theorem dX7_perform_113 : decode cX7_perform 113 = .ok (.iadd, 1) := by decide +kernel
theorem dX7_perform_114 : decode cX7_perform 114 = .ok (.putfield 53, 3) := by decide +kernel
theorem dX7_perform_117 : decode cX7_perform 117 = .ok (.iinc 2 1, 3) := by decide +kernel
theorem dX7_perform_120 : decode cX7_perform 120 = .ok (.goto (-97), 3) := by decide +kernel
theorem dX7_perform_123 : decode cX7_perform 123 = .ok (.return_, 1) := by decide +kernel
theorem dX7_tell_0 : decode cX7_tell 0 = .ok (.iload_n 1, 1) := by decide +kernel
theorem dX7_tell_1 : decode cX7_tell 1 = .ok (.tableswitch 145 2 11 #[55, 62, 69, 75, 80, 86, 92, 107, 121, 130], 55) := by decide +kernel
theorem dX7_tell_56 : decode cX7_tell 56 = .ok (.aload_n 0, 1) := by decide +kernel
theorem dX7_tell_57 : decode cX7_tell 57 = .ok (.iload_n 2, 1) := by decide +kernel
theorem dX7_tell_58 : decode cX7_tell 58 = .ok (.iload_n 3, 1) := by decide +kernel
theorem dX7_tell_59 : decode cX7_tell 59 = .ok (.invokevirtual 161, 3) := by decide +kernel
theorem dX7_tell_62 : decode cX7_tell 62 = .ok (.ireturn, 1) := by decide +kernel
theorem dX7_tell_63 : decode cX7_tell 63 = .ok (.aload_n 0, 1) := by decide +kernel
theorem dX7_tell_64 : decode cX7_tell 64 = .ok (.iload_n 2, 1) := by decide +kernel
theorem dX7_tell_65 : decode cX7_tell 65 = .ok (.iload_n 3, 1) := by decide +kernel
theorem dX7_tell_66 : decode cX7_tell 66 = .ok (.invokevirtual 165, 3) := by decide +kernel
theorem dX7_tell_69 : decode cX7_tell 69 = .ok (.ireturn, 1) := by decide +kernel
theorem dX7_tell_70 : decode cX7_tell 70 = .ok (.aload_n 0, 1) := by decide +kernel
theorem dX7_tell_71 : decode cX7_tell 71 = .ok (.iload_n 2, 1) := by decide +kernel
theorem dX7_tell_72 : decode cX7_tell 72 = .ok (.invokevirtual 168, 3) := by decide +kernel
theorem dX7_tell_75 : decode cX7_tell 75 = .ok (.ireturn, 1) := by decide +kernel
theorem dX7_tell_76 : decode cX7_tell 76 = .ok (.aload_n 0, 1) := by decide +kernel
theorem dX7_tell_77 : decode cX7_tell 77 = .ok (.invokevirtual 172, 3) := by decide +kernel
theorem dX7_tell_80 : decode cX7_tell 80 = .ok (.ireturn, 1) := by decide +kernel
theorem dX7_tell_81 : decode cX7_tell 81 = .ok (.aload_n 0, 1) := by decide +kernel
theorem dX7_tell_82 : decode cX7_tell 82 = .ok (.iconst (-1), 1) := by decide +kernel
theorem dX7_tell_83 : decode cX7_tell 83 = .ok (.invokevirtual 175, 3) := by decide +kernel
theorem dX7_tell_86 : decode cX7_tell 86 = .ok (.ireturn, 1) := by decide +kernel
theorem dX7_tell_87 : decode cX7_tell 87 = .ok (.aload_n 0, 1) := by decide +kernel
theorem dX7_tell_88 : decode cX7_tell 88 = .ok (.iload_n 2, 1) := by decide +kernel
theorem dX7_tell_89 : decode cX7_tell 89 = .ok (.invokevirtual 175, 3) := by decide +kernel
theorem dX7_tell_92 : decode cX7_tell 92 = .ok (.ireturn, 1) := by decide +kernel
theorem dX7_tell_93 : decode cX7_tell 93 = .ok (.aload_n 0, 1) := by decide +kernel
theorem dX7_tell_94 : decode cX7_tell 94 = .ok (.iload_n 2, 1) := by decide +kernel
theorem dX7_tell_95 : decode cX7_tell 95 = .ok (.iload_n 3, 1) := by decide +kernel
theorem dX7_tell_96 : decode cX7_tell 96 = .ok (.invokevirtual 178, 3) := by decide +kernel
theorem dX7_tell_99 : decode cX7_tell 99 = .ok (.ifCond .eq 7, 3) := by decide +kernel
theorem dX7_tell_102 : decode cX7_tell 102 = .ok (.iconst 1, 1) := by decide +kernel
theorem dX7_tell_103 : decode cX7_tell 103 = .ok (.goto 4, 3) := by decide +kernel
theorem dX7_tell_106 : decode cX7_tell 106 = .ok (.iconst 0, 1) := by decide +kernel
theorem dX7_tell_107 : decode cX7_tell 107 = .ok (.ireturn, 1) := by decide +kernel
theorem dX7_tell_108 : decode cX7_tell 108 = .ok (.aload_n 0, 1) := by decide +kernel
theorem dX7_tell_109 : decode cX7_tell 109 = .ok (.iload_n 2, 1) := by decide +kernel
theorem dX7_tell_110 : decode cX7_tell 110 = .ok (.invokevirtual 182, 3) := by decide +kernel
theorem dX7_tell_113 : decode cX7_tell 113 = .ok (.ifCond .eq 7, 3) := by decide +kernel
theorem dX7_tell_116 : decode cX7_tell 116 = .ok (.iconst 1, 1) := by decide +kernel
theorem dX7_tell_117 : decode cX7_tell 117 = .ok (.goto 4, 3) := by decide +kernel
theorem dX7_tell_120 : decode cX7_tell 120 = .ok (.iconst 0, 1) := by decide +kernel
theorem dX7_tell_121 : decode cX7_tell 121 = .ok (.ireturn, 1) := by decide +kernel
theorem dX7_tell_122 : decode cX7_tell 122 = .ok (.aload_n 0, 1) := by decide +kernel
theorem dX7_tell_123 : decode cX7_tell 123 = .ok (.iload_n 2, 1) := by decide +kernel
theorem dX7_tell_124 : decode cX7_tell 124 = .ok (.iload_n 3, 1) := by decide +kernel
theorem dX7_tell_125 : decode cX7_tell 125 = .ok (.iload 4, 2) := by decide +kernel
theorem dX7_tell_127 : decode cX7_tell 127 = .ok (.invokevirtual 185, 3) := by decide +kernel
theorem dX7_tell_130 : decode cX7_tell 130 = .ok (.ireturn, 1) := by decide +kernel
theorem dX7_tell_131 : decode cX7_tell 131 = .ok (.aload_n 0, 1) := by decide +kernel
theorem dX7_tell_132 : decode cX7_tell 132 = .ok (.iload_n 2, 1) := by decide +kernel
theorem dX7_tell_133 : decode cX7_tell 133 = .ok (.iload_n 3, 1) := by decide +kernel
theorem dX7_tell_134 : decode cX7_tell 134 = .ok (.invokevirtual 189, 3) := by decide +kernel
theorem dX7_tell_137 : decode cX7_tell 137 = .ok (.ifCond .eq 7, 3) := by decide +kernel
theorem dX7_tell_140 : decode cX7_tell 140 = .ok (.iconst 1, 1) := by decide +kernel
theorem dX7_tell_141 : decode cX7_tell 141 = .ok (.goto 4, 3) := by decide +kernel
theorem dX7_tell_144 : decode cX7_tell 144 = .ok (.iconst 0, 1) := by decide +kernel
theorem dX7_tell_145 : decode cX7_tell 145 = .ok (.ireturn, 1) := by decide +kernel
theorem dX7_tell_146 : decode cX7_tell 146 = .ok (.iconst 0, 1) := by decide +kernel
theorem dX7_tell_147 : decode cX7_tell 147 = .ok (.ireturn, 1) := by decide +kernel
theorem dX7_place_0 : decode cX7_place 0 = .ok (.aload_n 0, 1) := by decide +kernel
theorem dX7_place_1 : decode cX7_place 1 = .ok (.getfield 50, 3) := by decide +kernel
theorem dX7_place_4 : decode cX7_place 4 = .ok (.ireturn, 1) := by decide +kernel
theorem dX7_write_0 : decode cX7_write 0 = .ok (.aload_n 0, 1) := by decide +kernel
theorem dX7_write_1 : decode cX7_write 1 = .ok (.getfield 10, 3) := by decide +kernel
theorem dX7_write_4 : decode cX7_write 4 = .ok (.iload_n 1, 1) := by decide +kernel
theorem dX7_write_5 : decode cX7_write 5 = .ok (.invokevirtual 192, 3) := by decide +kernel
theorem dX7_write_8 : decode cX7_write 8 = .ok (.ifCond .eq 16, 3) := by decide +kernel
theorem dX7_write_11 : decode cX7_write 11 = .ok (.aload_n 0, 1) := by decide +kernel
theorem dX7_write_12 : decode cX7_write 12 = .ok (.getfield 20, 3) := by decide +kernel
theorem dX7_write_15 : decode cX7_write 15 = .ok (.iconst 0, 1) := by decide +kernel
theorem dX7_write_16 : decode cX7_write 16 = .ok (.iload_n 1, 1) := by decide +kernel
theorem dX7_write_17 : decode cX7_write 17 = .ok (.iload_n 2, 1) := by decide +kernel
theorem dX7_write_18 : decode cX7_write 18 = .ok (.invokevirtual 195, 3) := by decide +kernel
theorem dX7_write_21 : decode cX7_write 21 = .ok (.goto 4, 3) := by decide +kernel
theorem dX7_write_24 : decode cX7_write 24 = .ok (.iconst (-1), 1) := by decide +kernel
theorem dX7_write_25 : decode cX7_write 25 = .ok (.ireturn, 1) := by decide +kernel
theorem dX7_add_0 : decode cX7_add 0 = .ok (.aload_n 0, 1) := by decide +kernel
theorem dX7_add_1 : decode cX7_add 1 = .ok (.getfield 10, 3) := by decide +kernel
theorem dX7_add_4 : decode cX7_add 4 = .ok (.iload_n 1, 1) := by decide +kernel
theorem dX7_add_5 : decode cX7_add 5 = .ok (.invokevirtual 192, 3) := by decide +kernel
theorem dX7_add_8 : decode cX7_add 8 = .ok (.ifCond .eq 16, 3) := by decide +kernel
theorem dX7_add_11 : decode cX7_add 11 = .ok (.aload_n 0, 1) := by decide +kernel
theorem dX7_add_12 : decode cX7_add 12 = .ok (.getfield 20, 3) := by decide +kernel
theorem dX7_add_15 : decode cX7_add 15 = .ok (.iconst 1, 1) := by decide +kernel
theorem dX7_add_16 : decode cX7_add 16 = .ok (.iload_n 1, 1) := by decide +kernel
theorem dX7_add_17 : decode cX7_add 17 = .ok (.iload_n 2, 1) := by decide +kernel
theorem dX7_add_18 : decode cX7_add 18 = .ok (.invokevirtual 195, 3) := by decide +kernel
theorem dX7_add_21 : decode cX7_add 21 = .ok (.goto 4, 3) := by decide +kernel
theorem dX7_add_24 : decode cX7_add 24 = .ok (.iconst (-1), 1) := by decide +kernel
theorem dX7_add_25 : decode cX7_add 25 = .ok (.ireturn, 1) := by decide +kernel
theorem dX7_mark_0 : decode cX7_mark 0 = .ok (.aload_n 0, 1) := by decide +kernel
theorem dX7_mark_1 : decode cX7_mark 1 = .ok (.getfield 20, 3) := by decide +kernel
theorem dX7_mark_4 : decode cX7_mark 4 = .ok (.iconst 2, 1) := by decide +kernel
theorem dX7_mark_5 : decode cX7_mark 5 = .ok (.iload_n 1, 1) := by decide +kernel
theorem dX7_mark_6 : decode cX7_mark 6 = .ok (.iconst 0, 1) := by decide +kernel
theorem dX7_mark_7 : decode cX7_mark 7 = .ok (.invokevirtual 195, 3) := by decide +kernel
theorem dX7_mark_10 : decode cX7_mark 10 = .ok (.ireturn, 1) := by decide +kernel
theorem dX7_fill_0 : decode cX7_fill 0 = .ok (.aload_n 0, 1) := by decide +kernel
theorem dX7_fill_1 : decode cX7_fill 1 = .ok (.getfield 20, 3) := by decide +kernel
theorem dX7_fill_4 : decode cX7_fill 4 = .ok (.invokevirtual 198, 3) := by decide +kernel
theorem dX7_fill_7 : decode cX7_fill 7 = .ok (.istore_n 1, 1) := by decide +kernel
theorem dX7_fill_8 : decode cX7_fill 8 = .ok (.aload_n 0, 1) := by decide +kernel
theorem dX7_fill_9 : decode cX7_fill 9 = .ok (.getfield 20, 3) := by decide +kernel
theorem dX7_fill_12 : decode cX7_fill 12 = .ok (.iload_n 1, 1) := by decide +kernel
theorem dX7_fill_13 : decode cX7_fill 13 = .ok (.invokevirtual 201, 3) := by decide +kernel
theorem dX7_fill_16 : decode cX7_fill 16 = .ok (.ifCond .ne 5, 3) := by decide +kernel
theorem dX7_fill_19 : decode cX7_fill 19 = .ok (.iconst (-1), 1) := by decide +kernel
theorem dX7_fill_20 : decode cX7_fill 20 = .ok (.ireturn, 1) := by decide +kernel
theorem dX7_fill_21 : decode cX7_fill 21 = .ok (.iconst 0, 1) := by decide +kernel
theorem dX7_fill_22 : decode cX7_fill 22 = .ok (.istore_n 2, 1) := by decide +kernel
theorem dX7_fill_23 : decode cX7_fill 23 = .ok (.iload_n 2, 1) := by decide +kernel
theorem dX7_fill_24 : decode cX7_fill 24 = .ok (.iload_n 1, 1) := by decide +kernel
theorem dX7_fill_25 : decode cX7_fill 25 = .ok (.if_icmp .ge 21, 3) := by decide +kernel
theorem dX7_fill_28 : decode cX7_fill 28 = .ok (.aload_n 0, 1) := by decide +kernel
theorem dX7_fill_29 : decode cX7_fill 29 = .ok (.getfield 20, 3) := by decide +kernel
theorem dX7_fill_32 : decode cX7_fill 32 = .ok (.iconst 3, 1) := by decide +kernel
theorem dX7_fill_33 : decode cX7_fill 33 = .ok (.bipush (-2), 2) := by decide +kernel
theorem dX7_fill_35 : decode cX7_fill 35 = .ok (.iconst 0, 1) := by decide +kernel
theorem dX7_fill_36 : decode cX7_fill 36 = .ok (.invokevirtual 195, 3) := by decide +kernel
theorem dX7_fill_39 : decode cX7_fill 39 = .ok (.pop, 1) := by decide +kernel
theorem dX7_fill_40 : decode cX7_fill 40 = .ok (.iinc 2 1, 3) := by decide +kernel
theorem dX7_fill_43 : decode cX7_fill 43 = .ok (.goto (-20), 3) := by decide +kernel
theorem dX7_fill_46 : decode cX7_fill 46 = .ok (.iload_n 1, 1) := by decide +kernel
theorem dX7_fill_47 : decode cX7_fill 47 = .ok (.ireturn, 1) := by decide +kernel
theorem dX7_copy_0 : decode cX7_copy 0 = .ok (.iload_n 1, 1) := by decide +kernel
theorem dX7_copy_1 : decode cX7_copy 1 = .ok (.iconst (-1), 1) := by decide +kernel
theorem dX7_copy_2 : decode cX7_copy 2 = .ok (.if_icmp .eq 16, 3) := by decide +kernel
theorem dX7_copy_5 : decode cX7_copy 5 = .ok (.aload_n 0, 1) := by decide +kernel
theorem dX7_copy_6 : decode cX7_copy 6 = .ok (.getfield 25, 3) := by decide +kernel
theorem dX7_copy_9 : decode cX7_copy 9 = .ok (.iload_n 1, 1) := by decide +kernel
theorem dX7_copy_10 : decode cX7_copy 10 = .ok (.invokevirtual 204, 3) := by decide +kernel
theorem dX7_copy_13 : decode cX7_copy 13 = .ok (.ifCond .ne 5, 3) := by decide +kernel
theorem dX7_copy_16 : decode cX7_copy 16 = .ok (.iconst (-1), 1) := by decide +kernel
theorem dX7_copy_17 : decode cX7_copy 17 = .ok (.ireturn, 1) := by decide +kernel
theorem dX7_copy_18 : decode cX7_copy 18 = .ok (.aload_n 0, 1) := by decide +kernel
theorem dX7_copy_19 : decode cX7_copy 19 = .ok (.getfield 25, 3) := by decide +kernel
theorem dX7_copy_22 : decode cX7_copy 22 = .ok (.aload_n 0, 1) := by decide +kernel
theorem dX7_copy_23 : decode cX7_copy 23 = .ok (.getfield 20, 3) := by decide +kernel
theorem dX7_copy_26 : decode cX7_copy 26 = .ok (.invokevirtual 129, 3) := by decide +kernel
theorem dX7_copy_29 : decode cX7_copy 29 = .ok (.iload_n 1, 1) := by decide +kernel
theorem dX7_copy_30 : decode cX7_copy 30 = .ok (.iconst (-1), 1) := by decide +kernel
theorem dX7_copy_31 : decode cX7_copy 31 = .ok (.if_icmp .ne 8, 3) := by decide +kernel
theorem dX7_copy_34 : decode cX7_copy 34 = .ok (.bipush (-2), 2) := by decide +kernel
theorem dX7_copy_36 : decode cX7_copy 36 = .ok (.goto 4, 3) := by decide +kernel
theorem dX7_copy_39 : decode cX7_copy 39 = .ok (.iload_n 1, 1) := by decide +kernel
theorem dX7_copy_40 : decode cX7_copy 40 = .ok (.invokevirtual 207, 3) := by decide +kernel
theorem dX7_copy_43 : decode cX7_copy 43 = .ok (.ireturn, 1) := by decide +kernel
theorem dX7_take_0 : decode cX7_take 0 = .ok (.aload_n 0, 1) := by decide +kernel
theorem dX7_take_1 : decode cX7_take 1 = .ok (.getfield 20, 3) := by decide +kernel
theorem dX7_take_4 : decode cX7_take 4 = .ok (.invokevirtual 129, 3) := by decide +kernel
theorem dX7_take_7 : decode cX7_take 7 = .ok (.istore_n 3, 1) := by decide +kernel
theorem dX7_take_8 : decode cX7_take 8 = .ok (.aload_n 0, 1) := by decide +kernel
theorem dX7_take_9 : decode cX7_take 9 = .ok (.getfield 25, 3) := by decide +kernel
theorem dX7_take_12 : decode cX7_take 12 = .ok (.iload_n 1, 1) := by decide +kernel
theorem dX7_take_13 : decode cX7_take 13 = .ok (.invokevirtual 209, 3) := by decide +kernel
theorem dX7_take_16 : decode cX7_take 16 = .ok (.ifCond .eq 26, 3) := by decide +kernel
theorem dX7_take_19 : decode cX7_take 19 = .ok (.aload_n 0, 1) := by decide +kernel
theorem dX7_take_20 : decode cX7_take 20 = .ok (.getfield 25, 3) := by decide +kernel
theorem dX7_take_23 : decode cX7_take 23 = .ok (.iload_n 1, 1) := by decide +kernel
theorem dX7_take_24 : decode cX7_take 24 = .ok (.invokevirtual 212, 3) := by decide +kernel
theorem dX7_take_27 : decode cX7_take 27 = .ok (.iload_n 3, 1) := by decide +kernel
theorem dX7_take_28 : decode cX7_take 28 = .ok (.if_icmp .ne 14, 3) := by decide +kernel
theorem dX7_take_31 : decode cX7_take 31 = .ok (.aload_n 0, 1) := by decide +kernel
theorem dX7_take_32 : decode cX7_take 32 = .ok (.getfield 10, 3) := by decide +kernel
theorem dX7_take_35 : decode cX7_take 35 = .ok (.iload_n 2, 1) := by decide +kernel
theorem dX7_take_36 : decode cX7_take 36 = .ok (.invokevirtual 192, 3) := by decide +kernel
theorem dX7_take_39 : decode cX7_take 39 = .ok (.ifCond .ne 5, 3) := by decide +kernel
theorem dX7_take_42 : decode cX7_take 42 = .ok (.iconst 0, 1) := by decide +kernel
theorem dX7_take_43 : decode cX7_take 43 = .ok (.ireturn, 1) := by decide +kernel
theorem dX7_take_44 : decode cX7_take 44 = .ok (.aload_n 0, 1) := by decide +kernel
theorem dX7_take_45 : decode cX7_take 45 = .ok (.getfield 20, 3) := by decide +kernel
theorem dX7_take_48 : decode cX7_take 48 = .ok (.invokevirtual 123, 3) := by decide +kernel
theorem dX7_take_51 : decode cX7_take 51 = .ok (.istore 4, 2) := by decide +kernel
theorem dX7_take_53 : decode cX7_take 53 = .ok (.aload_n 0, 1) := by decide +kernel
theorem dX7_take_54 : decode cX7_take 54 = .ok (.getfield 25, 3) := by decide +kernel
theorem dX7_take_57 : decode cX7_take 57 = .ok (.iload_n 1, 1) := by decide +kernel
theorem dX7_take_58 : decode cX7_take 58 = .ok (.iload_n 2, 1) := by decide +kernel
theorem dX7_take_59 : decode cX7_take 59 = .ok (.iload_n 3, 1) := by decide +kernel
theorem dX7_take_60 : decode cX7_take 60 = .ok (.iload 4, 2) := by decide +kernel
theorem dX7_take_62 : decode cX7_take 62 = .ok (.aload_n 0, 1) := by decide +kernel
theorem dX7_take_63 : decode cX7_take 63 = .ok (.getfield 20, 3) := by decide +kernel
theorem dX7_take_66 : decode cX7_take 66 = .ok (.iload_n 2, 1) := by decide +kernel
theorem dX7_take_67 : decode cX7_take 67 = .ok (.iload_n 3, 1) := by decide +kernel
theorem dX7_take_68 : decode cX7_take 68 = .ok (.iload 4, 2) := by decide +kernel
theorem dX7_take_70 : decode cX7_take 70 = .ok (.invokevirtual 215, 3) := by decide +kernel
theorem dX7_take_73 : decode cX7_take 73 = .ok (.invokevirtual 218, 3) := by decide +kernel
theorem dX7_take_76 : decode cX7_take 76 = .ok (.iconst 1, 1) := by decide +kernel
theorem dX7_take_77 : decode cX7_take 77 = .ok (.ireturn, 1) := by decide +kernel
theorem dX7_close_0 : decode cX7_close 0 = .ok (.aload_n 0, 1) := by decide +kernel
theorem dX7_close_1 : decode cX7_close 1 = .ok (.getfield 25, 3) := by decide +kernel
theorem dX7_close_4 : decode cX7_close 4 = .ok (.iload_n 1, 1) := by decide +kernel
theorem dX7_close_5 : decode cX7_close 5 = .ok (.invokevirtual 222, 3) := by decide +kernel
theorem dX7_close_8 : decode cX7_close 8 = .ok (.ireturn, 1) := by decide +kernel
theorem dX7_combine_0 : decode cX7_combine 0 = .ok (.aload_n 0, 1) := by decide +kernel
theorem dX7_combine_1 : decode cX7_combine 1 = .ok (.getfield 25, 3) := by decide +kernel
theorem dX7_combine_4 : decode cX7_combine 4 = .ok (.iload_n 1, 1) := by decide +kernel
theorem dX7_combine_5 : decode cX7_combine 5 = .ok (.aload_n 0, 1) := by decide +kernel
theorem dX7_combine_6 : decode cX7_combine 6 = .ok (.getfield 10, 3) := by decide +kernel
theorem dX7_combine_9 : decode cX7_combine 9 = .ok (.getfield 225, 3) := by decide +kernel
theorem dX7_combine_12 : decode cX7_combine 12 = .ok (.invokevirtual 226, 3) := by decide +kernel
theorem dX7_combine_15 : decode cX7_combine 15 = .ok (.ifCond .ne 5, 3) := by decide +kernel
theorem dX7_combine_18 : decode cX7_combine 18 = .ok (.iconst (-1), 1) := by decide +kernel
theorem dX7_combine_19 : decode cX7_combine 19 = .ok (.ireturn, 1) := by decide +kernel
theorem dX7_combine_20 : decode cX7_combine 20 = .ok (.aload_n 0, 1) := by decide +kernel
theorem dX7_combine_21 : decode cX7_combine 21 = .ok (.getfield 25, 3) := by decide +kernel
theorem dX7_combine_24 : decode cX7_combine 24 = .ok (.aload_n 0, 1) := by decide +kernel
theorem dX7_combine_25 : decode cX7_combine 25 = .ok (.getfield 25, 3) := by decide +kernel
theorem dX7_combine_28 : decode cX7_combine 28 = .ok (.iload_n 1, 1) := by decide +kernel
theorem dX7_combine_29 : decode cX7_combine 29 = .ok (.invokevirtual 212, 3) := by decide +kernel
theorem dX7_combine_32 : decode cX7_combine 32 = .ok (.bipush (-2), 2) := by decide +kernel
theorem dX7_combine_34 : decode cX7_combine 34 = .ok (.invokevirtual 207, 3) := by decide +kernel
theorem dX7_combine_37 : decode cX7_combine 37 = .ok (.istore_n 2, 1) := by decide +kernel
theorem dX7_combine_38 : decode cX7_combine 38 = .ok (.iload_n 2, 1) := by decide +kernel
theorem dX7_combine_39 : decode cX7_combine 39 = .ok (.iconst (-1), 1) := by decide +kernel
theorem dX7_combine_40 : decode cX7_combine 40 = .ok (.if_icmp .ne 5, 3) := by decide +kernel
theorem dX7_combine_43 : decode cX7_combine 43 = .ok (.iconst (-1), 1) := by decide +kernel
theorem dX7_combine_44 : decode cX7_combine 44 = .ok (.ireturn, 1) := by decide +kernel
theorem dX7_combine_45 : decode cX7_combine 45 = .ok (.iconst 0, 1) := by decide +kernel
theorem dX7_combine_46 : decode cX7_combine 46 = .ok (.istore_n 3, 1) := by decide +kernel
theorem dX7_combine_47 : decode cX7_combine 47 = .ok (.iload_n 3, 1) := by decide +kernel
theorem dX7_combine_48 : decode cX7_combine 48 = .ok (.aload_n 0, 1) := by decide +kernel
theorem dX7_combine_49 : decode cX7_combine 49 = .ok (.getfield 10, 3) := by decide +kernel
theorem dX7_combine_52 : decode cX7_combine 52 = .ok (.getfield 225, 3) := by decide +kernel
theorem dX7_combine_55 : decode cX7_combine 55 = .ok (.if_icmp .ge 56, 3) := by decide +kernel
theorem dX7_combine_58 : decode cX7_combine 58 = .ok (.aload_n 0, 1) := by decide +kernel
theorem dX7_combine_59 : decode cX7_combine 59 = .ok (.getfield 25, 3) := by decide +kernel
theorem dX7_combine_62 : decode cX7_combine 62 = .ok (.iload_n 1, 1) := by decide +kernel
theorem dX7_combine_63 : decode cX7_combine 63 = .ok (.iload_n 3, 1) := by decide +kernel
theorem dX7_combine_64 : decode cX7_combine 64 = .ok (.invokevirtual 229, 3) := by decide +kernel
theorem dX7_combine_67 : decode cX7_combine 67 = .ok (.istore 4, 2) := by decide +kernel
theorem dX7_combine_69 : decode cX7_combine 69 = .ok (.aload_n 0, 1) := by decide +kernel
theorem dX7_combine_70 : decode cX7_combine 70 = .ok (.getfield 25, 3) := by decide +kernel
theorem dX7_combine_73 : decode cX7_combine 73 = .ok (.iload_n 2, 1) := by decide +kernel
theorem dX7_combine_74 : decode cX7_combine 74 = .ok (.iload_n 3, 1) := by decide +kernel
theorem dX7_combine_75 : decode cX7_combine 75 = .ok (.aload_n 0, 1) := by decide +kernel
theorem dX7_combine_76 : decode cX7_combine 76 = .ok (.getfield 25, 3) := by decide +kernel
theorem dX7_combine_79 : decode cX7_combine 79 = .ok (.iload 4, 2) := by decide +kernel
theorem dX7_combine_81 : decode cX7_combine 81 = .ok (.invokevirtual 232, 3) := by decide +kernel
theorem dX7_combine_84 : decode cX7_combine 84 = .ok (.aload_n 0, 1) := by decide +kernel
theorem dX7_combine_85 : decode cX7_combine 85 = .ok (.getfield 25, 3) := by decide +kernel
theorem dX7_combine_88 : decode cX7_combine 88 = .ok (.iload 4, 2) := by decide +kernel
theorem dX7_combine_90 : decode cX7_combine 90 = .ok (.invokevirtual 235, 3) := by decide +kernel
theorem dX7_combine_93 : decode cX7_combine 93 = .ok (.aload_n 0, 1) := by decide +kernel
theorem dX7_combine_94 : decode cX7_combine 94 = .ok (.getfield 25, 3) := by decide +kernel
theorem dX7_combine_97 : decode cX7_combine 97 = .ok (.iload 4, 2) := by decide +kernel
theorem dX7_combine_99 : decode cX7_combine 99 = .ok (.invokevirtual 238, 3) := by decide +kernel
theorem dX7_combine_102 : decode cX7_combine 102 = .ok (.invokevirtual 218, 3) := by decide +kernel
theorem dX7_combine_105 : decode cX7_combine 105 = .ok (.iinc 3 1, 3) := by decide +kernel
theorem dX7_combine_108 : decode cX7_combine 108 = .ok (.goto (-61), 3) := by decide +kernel
theorem dX7_combine_111 : decode cX7_combine 111 = .ok (.aload_n 0, 1) := by decide +kernel
theorem dX7_combine_112 : decode cX7_combine 112 = .ok (.getfield 25, 3) := by decide +kernel
theorem dX7_combine_115 : decode cX7_combine 115 = .ok (.iload_n 2, 1) := by decide +kernel
theorem dX7_combine_116 : decode cX7_combine 116 = .ok (.invokevirtual 222, 3) := by decide +kernel
theorem dX7_combine_119 : decode cX7_combine 119 = .ok (.pop, 1) := by decide +kernel
theorem dX7_combine_120 : decode cX7_combine 120 = .ok (.iload_n 2, 1) := by decide +kernel
theorem dX7_combine_121 : decode cX7_combine 121 = .ok (.ireturn, 1) := by decide +kernel
theorem dX7_drop_0 : decode cX7_drop 0 = .ok (.aload_n 0, 1) := by decide +kernel
theorem dX7_drop_1 : decode cX7_drop 1 = .ok (.getfield 25, 3) := by decide +kernel
theorem dX7_drop_4 : decode cX7_drop 4 = .ok (.iload_n 1, 1) := by decide +kernel
theorem dX7_drop_5 : decode cX7_drop 5 = .ok (.invokevirtual 241, 3) := by decide +kernel
theorem dX7_drop_8 : decode cX7_drop 8 = .ok (.ireturn, 1) := by decide +kernel
theorem dX7_restore_0 : decode cX7_restore 0 = .ok (.aload_n 0, 1) := by decide +kernel
theorem dX7_restore_1 : decode cX7_restore 1 = .ok (.getfield 20, 3) := by decide +kernel
theorem dX7_restore_4 : decode cX7_restore 4 = .ok (.getfield 244, 3) := by decide +kernel
theorem dX7_restore_7 : decode cX7_restore 7 = .ok (.bipush 8, 2) := by decide +kernel
theorem dX7_restore_9 : decode cX7_restore 9 = .ok (.if_icmp .lt 5, 3) := by decide +kernel
theorem dX7_restore_12 : decode cX7_restore 12 = .ok (.iconst 1, 1) := by decide +kernel
theorem dX7_restore_13 : decode cX7_restore 13 = .ok (.ireturn, 1) := by decide +kernel
theorem dX7_restore_14 : decode cX7_restore 14 = .ok (.aload_n 0, 1) := by decide +kernel
theorem dX7_restore_15 : decode cX7_restore 15 = .ok (.getfield 31, 3) := by decide +kernel
theorem dX7_restore_18 : decode cX7_restore 18 = .ok (.iload_n 1, 1) := by decide +kernel
theorem dX7_restore_19 : decode cX7_restore 19 = .ok (.iload_n 2, 1) := by decide +kernel
theorem dX7_restore_20 : decode cX7_restore 20 = .ok (.invokevirtual 247, 3) := by decide +kernel
theorem dX7_restore_23 : decode cX7_restore 23 = .ok (.aload_n 0, 1) := by decide +kernel
theorem dX7_restore_24 : decode cX7_restore 24 = .ok (.getfield 31, 3) := by decide +kernel
theorem dX7_restore_27 : decode cX7_restore 27 = .ok (.iload_n 3, 1) := by decide +kernel
theorem dX7_restore_28 : decode cX7_restore 28 = .ok (.invokevirtual 250, 3) := by decide +kernel
theorem dX7_restore_31 : decode cX7_restore 31 = .ok (.istore 4, 2) := by decide +kernel
theorem dX7_restore_33 : decode cX7_restore 33 = .ok (.iload 4, 2) := by decide +kernel
theorem dX7_restore_35 : decode cX7_restore 35 = .ok (.ifCond .ne 12, 3) := by decide +kernel
theorem dX7_restore_38 : decode cX7_restore 38 = .ok (.aload_n 0, 1) := by decide +kernel
theorem dX7_restore_39 : decode cX7_restore 39 = .ok (.getfield 20, 3) := by decide +kernel
theorem dX7_restore_42 : decode cX7_restore 42 = .ok (.iload_n 2, 1) := by decide +kernel
theorem dX7_restore_43 : decode cX7_restore 43 = .ok (.iload_n 3, 1) := by decide +kernel
theorem dX7_restore_44 : decode cX7_restore 44 = .ok (.invokevirtual 253, 3) := by decide +kernel
theorem dX7_restore_47 : decode cX7_restore 47 = .ok (.iload 4, 2) := by decide +kernel
theorem dX7_restore_49 : decode cX7_restore 49 = .ok (.ireturn, 1) := by decide +kernel
theorem dX7_lose_0 : decode cX7_lose 0 = .ok (.aload_n 0, 1) := by decide +kernel
theorem dX7_lose_1 : decode cX7_lose 1 = .ok (.getfield 20, 3) := by decide +kernel
theorem dX7_lose_4 : decode cX7_lose 4 = .ok (.iload_n 1, 1) := by decide +kernel
theorem dX7_lose_5 : decode cX7_lose 5 = .ok (.iload_n 2, 1) := by decide +kernel
theorem dX7_lose_6 : decode cX7_lose 6 = .ok (.invokevirtual 256, 3) := by decide +kernel
theorem dX7_lose_9 : decode cX7_lose 9 = .ok (.iconst 1, 1) := by decide +kernel
theorem dX7_lose_10 : decode cX7_lose 10 = .ok (.if_icmp .ge 5, 3) := by decide +kernel
theorem dX7_lose_13 : decode cX7_lose 13 = .ok (.iconst 0, 1) := by decide +kernel
theorem dX7_lose_14 : decode cX7_lose 14 = .ok (.ireturn, 1) := by decide +kernel
theorem dX7_lose_15 : decode cX7_lose 15 = .ok (.aload_n 0, 1) := by decide +kernel
theorem dX7_lose_16 : decode cX7_lose 16 = .ok (.getfield 20, 3) := by decide +kernel
theorem dX7_lose_19 : decode cX7_lose 19 = .ok (.iload_n 1, 1) := by decide +kernel
theorem dX7_lose_20 : decode cX7_lose 20 = .ok (.iload_n 2, 1) := by decide +kernel
theorem dX7_lose_21 : decode cX7_lose 21 = .ok (.iconst 0, 1) := by decide +kernel
theorem dX7_lose_22 : decode cX7_lose 22 = .ok (.invokevirtual 259, 3) := by decide +kernel
theorem dX7_lose_25 : decode cX7_lose 25 = .ok (.iconst 1, 1) := by decide +kernel
theorem dX7_lose_26 : decode cX7_lose 26 = .ok (.ireturn, 1) := by decide +kernel
theorem dX7_twice_0 : decode cX7_twice 0 = .ok (.aload_n 0, 1) := by decide +kernel
theorem dX7_twice_1 : decode cX7_twice 1 = .ok (.getfield 20, 3) := by decide +kernel
theorem dX7_twice_4 : decode cX7_twice 4 = .ok (.iload_n 1, 1) := by decide +kernel
theorem dX7_twice_5 : decode cX7_twice 5 = .ok (.iload_n 2, 1) := by decide +kernel
theorem dX7_twice_6 : decode cX7_twice 6 = .ok (.invokevirtual 256, 3) := by decide +kernel
theorem dX7_twice_9 : decode cX7_twice 9 = .ok (.istore 4, 2) := by decide +kernel
theorem dX7_twice_11 : decode cX7_twice 11 = .ok (.iload_n 3, 1) := by decide +kernel
theorem dX7_twice_12 : decode cX7_twice 12 = .ok (.ifCond .eq 7, 3) := by decide +kernel
theorem dX7_twice_15 : decode cX7_twice 15 = .ok (.iconst 2, 1) := by decide +kernel
theorem dX7_twice_16 : decode cX7_twice 16 = .ok (.goto 4, 3) := by decide +kernel
theorem dX7_twice_19 : decode cX7_twice 19 = .ok (.iconst 3, 1) := by decide +kernel
theorem dX7_twice_20 : decode cX7_twice 20 = .ok (.istore 5, 2) := by decide +kernel
theorem dX7_twice_22 : decode cX7_twice 22 = .ok (.iload 4, 2) := by decide +kernel
theorem dX7_twice_24 : decode cX7_twice 24 = .ok (.iconst 1, 1) := by decide +kernel
theorem dX7_twice_25 : decode cX7_twice 25 = .ok (.if_icmp .lt 10, 3) := by decide +kernel
theorem dX7_twice_28 : decode cX7_twice 28 = .ok (.iload 4, 2) := by decide +kernel
theorem dX7_twice_30 : decode cX7_twice 30 = .ok (.iload 5, 2) := by decide +kernel
theorem dX7_twice_32 : decode cX7_twice 32 = .ok (.if_icmp .ne 5, 3) := by decide +kernel
theorem dX7_twice_35 : decode cX7_twice 35 = .ok (.iconst 0, 1) := by decide +kernel
theorem dX7_twice_36 : decode cX7_twice 36 = .ok (.ireturn, 1) := by decide +kernel
theorem dX7_twice_37 : decode cX7_twice 37 = .ok (.aload_n 0, 1) := by decide +kernel
theorem dX7_twice_38 : decode cX7_twice 38 = .ok (.getfield 20, 3) := by decide +kernel
theorem dX7_twice_41 : decode cX7_twice 41 = .ok (.iload_n 1, 1) := by decide +kernel
theorem dX7_twice_42 : decode cX7_twice 42 = .ok (.iload_n 2, 1) := by decide +kernel
theorem dX7_twice_43 : decode cX7_twice 43 = .ok (.iload 5, 2) := by decide +kernel
theorem dX7_twice_45 : decode cX7_twice 45 = .ok (.invokevirtual 259, 3) := by decide +kernel
theorem dX7_twice_48 : decode cX7_twice 48 = .ok (.iconst 1, 1) := by decide +kernel
theorem dX7_twice_49 : decode cX7_twice 49 = .ok (.ireturn, 1) := by decide +kernel
theorem dX7_page_0 : decode cX7_page 0 = .ok (.aload_n 0, 1) := by decide +kernel
theorem dX7_page_1 : decode cX7_page 1 = .ok (.getfield 10, 3) := by decide +kernel
theorem dX7_page_4 : decode cX7_page 4 = .ok (.iload_n 1, 1) := by decide +kernel
theorem dX7_page_5 : decode cX7_page 5 = .ok (.invokevirtual 192, 3) := by decide +kernel
theorem dX7_page_8 : decode cX7_page 8 = .ok (.ifCond .eq 15, 3) := by decide +kernel
theorem dX7_page_11 : decode cX7_page 11 = .ok (.aload_n 0, 1) := by decide +kernel
theorem dX7_page_12 : decode cX7_page 12 = .ok (.getfield 20, 3) := by decide +kernel
theorem dX7_page_15 : decode cX7_page 15 = .ok (.iload_n 2, 1) := by decide +kernel
theorem dX7_page_16 : decode cX7_page 16 = .ok (.iload_n 3, 1) := by decide +kernel
theorem dX7_page_17 : decode cX7_page 17 = .ok (.invokevirtual 263, 3) := by decide +kernel
theorem dX7_page_20 : decode cX7_page 20 = .ok (.ifCond .ne 5, 3) := by decide +kernel
theorem dX7_page_23 : decode cX7_page 23 = .ok (.iconst 0, 1) := by decide +kernel
theorem dX7_page_24 : decode cX7_page 24 = .ok (.ireturn, 1) := by decide +kernel
theorem dX7_page_25 : decode cX7_page 25 = .ok (.aload_n 0, 1) := by decide +kernel
theorem dX7_page_26 : decode cX7_page 26 = .ok (.getfield 20, 3) := by decide +kernel
theorem dX7_page_29 : decode cX7_page 29 = .ok (.iload_n 1, 1) := by decide +kernel
theorem dX7_page_30 : decode cX7_page 30 = .ok (.iload_n 2, 1) := by decide +kernel
theorem dX7_page_31 : decode cX7_page 31 = .ok (.iload_n 3, 1) := by decide +kernel
theorem dX7_page_32 : decode cX7_page 32 = .ok (.invokevirtual 215, 3) := by decide +kernel
theorem dX7_page_35 : decode cX7_page 35 = .ok (.ireturn, 1) := by decide +kernel
theorem dX7_record_0 : decode cX7_record 0 = .ok (.aload_n 0, 1) := by decide +kernel
theorem dX7_record_1 : decode cX7_record 1 = .ok (.getfield 20, 3) := by decide +kernel
theorem dX7_record_4 : decode cX7_record 4 = .ok (.iload_n 1, 1) := by decide +kernel
theorem dX7_record_5 : decode cX7_record 5 = .ok (.iload_n 2, 1) := by decide +kernel
theorem dX7_record_6 : decode cX7_record 6 = .ok (.invokevirtual 266, 3) := by decide +kernel
theorem dX7_record_9 : decode cX7_record 9 = .ok (.istore 4, 2) := by decide +kernel
theorem dX7_record_11 : decode cX7_record 11 = .ok (.iload 4, 2) := by decide +kernel
theorem dX7_record_13 : decode cX7_record 13 = .ok (.iconst (-1), 1) := by decide +kernel
theorem dX7_record_14 : decode cX7_record 14 = .ok (.if_icmp .ne 7, 3) := by decide +kernel
theorem dX7_record_17 : decode cX7_record 17 = .ok (.ldc_w 269, 3) := by decide +kernel
theorem dX7_record_20 : decode cX7_record 20 = .ok (.ireturn, 1) := by decide +kernel
theorem dX7_record_21 : decode cX7_record 21 = .ok (.iload_n 3, 1) := by decide +kernel
theorem dX7_record_22 : decode cX7_record 22 = .ok (.tableswitch 56 0 2 #[26, 36, 46], 26) := by decide +kernel
theorem dX7_record_48 : decode cX7_record 48 = .ok (.aload_n 0, 1) := by decide +kernel
theorem dX7_record_49 : decode cX7_record 49 = .ok (.getfield 20, 3) := by decide +kernel
theorem dX7_record_52 : decode cX7_record 52 = .ok (.iload 4, 2) := by decide +kernel
theorem dX7_record_54 : decode cX7_record 54 = .ok (.invokevirtual 270, 3) := by decide +kernel
theorem dX7_record_57 : decode cX7_record 57 = .ok (.ireturn, 1) := by decide +kernel
theorem dX7_record_58 : decode cX7_record 58 = .ok (.aload_n 0, 1) := by decide +kernel
theorem dX7_record_59 : decode cX7_record 59 = .ok (.getfield 20, 3) := by decide +kernel
theorem dX7_record_62 : decode cX7_record 62 = .ok (.iload 4, 2) := by decide +kernel
theorem dX7_record_64 : decode cX7_record 64 = .ok (.invokevirtual 273, 3) := by decide +kernel
theorem dX7_record_67 : decode cX7_record 67 = .ok (.ireturn, 1) := by decide +kernel
theorem dX7_record_68 : decode cX7_record 68 = .ok (.aload_n 0, 1) := by decide +kernel
theorem dX7_record_69 : decode cX7_record 69 = .ok (.getfield 20, 3) := by decide +kernel
theorem dX7_record_72 : decode cX7_record 72 = .ok (.iload 4, 2) := by decide +kernel
theorem dX7_record_74 : decode cX7_record 74 = .ok (.invokevirtual 276, 3) := by decide +kernel
theorem dX7_record_77 : decode cX7_record 77 = .ok (.ireturn, 1) := by decide +kernel
theorem dX7_record_78 : decode cX7_record 78 = .ok (.ldc_w 269, 3) := by decide +kernel
theorem dX7_record_81 : decode cX7_record 81 = .ok (.ireturn, 1) := by decide +kernel
theorem dX7_value_0 : decode cX7_value 0 = .ok (.aload_n 0, 1) := by decide +kernel
theorem dX7_value_1 : decode cX7_value 1 = .ok (.getfield 20, 3) := by decide +kernel
theorem dX7_value_4 : decode cX7_value 4 = .ok (.aload_n 0, 1) := by decide +kernel
theorem dX7_value_5 : decode cX7_value 5 = .ok (.getfield 20, 3) := by decide +kernel
theorem dX7_value_8 : decode cX7_value 8 = .ok (.iload_n 1, 1) := by decide +kernel
theorem dX7_value_9 : decode cX7_value 9 = .ok (.iload_n 2, 1) := by decide +kernel
theorem dX7_value_10 : decode cX7_value 10 = .ok (.invokevirtual 266, 3) := by decide +kernel
theorem dX7_value_13 : decode cX7_value 13 = .ok (.invokevirtual 279, 3) := by decide +kernel
theorem dX7_value_16 : decode cX7_value 16 = .ok (.ireturn, 1) := by decide +kernel
theorem dX7_line_0 : decode cX7_line 0 = .ok (.aload_n 0, 1) := by decide +kernel
theorem dX7_line_1 : decode cX7_line 1 = .ok (.getfield 20, 3) := by decide +kernel
theorem dX7_line_4 : decode cX7_line 4 = .ok (.iload_n 1, 1) := by decide +kernel
theorem dX7_line_5 : decode cX7_line 5 = .ok (.invokevirtual 282, 3) := by decide +kernel
theorem dX7_line_8 : decode cX7_line 8 = .ok (.ifCond .ne 5, 3) := by decide +kernel
theorem dX7_line_11 : decode cX7_line 11 = .ok (.iconst (-1), 1) := by decide +kernel
theorem dX7_line_12 : decode cX7_line 12 = .ok (.ireturn, 1) := by decide +kernel
theorem dX7_line_13 : decode cX7_line 13 = .ok (.iload_n 2, 1) := by decide +kernel
theorem dX7_line_14 : decode cX7_line 14 = .ok (.tableswitch 97 0 4 #[34, 43, 52, 70, 79], 34) := by decide +kernel
theorem dX7_line_48 : decode cX7_line 48 = .ok (.aload_n 0, 1) := by decide +kernel
theorem dX7_line_49 : decode cX7_line 49 = .ok (.getfield 20, 3) := by decide +kernel
theorem dX7_line_52 : decode cX7_line 52 = .ok (.iload_n 1, 1) := by decide +kernel
theorem dX7_line_53 : decode cX7_line 53 = .ok (.invokevirtual 285, 3) := by decide +kernel
theorem dX7_line_56 : decode cX7_line 56 = .ok (.ireturn, 1) := by decide +kernel
theorem dX7_line_57 : decode cX7_line 57 = .ok (.aload_n 0, 1) := by decide +kernel
theorem dX7_line_58 : decode cX7_line 58 = .ok (.getfield 20, 3) := by decide +kernel
theorem dX7_line_61 : decode cX7_line 61 = .ok (.iload_n 1, 1) := by decide +kernel
theorem dX7_line_62 : decode cX7_line 62 = .ok (.invokevirtual 288, 3) := by decide +kernel
theorem dX7_line_65 : decode cX7_line 65 = .ok (.ireturn, 1) := by decide +kernel
theorem dX7_line_66 : decode cX7_line 66 = .ok (.iload_n 1, 1) := by decide +kernel
theorem dX7_line_67 : decode cX7_line 67 = .ok (.ifCond .ne 8, 3) := by decide +kernel
theorem dX7_line_70 : decode cX7_line 70 = .ok (.bipush (-2), 2) := by decide +kernel
theorem dX7_line_72 : decode cX7_line 72 = .ok (.goto 11, 3) := by decide +kernel
theorem dX7_line_75 : decode cX7_line 75 = .ok (.aload_n 0, 1) := by decide +kernel
theorem dX7_line_76 : decode cX7_line 76 = .ok (.getfield 20, 3) := by decide +kernel
theorem dX7_line_79 : decode cX7_line 79 = .ok (.iload_n 1, 1) := by decide +kernel
theorem dX7_line_80 : decode cX7_line 80 = .ok (.invokevirtual 291, 3) := by decide +kernel
theorem dX7_line_83 : decode cX7_line 83 = .ok (.ireturn, 1) := by decide +kernel
theorem dX7_line_84 : decode cX7_line 84 = .ok (.aload_n 0, 1) := by decide +kernel
theorem dX7_line_85 : decode cX7_line 85 = .ok (.getfield 20, 3) := by decide +kernel
theorem dX7_line_88 : decode cX7_line 88 = .ok (.iload_n 1, 1) := by decide +kernel
theorem dX7_line_89 : decode cX7_line 89 = .ok (.invokevirtual 294, 3) := by decide +kernel
theorem dX7_line_92 : decode cX7_line 92 = .ok (.ireturn, 1) := by decide +kernel
theorem dX7_line_93 : decode cX7_line 93 = .ok (.aload_n 0, 1) := by decide +kernel
theorem dX7_line_94 : decode cX7_line 94 = .ok (.getfield 20, 3) := by decide +kernel
theorem dX7_line_97 : decode cX7_line 97 = .ok (.aload_n 0, 1) := by decide +kernel
theorem dX7_line_98 : decode cX7_line 98 = .ok (.getfield 20, 3) := by decide +kernel
theorem dX7_line_101 : decode cX7_line 101 = .ok (.iload_n 1, 1) := by decide +kernel
theorem dX7_line_102 : decode cX7_line 102 = .ok (.invokevirtual 291, 3) := by decide +kernel
theorem dX7_line_105 : decode cX7_line 105 = .ok (.iconst 1, 1) := by decide +kernel
theorem dX7_line_106 : decode cX7_line 106 = .ok (.iadd, 1) := by decide +kernel
theorem dX7_line_107 : decode cX7_line 107 = .ok (.invokevirtual 297, 3) := by decide +kernel
theorem dX7_line_110 : decode cX7_line 110 = .ok (.ireturn, 1) := by decide +kernel
theorem dX7_line_111 : decode cX7_line 111 = .ok (.iconst (-1), 1) := by decide +kernel
theorem dX7_line_112 : decode cX7_line 112 = .ok (.ireturn, 1) := by decide +kernel
theorem dX7_piece_0 : decode cX7_piece 0 = .ok (.aload_n 0, 1) := by decide +kernel
theorem dX7_piece_1 : decode cX7_piece 1 = .ok (.getfield 20, 3) := by decide +kernel
theorem dX7_piece_4 : decode cX7_piece 4 = .ok (.iload_n 1, 1) := by decide +kernel
theorem dX7_piece_5 : decode cX7_piece 5 = .ok (.iload_n 2, 1) := by decide +kernel
theorem dX7_piece_6 : decode cX7_piece 6 = .ok (.invokevirtual 256, 3) := by decide +kernel
theorem dX7_piece_9 : decode cX7_piece 9 = .ok (.ireturn, 1) := by decide +kernel
theorem dX7_made_0 : decode cX7_made 0 = .ok (.aload_n 0, 1) := by decide +kernel
theorem dX7_made_1 : decode cX7_made 1 = .ok (.getfield 25, 3) := by decide +kernel
theorem dX7_made_4 : decode cX7_made 4 = .ok (.iload_n 1, 1) := by decide +kernel
theorem dX7_made_5 : decode cX7_made 5 = .ok (.invokevirtual 204, 3) := by decide +kernel
theorem dX7_made_8 : decode cX7_made 8 = .ok (.ifCond .ne 5, 3) := by decide +kernel
theorem dX7_made_11 : decode cX7_made 11 = .ok (.iconst (-1), 1) := by decide +kernel
theorem dX7_made_12 : decode cX7_made 12 = .ok (.ireturn, 1) := by decide +kernel
theorem dX7_made_13 : decode cX7_made 13 = .ok (.iload_n 2, 1) := by decide +kernel
theorem dX7_made_14 : decode cX7_made 14 = .ok (.tableswitch 149 0 7 #[46, 55, 64, 81, 90, 99, 123, 132], 46) := by decide +kernel
theorem dX7_made_60 : decode cX7_made 60 = .ok (.aload_n 0, 1) := by decide +kernel
theorem dX7_made_61 : decode cX7_made 61 = .ok (.getfield 25, 3) := by decide +kernel
theorem dX7_made_64 : decode cX7_made 64 = .ok (.iload_n 1, 1) := by decide +kernel
theorem dX7_made_65 : decode cX7_made 65 = .ok (.invokevirtual 212, 3) := by decide +kernel
theorem dX7_made_68 : decode cX7_made 68 = .ok (.ireturn, 1) := by decide +kernel
theorem dX7_made_69 : decode cX7_made 69 = .ok (.aload_n 0, 1) := by decide +kernel
theorem dX7_made_70 : decode cX7_made 70 = .ok (.getfield 25, 3) := by decide +kernel
theorem dX7_made_73 : decode cX7_made 73 = .ok (.iload_n 1, 1) := by decide +kernel
theorem dX7_made_74 : decode cX7_made 74 = .ok (.invokevirtual 300, 3) := by decide +kernel
theorem dX7_made_77 : decode cX7_made 77 = .ok (.ireturn, 1) := by decide +kernel
theorem dX7_made_78 : decode cX7_made 78 = .ok (.aload_n 0, 1) := by decide +kernel
theorem dX7_made_79 : decode cX7_made 79 = .ok (.getfield 25, 3) := by decide +kernel
theorem dX7_made_82 : decode cX7_made 82 = .ok (.iload_n 1, 1) := by decide +kernel
theorem dX7_made_83 : decode cX7_made 83 = .ok (.invokevirtual 209, 3) := by decide +kernel
theorem dX7_made_86 : decode cX7_made 86 = .ok (.ifCond .eq 7, 3) := by decide +kernel
theorem dX7_made_89 : decode cX7_made 89 = .ok (.iconst 1, 1) := by decide +kernel
theorem dX7_made_90 : decode cX7_made 90 = .ok (.goto 4, 3) := by decide +kernel
theorem dX7_made_93 : decode cX7_made 93 = .ok (.iconst 0, 1) := by decide +kernel
theorem dX7_made_94 : decode cX7_made 94 = .ok (.ireturn, 1) := by decide +kernel
theorem dX7_made_95 : decode cX7_made 95 = .ok (.aload_n 0, 1) := by decide +kernel
theorem dX7_made_96 : decode cX7_made 96 = .ok (.getfield 25, 3) := by decide +kernel
theorem dX7_made_99 : decode cX7_made 99 = .ok (.iload_n 1, 1) := by decide +kernel
theorem dX7_made_100 : decode cX7_made 100 = .ok (.invokevirtual 303, 3) := by decide +kernel
theorem dX7_made_103 : decode cX7_made 103 = .ok (.ireturn, 1) := by decide +kernel
theorem dX7_made_104 : decode cX7_made 104 = .ok (.aload_n 0, 1) := by decide +kernel
theorem dX7_made_105 : decode cX7_made 105 = .ok (.getfield 25, 3) := by decide +kernel
theorem dX7_made_108 : decode cX7_made 108 = .ok (.iload_n 1, 1) := by decide +kernel
theorem dX7_made_109 : decode cX7_made 109 = .ok (.invokevirtual 306, 3) := by decide +kernel
theorem dX7_made_112 : decode cX7_made 112 = .ok (.ireturn, 1) := by decide +kernel
theorem dX7_made_113 : decode cX7_made 113 = .ok (.aload_n 0, 1) := by decide +kernel
theorem dX7_made_114 : decode cX7_made 114 = .ok (.getfield 25, 3) := by decide +kernel
theorem dX7_made_117 : decode cX7_made 117 = .ok (.iload_n 1, 1) := by decide +kernel
theorem dX7_made_118 : decode cX7_made 118 = .ok (.aload_n 0, 1) := by decide +kernel
theorem dX7_made_119 : decode cX7_made 119 = .ok (.getfield 10, 3) := by decide +kernel
theorem dX7_made_122 : decode cX7_made 122 = .ok (.getfield 225, 3) := by decide +kernel
theorem dX7_made_125 : decode cX7_made 125 = .ok (.invokevirtual 226, 3) := by decide +kernel
theorem dX7_made_128 : decode cX7_made 128 = .ok (.ifCond .eq 7, 3) := by decide +kernel
theorem dX7_made_131 : decode cX7_made 131 = .ok (.iconst 1, 1) := by decide +kernel
theorem dX7_made_132 : decode cX7_made 132 = .ok (.goto 4, 3) := by decide +kernel
theorem dX7_made_135 : decode cX7_made 135 = .ok (.iconst 0, 1) := by decide +kernel
theorem dX7_made_136 : decode cX7_made 136 = .ok (.ireturn, 1) := by decide +kernel
theorem dX7_made_137 : decode cX7_made 137 = .ok (.aload_n 0, 1) := by decide +kernel
theorem dX7_made_138 : decode cX7_made 138 = .ok (.getfield 25, 3) := by decide +kernel
theorem dX7_made_141 : decode cX7_made 141 = .ok (.iload_n 1, 1) := by decide +kernel
theorem dX7_made_142 : decode cX7_made 142 = .ok (.invokevirtual 309, 3) := by decide +kernel
theorem dX7_made_145 : decode cX7_made 145 = .ok (.ireturn, 1) := by decide +kernel
theorem dX7_made_146 : decode cX7_made 146 = .ok (.aload_n 0, 1) := by decide +kernel
theorem dX7_made_147 : decode cX7_made 147 = .ok (.getfield 25, 3) := by decide +kernel
theorem dX7_made_150 : decode cX7_made 150 = .ok (.iload_n 1, 1) := by decide +kernel
theorem dX7_made_151 : decode cX7_made 151 = .ok (.invokevirtual 312, 3) := by decide +kernel
theorem dX7_made_154 : decode cX7_made 154 = .ok (.ifCond .eq 7, 3) := by decide +kernel
theorem dX7_made_157 : decode cX7_made 157 = .ok (.iconst 1, 1) := by decide +kernel
theorem dX7_made_158 : decode cX7_made 158 = .ok (.goto 4, 3) := by decide +kernel
theorem dX7_made_161 : decode cX7_made 161 = .ok (.iconst 0, 1) := by decide +kernel
theorem dX7_made_162 : decode cX7_made 162 = .ok (.ireturn, 1) := by decide +kernel
theorem dX7_made_163 : decode cX7_made 163 = .ok (.iconst (-1), 1) := by decide +kernel
theorem dX7_made_164 : decode cX7_made 164 = .ok (.ireturn, 1) := by decide +kernel
theorem dX7_source_0 : decode cX7_source 0 = .ok (.aload_n 0, 1) := by decide +kernel
theorem dX7_source_1 : decode cX7_source 1 = .ok (.getfield 25, 3) := by decide +kernel
theorem dX7_source_4 : decode cX7_source 4 = .ok (.iload_n 1, 1) := by decide +kernel
theorem dX7_source_5 : decode cX7_source 5 = .ok (.invokevirtual 204, 3) := by decide +kernel
theorem dX7_source_8 : decode cX7_source 8 = .ok (.ifCond .eq 14, 3) := by decide +kernel
theorem dX7_source_11 : decode cX7_source 11 = .ok (.aload_n 0, 1) := by decide +kernel
theorem dX7_source_12 : decode cX7_source 12 = .ok (.getfield 10, 3) := by decide +kernel
theorem dX7_source_15 : decode cX7_source 15 = .ok (.iload_n 2, 1) := by decide +kernel
theorem dX7_source_16 : decode cX7_source 16 = .ok (.invokevirtual 192, 3) := by decide +kernel
theorem dX7_source_19 : decode cX7_source 19 = .ok (.ifCond .ne 5, 3) := by decide +kernel
theorem dX7_source_22 : decode cX7_source 22 = .ok (.iconst (-1), 1) := by decide +kernel
theorem dX7_source_23 : decode cX7_source 23 = .ok (.ireturn, 1) := by decide +kernel
theorem dX7_source_24 : decode cX7_source 24 = .ok (.aload_n 0, 1) := by decide +kernel
theorem dX7_source_25 : decode cX7_source 25 = .ok (.getfield 25, 3) := by decide +kernel
theorem dX7_source_28 : decode cX7_source 28 = .ok (.aload_n 0, 1) := by decide +kernel
theorem dX7_source_29 : decode cX7_source 29 = .ok (.getfield 25, 3) := by decide +kernel
theorem dX7_source_32 : decode cX7_source 32 = .ok (.iload_n 1, 1) := by decide +kernel
theorem dX7_source_33 : decode cX7_source 33 = .ok (.iload_n 2, 1) := by decide +kernel
theorem dX7_source_34 : decode cX7_source 34 = .ok (.invokevirtual 229, 3) := by decide +kernel
theorem dX7_source_37 : decode cX7_source 37 = .ok (.invokevirtual 232, 3) := by decide +kernel
theorem dX7_source_40 : decode cX7_source 40 = .ok (.ireturn, 1) := by decide +kernel
theorem dX7_taken_0 : decode cX7_taken 0 = .ok (.aload_n 0, 1) := by decide +kernel
theorem dX7_taken_1 : decode cX7_taken 1 = .ok (.getfield 25, 3) := by decide +kernel
theorem dX7_taken_4 : decode cX7_taken 4 = .ok (.iload_n 1, 1) := by decide +kernel
theorem dX7_taken_5 : decode cX7_taken 5 = .ok (.invokevirtual 204, 3) := by decide +kernel
theorem dX7_taken_8 : decode cX7_taken 8 = .ok (.ifCond .eq 14, 3) := by decide +kernel
theorem dX7_taken_11 : decode cX7_taken 11 = .ok (.aload_n 0, 1) := by decide +kernel
theorem dX7_taken_12 : decode cX7_taken 12 = .ok (.getfield 10, 3) := by decide +kernel
theorem dX7_taken_15 : decode cX7_taken 15 = .ok (.iload_n 2, 1) := by decide +kernel
theorem dX7_taken_16 : decode cX7_taken 16 = .ok (.invokevirtual 192, 3) := by decide +kernel
theorem dX7_taken_19 : decode cX7_taken 19 = .ok (.ifCond .ne 5, 3) := by decide +kernel
theorem dX7_taken_22 : decode cX7_taken 22 = .ok (.iconst (-1), 1) := by decide +kernel
theorem dX7_taken_23 : decode cX7_taken 23 = .ok (.ireturn, 1) := by decide +kernel
theorem dX7_taken_24 : decode cX7_taken 24 = .ok (.aload_n 0, 1) := by decide +kernel
theorem dX7_taken_25 : decode cX7_taken 25 = .ok (.getfield 25, 3) := by decide +kernel
theorem dX7_taken_28 : decode cX7_taken 28 = .ok (.aload_n 0, 1) := by decide +kernel
theorem dX7_taken_29 : decode cX7_taken 29 = .ok (.getfield 25, 3) := by decide +kernel
theorem dX7_taken_32 : decode cX7_taken 32 = .ok (.iload_n 1, 1) := by decide +kernel
theorem dX7_taken_33 : decode cX7_taken 33 = .ok (.iload_n 2, 1) := by decide +kernel
theorem dX7_taken_34 : decode cX7_taken 34 = .ok (.invokevirtual 229, 3) := by decide +kernel
theorem dX7_taken_37 : decode cX7_taken 37 = .ok (.invokevirtual 235, 3) := by decide +kernel
theorem dX7_taken_40 : decode cX7_taken 40 = .ok (.ireturn, 1) := by decide +kernel
theorem dX7_held_0 : decode cX7_held 0 = .ok (.aload_n 0, 1) := by decide +kernel
theorem dX7_held_1 : decode cX7_held 1 = .ok (.getfield 25, 3) := by decide +kernel
theorem dX7_held_4 : decode cX7_held 4 = .ok (.aload_n 0, 1) := by decide +kernel
theorem dX7_held_5 : decode cX7_held 5 = .ok (.getfield 25, 3) := by decide +kernel
theorem dX7_held_8 : decode cX7_held 8 = .ok (.iload_n 1, 1) := by decide +kernel
theorem dX7_held_9 : decode cX7_held 9 = .ok (.iload_n 2, 1) := by decide +kernel
theorem dX7_held_10 : decode cX7_held 10 = .ok (.invokevirtual 229, 3) := by decide +kernel
theorem dX7_held_13 : decode cX7_held 13 = .ok (.invokevirtual 238, 3) := by decide +kernel
theorem dX7_held_16 : decode cX7_held 16 = .ok (.ireturn, 1) := by decide +kernel
theorem dX7_would_0 : decode cX7_would 0 = .ok (.aload_n 0, 1) := by decide +kernel
theorem dX7_would_1 : decode cX7_would 1 = .ok (.getfield 31, 3) := by decide +kernel
theorem dX7_would_4 : decode cX7_would 4 = .ok (.iload_n 1, 1) := by decide +kernel
theorem dX7_would_5 : decode cX7_would 5 = .ok (.iload_n 2, 1) := by decide +kernel
theorem dX7_would_6 : decode cX7_would 6 = .ok (.invokevirtual 247, 3) := by decide +kernel
theorem dX7_would_9 : decode cX7_would 9 = .ok (.aload_n 0, 1) := by decide +kernel
theorem dX7_would_10 : decode cX7_would 10 = .ok (.getfield 31, 3) := by decide +kernel
theorem dX7_would_13 : decode cX7_would 13 = .ok (.iload_n 3, 1) := by decide +kernel
theorem dX7_would_14 : decode cX7_would 14 = .ok (.invokevirtual 250, 3) := by decide +kernel
theorem dX7_would_17 : decode cX7_would 17 = .ok (.ireturn, 1) := by decide +kernel
theorem dX7_named_0 : decode cX7_named 0 = .ok (.aload_n 0, 1) := by decide +kernel
theorem dX7_named_1 : decode cX7_named 1 = .ok (.iload_n 1, 1) := by decide +kernel
theorem dX7_named_2 : decode cX7_named 2 = .ok (.iload_n 2, 1) := by decide +kernel
theorem dX7_named_3 : decode cX7_named 3 = .ok (.iload_n 3, 1) := by decide +kernel
theorem dX7_named_4 : decode cX7_named 4 = .ok (.invokevirtual 315, 3) := by decide +kernel
theorem dX7_named_7 : decode cX7_named 7 = .ok (.istore 5, 2) := by decide +kernel
theorem dX7_named_9 : decode cX7_named 9 = .ok (.aload_n 0, 1) := by decide +kernel
theorem dX7_named_10 : decode cX7_named 10 = .ok (.getfield 85, 3) := by decide +kernel
theorem dX7_named_13 : decode cX7_named 13 = .ok (.iconst 0, 1) := by decide +kernel
theorem dX7_named_14 : decode cX7_named 14 = .ok (.invokevirtual 318, 3) := by decide +kernel
theorem dX7_named_17 : decode cX7_named 17 = .ok (.iload 5, 2) := by decide +kernel
theorem dX7_named_19 : decode cX7_named 19 = .ok (.tableswitch 85 0 3 #[29, 43, 57, 71], 29) := by decide +kernel
theorem dX7_named_48 : decode cX7_named 48 = .ok (.aload_n 0, 1) := by decide +kernel
theorem dX7_named_49 : decode cX7_named 49 = .ok (.getfield 85, 3) := by decide +kernel
theorem dX7_named_52 : decode cX7_named 52 = .ok (.ldc_w 321, 3) := by decide +kernel
theorem dX7_named_55 : decode cX7_named 55 = .ok (.invokevirtual 323, 3) := by decide +kernel
theorem dX7_named_58 : decode cX7_named 58 = .ok (.pop, 1) := by decide +kernel
theorem dX7_named_59 : decode cX7_named 59 = .ok (.goto 95, 3) := by decide +kernel
theorem dX7_named_62 : decode cX7_named 62 = .ok (.aload_n 0, 1) := by decide +kernel
theorem dX7_named_63 : decode cX7_named 63 = .ok (.getfield 85, 3) := by decide +kernel
theorem dX7_named_66 : decode cX7_named 66 = .ok (.ldc_w 327, 3) := by decide +kernel
theorem dX7_named_69 : decode cX7_named 69 = .ok (.invokevirtual 323, 3) := by decide +kernel
theorem dX7_named_72 : decode cX7_named 72 = .ok (.pop, 1) := by decide +kernel
theorem dX7_named_73 : decode cX7_named 73 = .ok (.goto 81, 3) := by decide +kernel
theorem dX7_named_76 : decode cX7_named 76 = .ok (.aload_n 0, 1) := by decide +kernel
theorem dX7_named_77 : decode cX7_named 77 = .ok (.getfield 85, 3) := by decide +kernel
theorem dX7_named_80 : decode cX7_named 80 = .ok (.ldc_w 329, 3) := by decide +kernel
theorem dX7_named_83 : decode cX7_named 83 = .ok (.invokevirtual 323, 3) := by decide +kernel
theorem dX7_named_86 : decode cX7_named 86 = .ok (.pop, 1) := by decide +kernel
theorem dX7_named_87 : decode cX7_named 87 = .ok (.goto 67, 3) := by decide +kernel
theorem dX7_named_90 : decode cX7_named 90 = .ok (.aload_n 0, 1) := by decide +kernel
theorem dX7_named_91 : decode cX7_named 91 = .ok (.getfield 85, 3) := by decide +kernel
theorem dX7_named_94 : decode cX7_named 94 = .ok (.ldc_w 330, 3) := by decide +kernel
theorem dX7_named_97 : decode cX7_named 97 = .ok (.invokevirtual 323, 3) := by decide +kernel
theorem dX7_named_100 : decode cX7_named 100 = .ok (.pop, 1) := by decide +kernel
theorem dX7_named_101 : decode cX7_named 101 = .ok (.goto 53, 3) := by decide +kernel
theorem dX7_named_104 : decode cX7_named 104 = .ok (.aload_n 0, 1) := by decide +kernel
theorem dX7_named_105 : decode cX7_named 105 = .ok (.getfield 85, 3) := by decide +kernel
theorem dX7_named_108 : decode cX7_named 108 = .ok (.bipush 116, 2) := by decide +kernel
theorem dX7_named_110 : decode cX7_named 110 = .ok (.invokevirtual 332, 3) := by decide +kernel
theorem dX7_named_113 : decode cX7_named 113 = .ok (.pop, 1) := by decide +kernel
theorem dX7_named_114 : decode cX7_named 114 = .ok (.aload_n 0, 1) := by decide +kernel
theorem dX7_named_115 : decode cX7_named 115 = .ok (.getfield 85, 3) := by decide +kernel
theorem dX7_named_118 : decode cX7_named 118 = .ok (.aload_n 0, 1) := by decide +kernel
theorem dX7_named_119 : decode cX7_named 119 = .ok (.getfield 31, 3) := by decide +kernel
theorem dX7_named_122 : decode cX7_named 122 = .ok (.getfield 335, 3) := by decide +kernel
theorem dX7_named_125 : decode cX7_named 125 = .ok (.invokevirtual 338, 3) := by decide +kernel
theorem dX7_named_128 : decode cX7_named 128 = .ok (.pop, 1) := by decide +kernel
theorem dX7_named_129 : decode cX7_named 129 = .ok (.aload_n 0, 1) := by decide +kernel
theorem dX7_named_130 : decode cX7_named 130 = .ok (.getfield 85, 3) := by decide +kernel
theorem dX7_named_133 : decode cX7_named 133 = .ok (.bipush 112, 2) := by decide +kernel
theorem dX7_named_135 : decode cX7_named 135 = .ok (.invokevirtual 332, 3) := by decide +kernel
theorem dX7_named_138 : decode cX7_named 138 = .ok (.pop, 1) := by decide +kernel
theorem dX7_named_139 : decode cX7_named 139 = .ok (.aload_n 0, 1) := by decide +kernel
theorem dX7_named_140 : decode cX7_named 140 = .ok (.getfield 85, 3) := by decide +kernel
theorem dX7_named_143 : decode cX7_named 143 = .ok (.aload_n 0, 1) := by decide +kernel
theorem dX7_named_144 : decode cX7_named 144 = .ok (.getfield 31, 3) := by decide +kernel
theorem dX7_named_147 : decode cX7_named 147 = .ok (.getfield 341, 3) := by decide +kernel
theorem dX7_named_150 : decode cX7_named 150 = .ok (.invokevirtual 338, 3) := by decide +kernel
theorem dX7_named_153 : decode cX7_named 153 = .ok (.pop, 1) := by decide +kernel
theorem dX7_named_154 : decode cX7_named 154 = .ok (.iload 4, 2) := by decide +kernel
theorem dX7_named_156 : decode cX7_named 156 = .ok (.ifCond .lt 15, 3) := by decide +kernel
theorem dX7_named_159 : decode cX7_named 159 = .ok (.iload 4, 2) := by decide +kernel
theorem dX7_named_161 : decode cX7_named 161 = .ok (.aload_n 0, 1) := by decide +kernel
theorem dX7_named_162 : decode cX7_named 162 = .ok (.getfield 85, 3) := by decide +kernel
theorem dX7_named_165 : decode cX7_named 165 = .ok (.invokevirtual 344, 3) := by decide +kernel
theorem dX7_named_168 : decode cX7_named 168 = .ok (.if_icmp .lt 5, 3) := by decide +kernel
theorem dX7_named_171 : decode cX7_named 171 = .ok (.iconst (-1), 1) := by decide +kernel
theorem dX7_named_172 : decode cX7_named 172 = .ok (.ireturn, 1) := by decide +kernel
theorem dX7_named_173 : decode cX7_named 173 = .ok (.aload_n 0, 1) := by decide +kernel
theorem dX7_named_174 : decode cX7_named 174 = .ok (.getfield 85, 3) := by decide +kernel
theorem dX7_named_177 : decode cX7_named 177 = .ok (.iload 4, 2) := by decide +kernel
theorem dX7_named_179 : decode cX7_named 179 = .ok (.invokevirtual 347, 3) := by decide +kernel
theorem dX7_named_182 : decode cX7_named 182 = .ok (.ireturn, 1) := by decide +kernel
theorem dX7_needs_0 : decode cX7_needs 0 = .ok (.aload_n 0, 1) := by decide +kernel
theorem dX7_needs_1 : decode cX7_needs 1 = .ok (.getfield 31, 3) := by decide +kernel
theorem dX7_needs_4 : decode cX7_needs 4 = .ok (.iload_n 1, 1) := by decide +kernel
theorem dX7_needs_5 : decode cX7_needs 5 = .ok (.iload_n 2, 1) := by decide +kernel
theorem dX7_needs_6 : decode cX7_needs 6 = .ok (.invokevirtual 247, 3) := by decide +kernel
theorem dX7_needs_9 : decode cX7_needs 9 = .ok (.iload 4, 2) := by decide +kernel
theorem dX7_needs_11 : decode cX7_needs 11 = .ok (.ifCond .lt 20, 3) := by decide +kernel
theorem dX7_needs_14 : decode cX7_needs 14 = .ok (.iload 4, 2) := by decide +kernel
theorem dX7_needs_16 : decode cX7_needs 16 = .ok (.iconst 3, 1) := by decide +kernel
theorem dX7_needs_17 : decode cX7_needs 17 = .ok (.if_icmp .gt 14, 3) := by decide +kernel
theorem dX7_needs_20 : decode cX7_needs 20 = .ok (.aload_n 0, 1) := by decide +kernel
theorem dX7_needs_21 : decode cX7_needs 21 = .ok (.getfield 31, 3) := by decide +kernel
theorem dX7_needs_24 : decode cX7_needs 24 = .ok (.iload_n 3, 1) := by decide +kernel
theorem dX7_needs_25 : decode cX7_needs 25 = .ok (.invokevirtual 351, 3) := by decide +kernel
theorem dX7_needs_28 : decode cX7_needs 28 = .ok (.ifCond .ne 5, 3) := by decide +kernel
theorem dX7_needs_31 : decode cX7_needs 31 = .ok (.iconst (-1), 1) := by decide +kernel
theorem dX7_needs_32 : decode cX7_needs 32 = .ok (.ireturn, 1) := by decide +kernel
theorem dX7_needs_33 : decode cX7_needs 33 = .ok (.aload_n 0, 1) := by decide +kernel
theorem dX7_needs_34 : decode cX7_needs 34 = .ok (.getfield 31, 3) := by decide +kernel
theorem dX7_needs_37 : decode cX7_needs 37 = .ok (.iload_n 3, 1) := by decide +kernel
theorem dX7_needs_38 : decode cX7_needs 38 = .ok (.invokevirtual 354, 3) := by decide +kernel
theorem dX7_needs_41 : decode cX7_needs 41 = .ok (.istore 5, 2) := by decide +kernel
theorem dX7_needs_43 : decode cX7_needs 43 = .ok (.iload 4, 2) := by decide +kernel
theorem dX7_needs_45 : decode cX7_needs 45 = .ok (.ifCond .ne 6, 3) := by decide +kernel
theorem dX7_needs_48 : decode cX7_needs 48 = .ok (.iload 5, 2) := by decide +kernel
theorem dX7_needs_50 : decode cX7_needs 50 = .ok (.ireturn, 1) := by decide +kernel
theorem dX7_needs_51 : decode cX7_needs 51 = .ok (.iload 5, 2) := by decide +kernel
theorem dX7_needs_53 : decode cX7_needs 53 = .ok (.ifCond .ne 6, 3) := by decide +kernel
theorem dX7_needs_56 : decode cX7_needs 56 = .ok (.bipush (-2), 2) := by decide +kernel
theorem dX7_needs_58 : decode cX7_needs 58 = .ok (.ireturn, 1) := by decide +kernel
theorem dX7_needs_59 : decode cX7_needs 59 = .ok (.iload 4, 2) := by decide +kernel
theorem dX7_needs_61 : decode cX7_needs 61 = .ok (.iconst 1, 1) := by decide +kernel
theorem dX7_needs_62 : decode cX7_needs 62 = .ok (.if_icmp .ne 11, 3) := by decide +kernel
theorem dX7_needs_65 : decode cX7_needs 65 = .ok (.aload_n 0, 1) := by decide +kernel
theorem dX7_needs_66 : decode cX7_needs 66 = .ok (.getfield 31, 3) := by decide +kernel
theorem dX7_needs_69 : decode cX7_needs 69 = .ok (.getfield 357, 3) := by decide +kernel
theorem dX7_needs_72 : decode cX7_needs 72 = .ok (.ireturn, 1) := by decide +kernel
theorem dX7_needs_73 : decode cX7_needs 73 = .ok (.aload_n 0, 1) := by decide +kernel
theorem dX7_needs_74 : decode cX7_needs 74 = .ok (.getfield 20, 3) := by decide +kernel
theorem dX7_needs_77 : decode cX7_needs 77 = .ok (.iload 4, 2) := by decide +kernel
theorem dX7_needs_79 : decode cX7_needs 79 = .ok (.iconst 2, 1) := by decide +kernel
theorem dX7_needs_80 : decode cX7_needs 80 = .ok (.if_icmp .ne 13, 3) := by decide +kernel
theorem dX7_needs_83 : decode cX7_needs 83 = .ok (.aload_n 0, 1) := by decide +kernel
theorem dX7_needs_84 : decode cX7_needs 84 = .ok (.getfield 31, 3) := by decide +kernel
theorem dX7_needs_87 : decode cX7_needs 87 = .ok (.getfield 357, 3) := by decide +kernel
theorem dX7_needs_90 : decode cX7_needs 90 = .ok (.goto 4, 3) := by decide +kernel
theorem dX7_needs_93 : decode cX7_needs 93 = .ok (.iload_n 3, 1) := by decide +kernel
theorem dX7_needs_94 : decode cX7_needs 94 = .ok (.invokevirtual 297, 3) := by decide +kernel
theorem dX7_needs_97 : decode cX7_needs 97 = .ok (.ireturn, 1) := by decide +kernel
theorem dX7_best_0 : decode cX7_best 0 = .ok (.aload_n 0, 1) := by decide +kernel
theorem dX7_best_1 : decode cX7_best 1 = .ok (.getfield 20, 3) := by decide +kernel
theorem dX7_best_4 : decode cX7_best 4 = .ok (.iload_n 1, 1) := by decide +kernel
theorem dX7_best_5 : decode cX7_best 5 = .ok (.iload_n 2, 1) := by decide +kernel
theorem dX7_best_6 : decode cX7_best 6 = .ok (.invokevirtual 263, 3) := by decide +kernel
theorem dX7_best_9 : decode cX7_best 9 = .ok (.ifCond .ne 5, 3) := by decide +kernel
theorem dX7_best_12 : decode cX7_best 12 = .ok (.iconst (-1), 1) := by decide +kernel
theorem dX7_best_13 : decode cX7_best 13 = .ok (.ireturn, 1) := by decide +kernel
theorem dX7_best_14 : decode cX7_best 14 = .ok (.bipush (-2), 2) := by decide +kernel
theorem dX7_best_16 : decode cX7_best 16 = .ok (.istore_n 3, 1) := by decide +kernel
theorem dX7_best_17 : decode cX7_best 17 = .ok (.iconst 0, 1) := by decide +kernel
theorem dX7_best_18 : decode cX7_best 18 = .ok (.istore 4, 2) := by decide +kernel
theorem dX7_best_20 : decode cX7_best 20 = .ok (.iconst 0, 1) := by decide +kernel
theorem dX7_best_21 : decode cX7_best 21 = .ok (.istore 5, 2) := by decide +kernel
theorem dX7_best_23 : decode cX7_best 23 = .ok (.iload 5, 2) := by decide +kernel
theorem dX7_best_25 : decode cX7_best 25 = .ok (.aload_n 0, 1) := by decide +kernel
theorem dX7_best_26 : decode cX7_best 26 = .ok (.getfield 25, 3) := by decide +kernel
theorem dX7_best_29 : decode cX7_best 29 = .ok (.getfield 132, 3) := by decide +kernel
theorem dX7_best_32 : decode cX7_best 32 = .ok (.if_icmp .ge 60, 3) := by decide +kernel
theorem dX7_best_35 : decode cX7_best 35 = .ok (.aload_n 0, 1) := by decide +kernel
theorem dX7_best_36 : decode cX7_best 36 = .ok (.getfield 31, 3) := by decide +kernel
theorem dX7_best_39 : decode cX7_best 39 = .ok (.iload 5, 2) := by decide +kernel
theorem dX7_best_41 : decode cX7_best 41 = .ok (.iload_n 1, 1) := by decide +kernel
theorem dX7_best_42 : decode cX7_best 42 = .ok (.invokevirtual 247, 3) := by decide +kernel
theorem dX7_best_45 : decode cX7_best 45 = .ok (.aload_n 0, 1) := by decide +kernel
theorem dX7_best_46 : decode cX7_best 46 = .ok (.getfield 31, 3) := by decide +kernel
theorem dX7_best_49 : decode cX7_best 49 = .ok (.iload_n 2, 1) := by decide +kernel
theorem dX7_best_50 : decode cX7_best 50 = .ok (.invokevirtual 354, 3) := by decide +kernel
theorem dX7_best_53 : decode cX7_best 53 = .ok (.istore 6, 2) := by decide +kernel
theorem dX7_best_55 : decode cX7_best 55 = .ok (.aload_n 0, 1) := by decide +kernel
theorem dX7_best_56 : decode cX7_best 56 = .ok (.getfield 31, 3) := by decide +kernel
theorem dX7_best_59 : decode cX7_best 59 = .ok (.iload_n 2, 1) := by decide +kernel
theorem dX7_best_60 : decode cX7_best 60 = .ok (.invokevirtual 250, 3) := by decide +kernel
theorem dX7_best_63 : decode cX7_best 63 = .ok (.ifCond .ne 23, 3) := by decide +kernel
theorem dX7_best_66 : decode cX7_best 66 = .ok (.iload_n 3, 1) := by decide +kernel
theorem dX7_best_67 : decode cX7_best 67 = .ok (.bipush (-2), 2) := by decide +kernel
theorem dX7_best_69 : decode cX7_best 69 = .ok (.if_icmp .eq 10, 3) := by decide +kernel
theorem dX7_best_72 : decode cX7_best 72 = .ok (.iload 6, 2) := by decide +kernel
theorem dX7_best_74 : decode cX7_best 74 = .ok (.iload 4, 2) := by decide +kernel
theorem dX7_best_76 : decode cX7_best 76 = .ok (.if_icmp .gt 10, 3) := by decide +kernel
theorem dX7_best_79 : decode cX7_best 79 = .ok (.iload 5, 2) := by decide +kernel
theorem dX7_best_81 : decode cX7_best 81 = .ok (.istore_n 3, 1) := by decide +kernel
theorem dX7_best_82 : decode cX7_best 82 = .ok (.iload 6, 2) := by decide +kernel
theorem dX7_best_84 : decode cX7_best 84 = .ok (.istore 4, 2) := by decide +kernel
theorem dX7_best_86 : decode cX7_best 86 = .ok (.iinc 5 1, 3) := by decide +kernel
theorem dX7_best_89 : decode cX7_best 89 = .ok (.goto (-66), 3) := by decide +kernel
theorem dX7_best_92 : decode cX7_best 92 = .ok (.iload_n 3, 1) := by decide +kernel
theorem dX7_best_93 : decode cX7_best 93 = .ok (.ireturn, 1) := by decide +kernel
theorem dX7_pinned_0 : decode cX7_pinned 0 = .ok (.aload_n 0, 1) := by decide +kernel
theorem dX7_pinned_1 : decode cX7_pinned 1 = .ok (.getfield 20, 3) := by decide +kernel
theorem dX7_pinned_4 : decode cX7_pinned 4 = .ok (.iload_n 1, 1) := by decide +kernel
theorem dX7_pinned_5 : decode cX7_pinned 5 = .ok (.iload_n 2, 1) := by decide +kernel
theorem dX7_pinned_6 : decode cX7_pinned 6 = .ok (.invokevirtual 360, 3) := by decide +kernel
theorem dX7_pinned_9 : decode cX7_pinned 9 = .ok (.ifCond .ne 5, 3) := by decide +kernel
theorem dX7_pinned_12 : decode cX7_pinned 12 = .ok (.iconst (-1), 1) := by decide +kernel
theorem dX7_pinned_13 : decode cX7_pinned 13 = .ok (.ireturn, 1) := by decide +kernel
theorem dX7_pinned_14 : decode cX7_pinned 14 = .ok (.aload_n 0, 1) := by decide +kernel
theorem dX7_pinned_15 : decode cX7_pinned 15 = .ok (.getfield 20, 3) := by decide +kernel
theorem dX7_pinned_18 : decode cX7_pinned 18 = .ok (.aload_n 0, 1) := by decide +kernel
theorem dX7_pinned_19 : decode cX7_pinned 19 = .ok (.getfield 20, 3) := by decide +kernel
theorem dX7_pinned_22 : decode cX7_pinned 22 = .ok (.invokevirtual 129, 3) := by decide +kernel
theorem dX7_pinned_25 : decode cX7_pinned 25 = .ok (.iload_n 2, 1) := by decide +kernel
theorem dX7_pinned_26 : decode cX7_pinned 26 = .ok (.invokevirtual 363, 3) := by decide +kernel
theorem dX7_pinned_29 : decode cX7_pinned 29 = .ok (.iload_n 1, 1) := by decide +kernel
theorem dX7_pinned_30 : decode cX7_pinned 30 = .ok (.if_icmp .eq 5, 3) := by decide +kernel
theorem dX7_pinned_33 : decode cX7_pinned 33 = .ok (.iconst 0, 1) := by decide +kernel
theorem dX7_pinned_34 : decode cX7_pinned 34 = .ok (.ireturn, 1) := by decide +kernel
theorem dX7_pinned_35 : decode cX7_pinned 35 = .ok (.iconst 0, 1) := by decide +kernel
theorem dX7_pinned_36 : decode cX7_pinned 36 = .ok (.istore_n 3, 1) := by decide +kernel
theorem dX7_pinned_37 : decode cX7_pinned 37 = .ok (.iconst 0, 1) := by decide +kernel
theorem dX7_pinned_38 : decode cX7_pinned 38 = .ok (.istore 4, 2) := by decide +kernel
theorem dX7_pinned_40 : decode cX7_pinned 40 = .ok (.iload 4, 2) := by decide +kernel
theorem dX7_pinned_42 : decode cX7_pinned 42 = .ok (.aload_n 0, 1) := by decide +kernel
theorem dX7_pinned_43 : decode cX7_pinned 43 = .ok (.getfield 25, 3) := by decide +kernel
theorem dX7_pinned_46 : decode cX7_pinned 46 = .ok (.getfield 132, 3) := by decide +kernel
theorem dX7_pinned_49 : decode cX7_pinned 49 = .ok (.if_icmp .ge 55, 3) := by decide +kernel
theorem dX7_pinned_52 : decode cX7_pinned 52 = .ok (.aload_n 0, 1) := by decide +kernel
theorem dX7_pinned_53 : decode cX7_pinned 53 = .ok (.iload 4, 2) := by decide +kernel
theorem dX7_pinned_55 : decode cX7_pinned 55 = .ok (.invokevirtual 366, 3) := by decide +kernel
theorem dX7_pinned_58 : decode cX7_pinned 58 = .ok (.istore 5, 2) := by decide +kernel
theorem dX7_pinned_60 : decode cX7_pinned 60 = .ok (.iload 5, 2) := by decide +kernel
theorem dX7_pinned_62 : decode cX7_pinned 62 = .ok (.bipush (-2), 2) := by decide +kernel
theorem dX7_pinned_64 : decode cX7_pinned 64 = .ok (.if_icmp .eq 34, 3) := by decide +kernel
theorem dX7_pinned_67 : decode cX7_pinned 67 = .ok (.iload_n 2, 1) := by decide +kernel
theorem dX7_pinned_68 : decode cX7_pinned 68 = .ok (.iload 5, 2) := by decide +kernel
theorem dX7_pinned_70 : decode cX7_pinned 70 = .ok (.if_icmp .lt 28, 3) := by decide +kernel
theorem dX7_pinned_73 : decode cX7_pinned 73 = .ok (.iload_n 2, 1) := by decide +kernel
theorem dX7_pinned_74 : decode cX7_pinned 74 = .ok (.aload_n 0, 1) := by decide +kernel
theorem dX7_pinned_75 : decode cX7_pinned 75 = .ok (.getfield 20, 3) := by decide +kernel
theorem dX7_pinned_78 : decode cX7_pinned 78 = .ok (.aload_n 0, 1) := by decide +kernel
theorem dX7_pinned_79 : decode cX7_pinned 79 = .ok (.getfield 20, 3) := by decide +kernel
theorem dX7_pinned_82 : decode cX7_pinned 82 = .ok (.invokevirtual 123, 3) := by decide +kernel
theorem dX7_pinned_85 : decode cX7_pinned 85 = .ok (.invokevirtual 297, 3) := by decide +kernel
theorem dX7_pinned_88 : decode cX7_pinned 88 = .ok (.if_icmp .gt 10, 3) := by decide +kernel
theorem dX7_pinned_91 : decode cX7_pinned 91 = .ok (.iload_n 3, 1) := by decide +kernel
theorem dX7_pinned_92 : decode cX7_pinned 92 = .ok (.iconst 1, 1) := by decide +kernel
theorem dX7_pinned_93 : decode cX7_pinned 93 = .ok (.iload 4, 2) := by decide +kernel
theorem dX7_pinned_95 : decode cX7_pinned 95 = .ok (.ishl, 1) := by decide +kernel
theorem dX7_pinned_96 : decode cX7_pinned 96 = .ok (.ior, 1) := by decide +kernel
theorem dX7_pinned_97 : decode cX7_pinned 97 = .ok (.istore_n 3, 1) := by decide +kernel
theorem dX7_pinned_98 : decode cX7_pinned 98 = .ok (.iinc 4 1, 3) := by decide +kernel
theorem dX7_pinned_101 : decode cX7_pinned 101 = .ok (.goto (-61), 3) := by decide +kernel
theorem dX7_pinned_104 : decode cX7_pinned 104 = .ok (.iload_n 3, 1) := by decide +kernel
theorem dX7_pinned_105 : decode cX7_pinned 105 = .ok (.ireturn, 1) := by decide +kernel
theorem dX7_firstPinnedBy_0 : decode cX7_firstPinnedBy 0 = .ok (.aload_n 0, 1) := by decide +kernel
theorem dX7_firstPinnedBy_1 : decode cX7_firstPinnedBy 1 = .ok (.getfield 20, 3) := by decide +kernel
theorem dX7_firstPinnedBy_4 : decode cX7_firstPinnedBy 4 = .ok (.invokevirtual 123, 3) := by decide +kernel
theorem dX7_firstPinnedBy_7 : decode cX7_firstPinnedBy 7 = .ok (.istore_n 2, 1) := by decide +kernel
theorem dX7_firstPinnedBy_8 : decode cX7_firstPinnedBy 8 = .ok (.aload_n 0, 1) := by decide +kernel
theorem dX7_firstPinnedBy_9 : decode cX7_firstPinnedBy 9 = .ok (.getfield 31, 3) := by decide +kernel
theorem dX7_firstPinnedBy_12 : decode cX7_firstPinnedBy 12 = .ok (.iload_n 1, 1) := by decide +kernel
theorem dX7_firstPinnedBy_13 : decode cX7_firstPinnedBy 13 = .ok (.aload_n 0, 1) := by decide +kernel
theorem dX7_firstPinnedBy_14 : decode cX7_firstPinnedBy 14 = .ok (.getfield 20, 3) := by decide +kernel
theorem dX7_firstPinnedBy_17 : decode cX7_firstPinnedBy 17 = .ok (.invokevirtual 129, 3) := by decide +kernel
theorem dX7_firstPinnedBy_20 : decode cX7_firstPinnedBy 20 = .ok (.invokevirtual 247, 3) := by decide +kernel
theorem dX7_firstPinnedBy_23 : decode cX7_firstPinnedBy 23 = .ok (.aload_n 0, 1) := by decide +kernel
theorem dX7_firstPinnedBy_24 : decode cX7_firstPinnedBy 24 = .ok (.getfield 31, 3) := by decide +kernel
theorem dX7_firstPinnedBy_27 : decode cX7_firstPinnedBy 27 = .ok (.iload_n 2, 1) := by decide +kernel
theorem dX7_firstPinnedBy_28 : decode cX7_firstPinnedBy 28 = .ok (.invokevirtual 351, 3) := by decide +kernel
theorem dX7_firstPinnedBy_31 : decode cX7_firstPinnedBy 31 = .ok (.ifCond .eq 14, 3) := by decide +kernel
theorem dX7_firstPinnedBy_34 : decode cX7_firstPinnedBy 34 = .ok (.aload_n 0, 1) := by decide +kernel
theorem dX7_firstPinnedBy_35 : decode cX7_firstPinnedBy 35 = .ok (.getfield 31, 3) := by decide +kernel
theorem dX7_firstPinnedBy_38 : decode cX7_firstPinnedBy 38 = .ok (.iload_n 2, 1) := by decide +kernel
theorem dX7_firstPinnedBy_39 : decode cX7_firstPinnedBy 39 = .ok (.invokevirtual 354, 3) := by decide +kernel
theorem dX7_firstPinnedBy_42 : decode cX7_firstPinnedBy 42 = .ok (.ifCond .ne 6, 3) := by decide +kernel
theorem dX7_firstPinnedBy_45 : decode cX7_firstPinnedBy 45 = .ok (.bipush (-2), 2) := by decide +kernel
theorem dX7_firstPinnedBy_47 : decode cX7_firstPinnedBy 47 = .ok (.ireturn, 1) := by decide +kernel
theorem dX7_firstPinnedBy_48 : decode cX7_firstPinnedBy 48 = .ok (.aload_n 0, 1) := by decide +kernel
theorem dX7_firstPinnedBy_49 : decode cX7_firstPinnedBy 49 = .ok (.getfield 20, 3) := by decide +kernel
theorem dX7_firstPinnedBy_52 : decode cX7_firstPinnedBy 52 = .ok (.aload_n 0, 1) := by decide +kernel
theorem dX7_firstPinnedBy_53 : decode cX7_firstPinnedBy 53 = .ok (.getfield 31, 3) := by decide +kernel
theorem dX7_firstPinnedBy_56 : decode cX7_firstPinnedBy 56 = .ok (.getfield 357, 3) := by decide +kernel
theorem dX7_firstPinnedBy_59 : decode cX7_firstPinnedBy 59 = .ok (.invokevirtual 297, 3) := by decide +kernel
theorem dX7_firstPinnedBy_62 : decode cX7_firstPinnedBy 62 = .ok (.ireturn, 1) := by decide +kernel
theorem dX7_dirty_0 : decode cX7_dirty 0 = .ok (.aload_n 0, 1) := by decide +kernel
theorem dX7_dirty_1 : decode cX7_dirty 1 = .ok (.getfield 25, 3) := by decide +kernel
theorem dX7_dirty_4 : decode cX7_dirty 4 = .ok (.iload_n 1, 1) := by decide +kernel
theorem dX7_dirty_5 : decode cX7_dirty 5 = .ok (.invokevirtual 204, 3) := by decide +kernel
theorem dX7_dirty_8 : decode cX7_dirty 8 = .ok (.ifCond .ne 5, 3) := by decide +kernel
theorem dX7_dirty_11 : decode cX7_dirty 11 = .ok (.iconst (-1), 1) := by decide +kernel
theorem dX7_dirty_12 : decode cX7_dirty 12 = .ok (.ireturn, 1) := by decide +kernel
theorem dX7_dirty_13 : decode cX7_dirty 13 = .ok (.aload_n 0, 1) := by decide +kernel
theorem dX7_dirty_14 : decode cX7_dirty 14 = .ok (.getfield 20, 3) := by decide +kernel
theorem dX7_dirty_17 : decode cX7_dirty 17 = .ok (.invokevirtual 129, 3) := by decide +kernel
theorem dX7_dirty_20 : decode cX7_dirty 20 = .ok (.istore_n 2, 1) := by decide +kernel
theorem dX7_dirty_21 : decode cX7_dirty 21 = .ok (.iconst 0, 1) := by decide +kernel
theorem dX7_dirty_22 : decode cX7_dirty 22 = .ok (.istore_n 3, 1) := by decide +kernel
theorem dX7_dirty_23 : decode cX7_dirty 23 = .ok (.iconst 0, 1) := by decide +kernel
theorem dX7_dirty_24 : decode cX7_dirty 24 = .ok (.istore 4, 2) := by decide +kernel
theorem dX7_dirty_26 : decode cX7_dirty 26 = .ok (.iload 4, 2) := by decide +kernel
theorem dX7_dirty_28 : decode cX7_dirty 28 = .ok (.aload_n 0, 1) := by decide +kernel
theorem dX7_dirty_29 : decode cX7_dirty 29 = .ok (.getfield 10, 3) := by decide +kernel
theorem dX7_dirty_32 : decode cX7_dirty 32 = .ok (.getfield 225, 3) := by decide +kernel
theorem dX7_dirty_35 : decode cX7_dirty 35 = .ok (.if_icmp .ge 89, 3) := by decide +kernel
theorem dX7_dirty_38 : decode cX7_dirty 38 = .ok (.aload_n 0, 1) := by decide +kernel
theorem dX7_dirty_39 : decode cX7_dirty 39 = .ok (.getfield 25, 3) := by decide +kernel
theorem dX7_dirty_42 : decode cX7_dirty 42 = .ok (.iload_n 1, 1) := by decide +kernel
theorem dX7_dirty_43 : decode cX7_dirty 43 = .ok (.iload 4, 2) := by decide +kernel
theorem dX7_dirty_45 : decode cX7_dirty 45 = .ok (.invokevirtual 229, 3) := by decide +kernel
theorem dX7_dirty_48 : decode cX7_dirty 48 = .ok (.istore 5, 2) := by decide +kernel
theorem dX7_dirty_50 : decode cX7_dirty 50 = .ok (.aload_n 0, 1) := by decide +kernel
theorem dX7_dirty_51 : decode cX7_dirty 51 = .ok (.getfield 25, 3) := by decide +kernel
theorem dX7_dirty_54 : decode cX7_dirty 54 = .ok (.iload 5, 2) := by decide +kernel
theorem dX7_dirty_56 : decode cX7_dirty 56 = .ok (.invokevirtual 235, 3) := by decide +kernel
theorem dX7_dirty_59 : decode cX7_dirty 59 = .ok (.istore 6, 2) := by decide +kernel
theorem dX7_dirty_61 : decode cX7_dirty 61 = .ok (.iload 5, 2) := by decide +kernel
theorem dX7_dirty_63 : decode cX7_dirty 63 = .ok (.iconst (-1), 1) := by decide +kernel
theorem dX7_dirty_64 : decode cX7_dirty 64 = .ok (.if_icmp .eq 47, 3) := by decide +kernel
theorem dX7_dirty_67 : decode cX7_dirty 67 = .ok (.aload_n 0, 1) := by decide +kernel
theorem dX7_dirty_68 : decode cX7_dirty 68 = .ok (.getfield 20, 3) := by decide +kernel
theorem dX7_dirty_71 : decode cX7_dirty 71 = .ok (.iload_n 2, 1) := by decide +kernel
theorem dX7_dirty_72 : decode cX7_dirty 72 = .ok (.aload_n 0, 1) := by decide +kernel
theorem dX7_dirty_73 : decode cX7_dirty 73 = .ok (.getfield 25, 3) := by decide +kernel
theorem dX7_dirty_76 : decode cX7_dirty 76 = .ok (.iload 5, 2) := by decide +kernel
theorem dX7_dirty_78 : decode cX7_dirty 78 = .ok (.invokevirtual 232, 3) := by decide +kernel
theorem dX7_dirty_81 : decode cX7_dirty 81 = .ok (.iload 6, 2) := by decide +kernel
theorem dX7_dirty_83 : decode cX7_dirty 83 = .ok (.invokevirtual 369, 3) := by decide +kernel
theorem dX7_dirty_86 : decode cX7_dirty 86 = .ok (.ifCond .eq 25, 3) := by decide +kernel
theorem dX7_dirty_89 : decode cX7_dirty 89 = .ok (.aload_n 0, 1) := by decide +kernel
theorem dX7_dirty_90 : decode cX7_dirty 90 = .ok (.getfield 20, 3) := by decide +kernel
theorem dX7_dirty_93 : decode cX7_dirty 93 = .ok (.iload 4, 2) := by decide +kernel
theorem dX7_dirty_95 : decode cX7_dirty 95 = .ok (.iload_n 2, 1) := by decide +kernel
theorem dX7_dirty_96 : decode cX7_dirty 96 = .ok (.aload_n 0, 1) := by decide +kernel
theorem dX7_dirty_97 : decode cX7_dirty 97 = .ok (.getfield 20, 3) := by decide +kernel
theorem dX7_dirty_100 : decode cX7_dirty 100 = .ok (.invokevirtual 123, 3) := by decide +kernel
theorem dX7_dirty_103 : decode cX7_dirty 103 = .ok (.invokevirtual 373, 3) := by decide +kernel
theorem dX7_dirty_106 : decode cX7_dirty 106 = .ok (.iload 6, 2) := by decide +kernel
theorem dX7_dirty_108 : decode cX7_dirty 108 = .ok (.if_icmp .le 10, 3) := by decide +kernel
theorem dX7_dirty_111 : decode cX7_dirty 111 = .ok (.iload_n 3, 1) := by decide +kernel
theorem dX7_dirty_112 : decode cX7_dirty 112 = .ok (.iconst 1, 1) := by decide +kernel
theorem dX7_dirty_113 : decode cX7_dirty 113 = .ok (.iload 4, 2) := by decide +kernel
theorem dX7_dirty_115 : decode cX7_dirty 115 = .ok (.ishl, 1) := by decide +kernel
theorem dX7_dirty_116 : decode cX7_dirty 116 = .ok (.ior, 1) := by decide +kernel
theorem dX7_dirty_117 : decode cX7_dirty 117 = .ok (.istore_n 3, 1) := by decide +kernel
theorem dX7_dirty_118 : decode cX7_dirty 118 = .ok (.iinc 4 1, 3) := by decide +kernel
theorem dX7_dirty_121 : decode cX7_dirty 121 = .ok (.goto (-95), 3) := by decide +kernel
theorem dX7_dirty_124 : decode cX7_dirty 124 = .ok (.iload_n 3, 1) := by decide +kernel
theorem dX7_dirty_125 : decode cX7_dirty 125 = .ok (.ireturn, 1) := by decide +kernel
theorem dX7_common_0 : decode cX7_common 0 = .ok (.aload_n 0, 1) := by decide +kernel
theorem dX7_common_1 : decode cX7_common 1 = .ok (.getfield 20, 3) := by decide +kernel
theorem dX7_common_4 : decode cX7_common 4 = .ok (.iload_n 1, 1) := by decide +kernel
theorem dX7_common_5 : decode cX7_common 5 = .ok (.invokevirtual 282, 3) := by decide +kernel
theorem dX7_common_8 : decode cX7_common 8 = .ok (.ifCond .eq 14, 3) := by decide +kernel
theorem dX7_common_11 : decode cX7_common 11 = .ok (.aload_n 0, 1) := by decide +kernel
theorem dX7_common_12 : decode cX7_common 12 = .ok (.getfield 20, 3) := by decide +kernel
theorem dX7_common_15 : decode cX7_common 15 = .ok (.iload_n 2, 1) := by decide +kernel
theorem dX7_common_16 : decode cX7_common 16 = .ok (.invokevirtual 282, 3) := by decide +kernel
theorem dX7_common_19 : decode cX7_common 19 = .ok (.ifCond .ne 5, 3) := by decide +kernel
theorem dX7_common_22 : decode cX7_common 22 = .ok (.iconst (-1), 1) := by decide +kernel
theorem dX7_common_23 : decode cX7_common 23 = .ok (.ireturn, 1) := by decide +kernel
theorem dX7_common_24 : decode cX7_common 24 = .ok (.aload_n 0, 1) := by decide +kernel
theorem dX7_common_25 : decode cX7_common 25 = .ok (.getfield 20, 3) := by decide +kernel
theorem dX7_common_28 : decode cX7_common 28 = .ok (.iload_n 1, 1) := by decide +kernel
theorem dX7_common_29 : decode cX7_common 29 = .ok (.invokevirtual 285, 3) := by decide +kernel
theorem dX7_common_32 : decode cX7_common 32 = .ok (.aload_n 0, 1) := by decide +kernel
theorem dX7_common_33 : decode cX7_common 33 = .ok (.getfield 20, 3) := by decide +kernel
theorem dX7_common_36 : decode cX7_common 36 = .ok (.iload_n 2, 1) := by decide +kernel
theorem dX7_common_37 : decode cX7_common 37 = .ok (.invokevirtual 285, 3) := by decide +kernel
theorem dX7_common_40 : decode cX7_common 40 = .ok (.invokestatic 376, 3) := by decide +kernel
theorem dX7_common_43 : decode cX7_common 43 = .ok (.istore_n 3, 1) := by decide +kernel
theorem dX7_common_44 : decode cX7_common 44 = .ok (.iconst 0, 1) := by decide +kernel
theorem dX7_common_45 : decode cX7_common 45 = .ok (.istore 4, 2) := by decide +kernel
theorem dX7_common_47 : decode cX7_common 47 = .ok (.iload 4, 2) := by decide +kernel
theorem dX7_common_49 : decode cX7_common 49 = .ok (.iload_n 3, 1) := by decide +kernel
theorem dX7_common_50 : decode cX7_common 50 = .ok (.if_icmp .ge 36, 3) := by decide +kernel
theorem dX7_common_53 : decode cX7_common 53 = .ok (.aload_n 0, 1) := by decide +kernel
theorem dX7_common_54 : decode cX7_common 54 = .ok (.getfield 20, 3) := by decide +kernel
theorem dX7_common_57 : decode cX7_common 57 = .ok (.iload_n 1, 1) := by decide +kernel
theorem dX7_common_58 : decode cX7_common 58 = .ok (.iload 4, 2) := by decide +kernel
theorem dX7_common_60 : decode cX7_common 60 = .ok (.iconst 1, 1) := by decide +kernel
theorem dX7_common_61 : decode cX7_common 61 = .ok (.iadd, 1) := by decide +kernel
theorem dX7_common_62 : decode cX7_common 62 = .ok (.invokevirtual 266, 3) := by decide +kernel
theorem dX7_common_65 : decode cX7_common 65 = .ok (.aload_n 0, 1) := by decide +kernel
theorem dX7_common_66 : decode cX7_common 66 = .ok (.getfield 20, 3) := by decide +kernel
theorem dX7_common_69 : decode cX7_common 69 = .ok (.iload_n 2, 1) := by decide +kernel
theorem dX7_common_70 : decode cX7_common 70 = .ok (.iload 4, 2) := by decide +kernel
theorem dX7_common_72 : decode cX7_common 72 = .ok (.iconst 1, 1) := by decide +kernel
theorem dX7_common_73 : decode cX7_common 73 = .ok (.iadd, 1) := by decide +kernel
theorem dX7_common_74 : decode cX7_common 74 = .ok (.invokevirtual 266, 3) := by decide +kernel
theorem dX7_common_77 : decode cX7_common 77 = .ok (.if_icmp .ne 9, 3) := by decide +kernel
theorem dX7_common_80 : decode cX7_common 80 = .ok (.iinc 4 1, 3) := by decide +kernel
theorem dX7_common_83 : decode cX7_common 83 = .ok (.goto (-36), 3) := by decide +kernel
theorem dX7_common_86 : decode cX7_common 86 = .ok (.iload 4, 2) := by decide +kernel
theorem dX7_common_88 : decode cX7_common 88 = .ok (.ireturn, 1) := by decide +kernel
theorem dX7_gaps_0 : decode cX7_gaps 0 = .ok (.aload_n 0, 1) := by decide +kernel
theorem dX7_gaps_1 : decode cX7_gaps 1 = .ok (.getfield 20, 3) := by decide +kernel
theorem dX7_gaps_4 : decode cX7_gaps 4 = .ok (.iload_n 1, 1) := by decide +kernel
theorem dX7_gaps_5 : decode cX7_gaps 5 = .ok (.invokevirtual 282, 3) := by decide +kernel
theorem dX7_gaps_8 : decode cX7_gaps 8 = .ok (.ifCond .eq 12, 3) := by decide +kernel
theorem dX7_gaps_11 : decode cX7_gaps 11 = .ok (.iload_n 2, 1) := by decide +kernel
theorem dX7_gaps_12 : decode cX7_gaps 12 = .ok (.ifCond .lt 8, 3) := by decide +kernel
theorem dX7_gaps_15 : decode cX7_gaps 15 = .ok (.iload_n 2, 1) := by decide +kernel
theorem dX7_gaps_16 : decode cX7_gaps 16 = .ok (.iconst 1, 1) := by decide +kernel
theorem dX7_gaps_17 : decode cX7_gaps 17 = .ok (.if_icmp .le 5, 3) := by decide +kernel
theorem dX7_gaps_20 : decode cX7_gaps 20 = .ok (.iconst (-1), 1) := by decide +kernel
theorem dX7_gaps_21 : decode cX7_gaps 21 = .ok (.ireturn, 1) := by decide +kernel
theorem dX7_gaps_22 : decode cX7_gaps 22 = .ok (.iconst 0, 1) := by decide +kernel
theorem dX7_gaps_23 : decode cX7_gaps 23 = .ok (.istore_n 3, 1) := by decide +kernel
theorem dX7_gaps_24 : decode cX7_gaps 24 = .ok (.bipush (-2), 2) := by decide +kernel
theorem dX7_gaps_26 : decode cX7_gaps 26 = .ok (.istore 4, 2) := by decide +kernel
theorem dX7_gaps_28 : decode cX7_gaps 28 = .ok (.aload_n 0, 1) := by decide +kernel
theorem dX7_gaps_29 : decode cX7_gaps 29 = .ok (.getfield 20, 3) := by decide +kernel
theorem dX7_gaps_32 : decode cX7_gaps 32 = .ok (.aload_n 0, 1) := by decide +kernel
theorem dX7_gaps_33 : decode cX7_gaps 33 = .ok (.getfield 20, 3) := by decide +kernel
theorem dX7_gaps_36 : decode cX7_gaps 36 = .ok (.iload_n 1, 1) := by decide +kernel
theorem dX7_gaps_37 : decode cX7_gaps 37 = .ok (.invokevirtual 285, 3) := by decide +kernel
theorem dX7_gaps_40 : decode cX7_gaps 40 = .ok (.invokevirtual 297, 3) := by decide +kernel
theorem dX7_gaps_43 : decode cX7_gaps 43 = .ok (.istore 5, 2) := by decide +kernel
theorem dX7_gaps_45 : decode cX7_gaps 45 = .ok (.iconst 0, 1) := by decide +kernel
theorem dX7_gaps_46 : decode cX7_gaps 46 = .ok (.istore 6, 2) := by decide +kernel
theorem dX7_gaps_48 : decode cX7_gaps 48 = .ok (.iload 6, 2) := by decide +kernel
theorem dX7_gaps_50 : decode cX7_gaps 50 = .ok (.iload 5, 2) := by decide +kernel
theorem dX7_gaps_52 : decode cX7_gaps 52 = .ok (.if_icmp .gt 48, 3) := by decide +kernel
theorem dX7_gaps_55 : decode cX7_gaps 55 = .ok (.aload_n 0, 1) := by decide +kernel
theorem dX7_gaps_56 : decode cX7_gaps 56 = .ok (.getfield 20, 3) := by decide +kernel
theorem dX7_gaps_59 : decode cX7_gaps 59 = .ok (.aload_n 0, 1) := by decide +kernel
theorem dX7_gaps_60 : decode cX7_gaps 60 = .ok (.getfield 20, 3) := by decide +kernel
theorem dX7_gaps_63 : decode cX7_gaps 63 = .ok (.iload_n 1, 1) := by decide +kernel
theorem dX7_gaps_64 : decode cX7_gaps 64 = .ok (.iload 6, 2) := by decide +kernel
theorem dX7_gaps_66 : decode cX7_gaps 66 = .ok (.invokevirtual 363, 3) := by decide +kernel
theorem dX7_gaps_69 : decode cX7_gaps 69 = .ok (.iload 6, 2) := by decide +kernel
theorem dX7_gaps_71 : decode cX7_gaps 71 = .ok (.invokevirtual 381, 3) := by decide +kernel
theorem dX7_gaps_74 : decode cX7_gaps 74 = .ok (.iconst 4, 1) := by decide +kernel
theorem dX7_gaps_75 : decode cX7_gaps 75 = .ok (.if_icmp .ne 19, 3) := by decide +kernel
theorem dX7_gaps_78 : decode cX7_gaps 78 = .ok (.iload_n 3, 1) := by decide +kernel
theorem dX7_gaps_79 : decode cX7_gaps 79 = .ok (.ifCond .ne 8, 3) := by decide +kernel
theorem dX7_gaps_82 : decode cX7_gaps 82 = .ok (.iload 6, 2) := by decide +kernel
theorem dX7_gaps_84 : decode cX7_gaps 84 = .ok (.goto 5, 3) := by decide +kernel
theorem dX7_gaps_87 : decode cX7_gaps 87 = .ok (.iload 4, 2) := by decide +kernel
theorem dX7_gaps_89 : decode cX7_gaps 89 = .ok (.istore 4, 2) := by decide +kernel
theorem dX7_gaps_91 : decode cX7_gaps 91 = .ok (.iinc 3 1, 3) := by decide +kernel
theorem dX7_gaps_94 : decode cX7_gaps 94 = .ok (.iinc 6 1, 3) := by decide +kernel
theorem dX7_gaps_97 : decode cX7_gaps 97 = .ok (.goto (-49), 3) := by decide +kernel
theorem dX7_gaps_100 : decode cX7_gaps 100 = .ok (.iload_n 2, 1) := by decide +kernel
theorem dX7_gaps_101 : decode cX7_gaps 101 = .ok (.ifCond .ne 7, 3) := by decide +kernel
theorem dX7_gaps_104 : decode cX7_gaps 104 = .ok (.iload_n 3, 1) := by decide +kernel
theorem dX7_gaps_105 : decode cX7_gaps 105 = .ok (.goto 5, 3) := by decide +kernel
theorem dX7_gaps_108 : decode cX7_gaps 108 = .ok (.iload 4, 2) := by decide +kernel
theorem dX7_gaps_110 : decode cX7_gaps 110 = .ok (.ireturn, 1) := by decide +kernel
theorem dX7_stop_0 : decode cX7_stop 0 = .ok (.aload_n 0, 1) := by decide +kernel
theorem dX7_stop_1 : decode cX7_stop 1 = .ok (.getfield 20, 3) := by decide +kernel
theorem dX7_stop_4 : decode cX7_stop 4 = .ok (.iload_n 1, 1) := by decide +kernel
theorem dX7_stop_5 : decode cX7_stop 5 = .ok (.invokevirtual 282, 3) := by decide +kernel
theorem dX7_stop_8 : decode cX7_stop 8 = .ok (.ifCond .ne 5, 3) := by decide +kernel
theorem dX7_stop_11 : decode cX7_stop 11 = .ok (.iconst (-1), 1) := by decide +kernel
theorem dX7_stop_12 : decode cX7_stop 12 = .ok (.ireturn, 1) := by decide +kernel
theorem dX7_stop_13 : decode cX7_stop 13 = .ok (.aload_n 0, 1) := by decide +kernel
theorem dX7_stop_14 : decode cX7_stop 14 = .ok (.getfield 20, 3) := by decide +kernel
theorem dX7_stop_17 : decode cX7_stop 17 = .ok (.iload_n 1, 1) := by decide +kernel
theorem dX7_stop_18 : decode cX7_stop 18 = .ok (.invokevirtual 285, 3) := by decide +kernel
theorem dX7_stop_21 : decode cX7_stop 21 = .ok (.istore 4, 2) := by decide +kernel
theorem dX7_stop_23 : decode cX7_stop 23 = .ok (.iload 4, 2) := by decide +kernel
theorem dX7_stop_25 : decode cX7_stop 25 = .ok (.ifCond .le 44, 3) := by decide +kernel
theorem dX7_stop_28 : decode cX7_stop 28 = .ok (.aload_n 0, 1) := by decide +kernel
theorem dX7_stop_29 : decode cX7_stop 29 = .ok (.getfield 20, 3) := by decide +kernel
theorem dX7_stop_32 : decode cX7_stop 32 = .ok (.aload_n 0, 1) := by decide +kernel
theorem dX7_stop_33 : decode cX7_stop 33 = .ok (.getfield 20, 3) := by decide +kernel
theorem dX7_stop_36 : decode cX7_stop 36 = .ok (.iload_n 1, 1) := by decide +kernel
theorem dX7_stop_37 : decode cX7_stop 37 = .ok (.iload 4, 2) := by decide +kernel
theorem dX7_stop_39 : decode cX7_stop 39 = .ok (.invokevirtual 266, 3) := by decide +kernel
theorem dX7_stop_42 : decode cX7_stop 42 = .ok (.iload_n 2, 1) := by decide +kernel
theorem dX7_stop_43 : decode cX7_stop 43 = .ok (.invokevirtual 384, 3) := by decide +kernel
theorem dX7_stop_46 : decode cX7_stop 46 = .ok (.ifCond .eq 17, 3) := by decide +kernel
theorem dX7_stop_49 : decode cX7_stop 49 = .ok (.iload_n 3, 1) := by decide +kernel
theorem dX7_stop_50 : decode cX7_stop 50 = .ok (.ifCond .eq 8, 3) := by decide +kernel
theorem dX7_stop_53 : decode cX7_stop 53 = .ok (.iload 4, 2) := by decide +kernel
theorem dX7_stop_55 : decode cX7_stop 55 = .ok (.goto 7, 3) := by decide +kernel
theorem dX7_stop_58 : decode cX7_stop 58 = .ok (.iload 4, 2) := by decide +kernel
theorem dX7_stop_60 : decode cX7_stop 60 = .ok (.iconst 1, 1) := by decide +kernel
theorem dX7_stop_61 : decode cX7_stop 61 = .ok (.isub, 1) := by decide +kernel
theorem dX7_stop_62 : decode cX7_stop 62 = .ok (.ireturn, 1) := by decide +kernel
theorem dX7_stop_63 : decode cX7_stop 63 = .ok (.iinc 4 (-1), 3) := by decide +kernel
theorem dX7_stop_66 : decode cX7_stop 66 = .ok (.goto (-43), 3) := by decide +kernel
theorem dX7_stop_69 : decode cX7_stop 69 = .ok (.bipush (-2), 2) := by decide +kernel
theorem dX7_stop_71 : decode cX7_stop 71 = .ok (.ireturn, 1) := by decide +kernel
theorem dX7_window_0 : decode cX7_window 0 = .ok (.aload_n 0, 1) := by decide +kernel
theorem dX7_window_1 : decode cX7_window 1 = .ok (.getfield 25, 3) := by decide +kernel
theorem dX7_window_4 : decode cX7_window 4 = .ok (.iload_n 1, 1) := by decide +kernel
theorem dX7_window_5 : decode cX7_window 5 = .ok (.invokevirtual 204, 3) := by decide +kernel
theorem dX7_window_8 : decode cX7_window 8 = .ok (.ifCond .eq 23, 3) := by decide +kernel
theorem dX7_window_11 : decode cX7_window 11 = .ok (.aload_n 0, 1) := by decide +kernel
theorem dX7_window_12 : decode cX7_window 12 = .ok (.getfield 20, 3) := by decide +kernel
theorem dX7_window_15 : decode cX7_window 15 = .ok (.iload_n 2, 1) := by decide +kernel
theorem dX7_window_16 : decode cX7_window 16 = .ok (.invokevirtual 282, 3) := by decide +kernel
theorem dX7_window_19 : decode cX7_window 19 = .ok (.ifCond .eq 12, 3) := by decide +kernel
theorem dX7_window_22 : decode cX7_window 22 = .ok (.iload_n 3, 1) := by decide +kernel
theorem dX7_window_23 : decode cX7_window 23 = .ok (.ifCond .lt 8, 3) := by decide +kernel
theorem dX7_window_26 : decode cX7_window 26 = .ok (.iload_n 3, 1) := by decide +kernel
theorem dX7_window_27 : decode cX7_window 27 = .ok (.iconst 2, 1) := by decide +kernel
theorem dX7_window_28 : decode cX7_window 28 = .ok (.if_icmp .le 5, 3) := by decide +kernel
theorem dX7_window_31 : decode cX7_window 31 = .ok (.iconst (-1), 1) := by decide +kernel
theorem dX7_window_32 : decode cX7_window 32 = .ok (.ireturn, 1) := by decide +kernel
theorem dX7_window_33 : decode cX7_window 33 = .ok (.aload_n 0, 1) := by decide +kernel
theorem dX7_window_34 : decode cX7_window 34 = .ok (.getfield 31, 3) := by decide +kernel
theorem dX7_window_37 : decode cX7_window 37 = .ok (.iload_n 1, 1) := by decide +kernel
theorem dX7_window_38 : decode cX7_window 38 = .ok (.iload_n 2, 1) := by decide +kernel
theorem dX7_window_39 : decode cX7_window 39 = .ok (.invokevirtual 247, 3) := by decide +kernel
theorem dX7_window_42 : decode cX7_window 42 = .ok (.aload_n 0, 1) := by decide +kernel
theorem dX7_window_43 : decode cX7_window 43 = .ok (.getfield 31, 3) := by decide +kernel
theorem dX7_window_46 : decode cX7_window 46 = .ok (.invokevirtual 387, 3) := by decide +kernel
theorem dX7_window_49 : decode cX7_window 49 = .ok (.istore 4, 2) := by decide +kernel
theorem dX7_window_51 : decode cX7_window 51 = .ok (.iload_n 3, 1) := by decide +kernel
theorem dX7_window_52 : decode cX7_window 52 = .ok (.ifCond .ne 6, 3) := by decide +kernel
theorem dX7_window_55 : decode cX7_window 55 = .ok (.iload 4, 2) := by decide +kernel
theorem dX7_window_57 : decode cX7_window 57 = .ok (.ireturn, 1) := by decide +kernel
theorem dX7_window_58 : decode cX7_window 58 = .ok (.iload 4, 2) := by decide +kernel
theorem dX7_window_60 : decode cX7_window 60 = .ok (.ifCond .ne 6, 3) := by decide +kernel
theorem dX7_window_63 : decode cX7_window 63 = .ok (.bipush (-2), 2) := by decide +kernel
theorem dX7_window_65 : decode cX7_window 65 = .ok (.ireturn, 1) := by decide +kernel
theorem dX7_window_66 : decode cX7_window 66 = .ok (.iload_n 3, 1) := by decide +kernel
theorem dX7_window_67 : decode cX7_window 67 = .ok (.iconst 1, 1) := by decide +kernel
theorem dX7_window_68 : decode cX7_window 68 = .ok (.if_icmp .ne 13, 3) := by decide +kernel
theorem dX7_window_71 : decode cX7_window 71 = .ok (.aload_n 0, 1) := by decide +kernel
theorem dX7_window_72 : decode cX7_window 72 = .ok (.getfield 31, 3) := by decide +kernel
theorem dX7_window_75 : decode cX7_window 75 = .ok (.getfield 390, 3) := by decide +kernel
theorem dX7_window_78 : decode cX7_window 78 = .ok (.goto 10, 3) := by decide +kernel
theorem dX7_window_81 : decode cX7_window 81 = .ok (.aload_n 0, 1) := by decide +kernel
theorem dX7_window_82 : decode cX7_window 82 = .ok (.getfield 31, 3) := by decide +kernel
theorem dX7_window_85 : decode cX7_window 85 = .ok (.getfield 393, 3) := by decide +kernel
theorem dX7_window_88 : decode cX7_window 88 = .ok (.ireturn, 1) := by decide +kernel
theorem dX7_reach_0 : decode cX7_reach 0 = .ok (.aload_n 0, 1) := by decide +kernel
theorem dX7_reach_1 : decode cX7_reach 1 = .ok (.getfield 20, 3) := by decide +kernel
theorem dX7_reach_4 : decode cX7_reach 4 = .ok (.iload_n 1, 1) := by decide +kernel
theorem dX7_reach_5 : decode cX7_reach 5 = .ok (.invokevirtual 282, 3) := by decide +kernel
theorem dX7_reach_8 : decode cX7_reach 8 = .ok (.ifCond .eq 11, 3) := by decide +kernel
theorem dX7_reach_11 : decode cX7_reach 11 = .ok (.aload_n 0, 1) := by decide +kernel
theorem dX7_reach_12 : decode cX7_reach 12 = .ok (.iload_n 1, 1) := by decide +kernel
theorem dX7_reach_13 : decode cX7_reach 13 = .ok (.invokevirtual 396, 3) := by decide +kernel
theorem dX7_reach_16 : decode cX7_reach 16 = .ok (.goto 4, 3) := by decide +kernel
theorem dX7_reach_19 : decode cX7_reach 19 = .ok (.iconst (-1), 1) := by decide +kernel
theorem dX7_reach_20 : decode cX7_reach 20 = .ok (.ireturn, 1) := by decide +kernel
theorem dX7_reachOf_0 : decode cX7_reachOf 0 = .ok (.aload_n 0, 1) := by decide +kernel
theorem dX7_reachOf_1 : decode cX7_reachOf 1 = .ok (.getfield 79, 3) := by decide +kernel
theorem dX7_reachOf_4 : decode cX7_reachOf 4 = .ok (.iconst 0, 1) := by decide +kernel
theorem dX7_reachOf_5 : decode cX7_reachOf 5 = .ok (.invokestatic 399, 3) := by decide +kernel
theorem dX7_reachOf_8 : decode cX7_reachOf 8 = .ok (.iconst 0, 1) := by decide +kernel
theorem dX7_reachOf_9 : decode cX7_reachOf 9 = .ok (.istore_n 2, 1) := by decide +kernel
theorem dX7_reachOf_10 : decode cX7_reachOf 10 = .ok (.iconst 0, 1) := by decide +kernel
theorem dX7_reachOf_11 : decode cX7_reachOf 11 = .ok (.istore_n 3, 1) := by decide +kernel
theorem dX7_reachOf_12 : decode cX7_reachOf 12 = .ok (.iload_n 3, 1) := by decide +kernel
theorem dX7_reachOf_13 : decode cX7_reachOf 13 = .ok (.aload_n 0, 1) := by decide +kernel
theorem dX7_reachOf_14 : decode cX7_reachOf 14 = .ok (.getfield 25, 3) := by decide +kernel
theorem dX7_reachOf_17 : decode cX7_reachOf 17 = .ok (.getfield 132, 3) := by decide +kernel
theorem dX7_reachOf_20 : decode cX7_reachOf 20 = .ok (.if_icmp .ge 85, 3) := by decide +kernel
theorem dX7_reachOf_23 : decode cX7_reachOf 23 = .ok (.aload_n 0, 1) := by decide +kernel
theorem dX7_reachOf_24 : decode cX7_reachOf 24 = .ok (.getfield 31, 3) := by decide +kernel
theorem dX7_reachOf_27 : decode cX7_reachOf 27 = .ok (.iload_n 3, 1) := by decide +kernel
theorem dX7_reachOf_28 : decode cX7_reachOf 28 = .ok (.iload_n 1, 1) := by decide +kernel
theorem dX7_reachOf_29 : decode cX7_reachOf 29 = .ok (.invokevirtual 247, 3) := by decide +kernel
theorem dX7_reachOf_32 : decode cX7_reachOf 32 = .ok (.aload_n 0, 1) := by decide +kernel
theorem dX7_reachOf_33 : decode cX7_reachOf 33 = .ok (.getfield 31, 3) := by decide +kernel
theorem dX7_reachOf_36 : decode cX7_reachOf 36 = .ok (.getfield 390, 3) := by decide +kernel
theorem dX7_reachOf_39 : decode cX7_reachOf 39 = .ok (.iconst 0, 1) := by decide +kernel
theorem dX7_reachOf_40 : decode cX7_reachOf 40 = .ok (.invokestatic 404, 3) := by decide +kernel
theorem dX7_reachOf_43 : decode cX7_reachOf 43 = .ok (.istore 4, 2) := by decide +kernel
theorem dX7_reachOf_45 : decode cX7_reachOf 45 = .ok (.iload 4, 2) := by decide +kernel
theorem dX7_reachOf_47 : decode cX7_reachOf 47 = .ok (.aload_n 0, 1) := by decide +kernel
theorem dX7_reachOf_48 : decode cX7_reachOf 48 = .ok (.getfield 31, 3) := by decide +kernel
theorem dX7_reachOf_51 : decode cX7_reachOf 51 = .ok (.getfield 393, 3) := by decide +kernel
theorem dX7_reachOf_54 : decode cX7_reachOf 54 = .ok (.if_icmp .gt 45, 3) := by decide +kernel
theorem dX7_reachOf_57 : decode cX7_reachOf 57 = .ok (.iload 4, 2) := by decide +kernel
theorem dX7_reachOf_59 : decode cX7_reachOf 59 = .ok (.aload_n 0, 1) := by decide +kernel
theorem dX7_reachOf_60 : decode cX7_reachOf 60 = .ok (.getfield 79, 3) := by decide +kernel
theorem dX7_reachOf_63 : decode cX7_reachOf 63 = .ok (.arraylength, 1) := by decide +kernel
theorem dX7_reachOf_64 : decode cX7_reachOf 64 = .ok (.if_icmp .ge 35, 3) := by decide +kernel
theorem dX7_reachOf_67 : decode cX7_reachOf 67 = .ok (.iload_n 2, 1) := by decide +kernel
theorem dX7_reachOf_68 : decode cX7_reachOf 68 = .ok (.aload_n 0, 1) := by decide +kernel
theorem dX7_reachOf_69 : decode cX7_reachOf 69 = .ok (.getfield 79, 3) := by decide +kernel
theorem dX7_reachOf_72 : decode cX7_reachOf 72 = .ok (.iload 4, 2) := by decide +kernel
theorem dX7_reachOf_74 : decode cX7_reachOf 74 = .ok (.baload, 1) := by decide +kernel
theorem dX7_reachOf_75 : decode cX7_reachOf 75 = .ok (.ifCond .ne 7, 3) := by decide +kernel
theorem dX7_reachOf_78 : decode cX7_reachOf 78 = .ok (.iconst 1, 1) := by decide +kernel
theorem dX7_reachOf_79 : decode cX7_reachOf 79 = .ok (.goto 4, 3) := by decide +kernel
theorem dX7_reachOf_82 : decode cX7_reachOf 82 = .ok (.iconst 0, 1) := by decide +kernel
theorem dX7_reachOf_83 : decode cX7_reachOf 83 = .ok (.iadd, 1) := by decide +kernel
theorem dX7_reachOf_84 : decode cX7_reachOf 84 = .ok (.istore_n 2, 1) := by decide +kernel
theorem dX7_reachOf_85 : decode cX7_reachOf 85 = .ok (.aload_n 0, 1) := by decide +kernel
theorem dX7_reachOf_86 : decode cX7_reachOf 86 = .ok (.getfield 79, 3) := by decide +kernel
theorem dX7_reachOf_89 : decode cX7_reachOf 89 = .ok (.iload 4, 2) := by decide +kernel
theorem dX7_reachOf_91 : decode cX7_reachOf 91 = .ok (.iconst 1, 1) := by decide +kernel
theorem dX7_reachOf_92 : decode cX7_reachOf 92 = .ok (.bastore, 1) := by decide +kernel
theorem dX7_reachOf_93 : decode cX7_reachOf 93 = .ok (.iinc 4 1, 3) := by decide +kernel
theorem dX7_reachOf_96 : decode cX7_reachOf 96 = .ok (.goto (-51), 3) := by decide +kernel
theorem dX7_reachOf_99 : decode cX7_reachOf 99 = .ok (.iinc 3 1, 3) := by decide +kernel
theorem dX7_reachOf_102 : decode cX7_reachOf 102 = .ok (.goto (-90), 3) := by decide +kernel
theorem dX7_reachOf_105 : decode cX7_reachOf 105 = .ok (.iload_n 2, 1) := by decide +kernel
theorem dX7_reachOf_106 : decode cX7_reachOf 106 = .ok (.ireturn, 1) := by decide +kernel
theorem dX7_spare_0 : decode cX7_spare 0 = .ok (.bipush 120, 2) := by decide +kernel
theorem dX7_spare_2 : decode cX7_spare 2 = .ok (.istore_n 1, 1) := by decide +kernel
theorem dX7_spare_3 : decode cX7_spare 3 = .ok (.iconst 0, 1) := by decide +kernel
theorem dX7_spare_4 : decode cX7_spare 4 = .ok (.istore_n 2, 1) := by decide +kernel
theorem dX7_spare_5 : decode cX7_spare 5 = .ok (.iload_n 2, 1) := by decide +kernel
theorem dX7_spare_6 : decode cX7_spare 6 = .ok (.aload_n 0, 1) := by decide +kernel
theorem dX7_spare_7 : decode cX7_spare 7 = .ok (.getfield 25, 3) := by decide +kernel
theorem dX7_spare_10 : decode cX7_spare 10 = .ok (.getfield 132, 3) := by decide +kernel
theorem dX7_spare_13 : decode cX7_spare 13 = .ok (.if_icmp .ge 31, 3) := by decide +kernel
theorem dX7_spare_16 : decode cX7_spare 16 = .ok (.aload_n 0, 1) := by decide +kernel
theorem dX7_spare_17 : decode cX7_spare 17 = .ok (.iload_n 2, 1) := by decide +kernel
theorem dX7_spare_18 : decode cX7_spare 18 = .ok (.invokevirtual 366, 3) := by decide +kernel
theorem dX7_spare_21 : decode cX7_spare 21 = .ok (.istore_n 3, 1) := by decide +kernel
theorem dX7_spare_22 : decode cX7_spare 22 = .ok (.iload_n 3, 1) := by decide +kernel
theorem dX7_spare_23 : decode cX7_spare 23 = .ok (.bipush (-2), 2) := by decide +kernel
theorem dX7_spare_25 : decode cX7_spare 25 = .ok (.if_icmp .ne 7, 3) := by decide +kernel
theorem dX7_spare_28 : decode cX7_spare 28 = .ok (.iload_n 1, 1) := by decide +kernel
theorem dX7_spare_29 : decode cX7_spare 29 = .ok (.goto 8, 3) := by decide +kernel
theorem dX7_spare_32 : decode cX7_spare 32 = .ok (.iload_n 1, 1) := by decide +kernel
theorem dX7_spare_33 : decode cX7_spare 33 = .ok (.iload_n 3, 1) := by decide +kernel
theorem dX7_spare_34 : decode cX7_spare 34 = .ok (.invokestatic 376, 3) := by decide +kernel
theorem dX7_spare_37 : decode cX7_spare 37 = .ok (.istore_n 1, 1) := by decide +kernel
theorem dX7_spare_38 : decode cX7_spare 38 = .ok (.iinc 2 1, 3) := by decide +kernel
theorem dX7_spare_41 : decode cX7_spare 41 = .ok (.goto (-36), 3) := by decide +kernel
theorem dX7_spare_44 : decode cX7_spare 44 = .ok (.iconst 0, 1) := by decide +kernel
theorem dX7_spare_45 : decode cX7_spare 45 = .ok (.istore_n 2, 1) := by decide +kernel
theorem dX7_spare_46 : decode cX7_spare 46 = .ok (.aload_n 0, 1) := by decide +kernel
theorem dX7_spare_47 : decode cX7_spare 47 = .ok (.getfield 20, 3) := by decide +kernel
theorem dX7_spare_50 : decode cX7_spare 50 = .ok (.invokevirtual 129, 3) := by decide +kernel
theorem dX7_spare_53 : decode cX7_spare 53 = .ok (.istore_n 3, 1) := by decide +kernel
theorem dX7_spare_54 : decode cX7_spare 54 = .ok (.aload_n 0, 1) := by decide +kernel
theorem dX7_spare_55 : decode cX7_spare 55 = .ok (.getfield 20, 3) := by decide +kernel
theorem dX7_spare_58 : decode cX7_spare 58 = .ok (.aload_n 0, 1) := by decide +kernel
theorem dX7_spare_59 : decode cX7_spare 59 = .ok (.getfield 20, 3) := by decide +kernel
theorem dX7_spare_62 : decode cX7_spare 62 = .ok (.invokevirtual 123, 3) := by decide +kernel
theorem dX7_spare_65 : decode cX7_spare 65 = .ok (.invokevirtual 297, 3) := by decide +kernel
theorem dX7_spare_68 : decode cX7_spare 68 = .ok (.istore 4, 2) := by decide +kernel
theorem dX7_spare_70 : decode cX7_spare 70 = .ok (.iload_n 1, 1) := by decide +kernel
theorem dX7_spare_71 : decode cX7_spare 71 = .ok (.istore 5, 2) := by decide +kernel
theorem dX7_spare_73 : decode cX7_spare 73 = .ok (.iload 5, 2) := by decide +kernel
theorem dX7_spare_75 : decode cX7_spare 75 = .ok (.iload 4, 2) := by decide +kernel
theorem dX7_spare_77 : decode cX7_spare 77 = .ok (.if_icmp .gt 40, 3) := by decide +kernel
theorem dX7_spare_80 : decode cX7_spare 80 = .ok (.iload_n 2, 1) := by decide +kernel
theorem dX7_spare_81 : decode cX7_spare 81 = .ok (.aload_n 0, 1) := by decide +kernel
theorem dX7_spare_82 : decode cX7_spare 82 = .ok (.getfield 20, 3) := by decide +kernel
theorem dX7_spare_85 : decode cX7_spare 85 = .ok (.aload_n 0, 1) := by decide +kernel
theorem dX7_spare_86 : decode cX7_spare 86 = .ok (.getfield 20, 3) := by decide +kernel
theorem dX7_spare_89 : decode cX7_spare 89 = .ok (.iload_n 3, 1) := by decide +kernel
theorem dX7_spare_90 : decode cX7_spare 90 = .ok (.iload 5, 2) := by decide +kernel
theorem dX7_spare_92 : decode cX7_spare 92 = .ok (.invokevirtual 363, 3) := by decide +kernel
theorem dX7_spare_95 : decode cX7_spare 95 = .ok (.iload 5, 2) := by decide +kernel
theorem dX7_spare_97 : decode cX7_spare 97 = .ok (.invokevirtual 256, 3) := by decide +kernel
theorem dX7_spare_100 : decode cX7_spare 100 = .ok (.iconst 1, 1) := by decide +kernel
theorem dX7_spare_101 : decode cX7_spare 101 = .ok (.if_icmp .lt 7, 3) := by decide +kernel
theorem dX7_spare_104 : decode cX7_spare 104 = .ok (.iconst 1, 1) := by decide +kernel
theorem dX7_spare_105 : decode cX7_spare 105 = .ok (.goto 4, 3) := by decide +kernel
theorem dX7_spare_108 : decode cX7_spare 108 = .ok (.iconst 0, 1) := by decide +kernel
theorem dX7_spare_109 : decode cX7_spare 109 = .ok (.iadd, 1) := by decide +kernel
theorem dX7_spare_110 : decode cX7_spare 110 = .ok (.istore_n 2, 1) := by decide +kernel
theorem dX7_spare_111 : decode cX7_spare 111 = .ok (.iinc 5 1, 3) := by decide +kernel
theorem dX7_spare_114 : decode cX7_spare 114 = .ok (.goto (-41), 3) := by decide +kernel
theorem dX7_spare_117 : decode cX7_spare 117 = .ok (.aload_n 0, 1) := by decide +kernel
theorem dX7_spare_118 : decode cX7_spare 118 = .ok (.getfield 20, 3) := by decide +kernel
theorem dX7_spare_121 : decode cX7_spare 121 = .ok (.invokevirtual 407, 3) := by decide +kernel
theorem dX7_spare_124 : decode cX7_spare 124 = .ok (.iload_n 2, 1) := by decide +kernel
theorem dX7_spare_125 : decode cX7_spare 125 = .ok (.isub, 1) := by decide +kernel
theorem dX7_spare_126 : decode cX7_spare 126 = .ok (.ireturn, 1) := by decide +kernel
theorem dX7_hurts_0 : decode cX7_hurts 0 = .ok (.aload_n 0, 1) := by decide +kernel
theorem dX7_hurts_1 : decode cX7_hurts 1 = .ok (.getfield 20, 3) := by decide +kernel
theorem dX7_hurts_4 : decode cX7_hurts 4 = .ok (.iload_n 1, 1) := by decide +kernel
theorem dX7_hurts_5 : decode cX7_hurts 5 = .ok (.iload_n 2, 1) := by decide +kernel
theorem dX7_hurts_6 : decode cX7_hurts 6 = .ok (.invokevirtual 256, 3) := by decide +kernel
theorem dX7_hurts_9 : decode cX7_hurts 9 = .ok (.istore_n 3, 1) := by decide +kernel
theorem dX7_hurts_10 : decode cX7_hurts 10 = .ok (.iload_n 3, 1) := by decide +kernel
theorem dX7_hurts_11 : decode cX7_hurts 11 = .ok (.iconst 1, 1) := by decide +kernel
theorem dX7_hurts_12 : decode cX7_hurts 12 = .ok (.if_icmp .ge 5, 3) := by decide +kernel
theorem dX7_hurts_15 : decode cX7_hurts 15 = .ok (.iconst (-1), 1) := by decide +kernel
theorem dX7_hurts_16 : decode cX7_hurts 16 = .ok (.ireturn, 1) := by decide +kernel
theorem dX7_hurts_17 : decode cX7_hurts 17 = .ok (.aload_n 0, 1) := by decide +kernel
theorem dX7_hurts_18 : decode cX7_hurts 18 = .ok (.getfield 20, 3) := by decide +kernel
theorem dX7_hurts_21 : decode cX7_hurts 21 = .ok (.invokevirtual 129, 3) := by decide +kernel
theorem dX7_hurts_24 : decode cX7_hurts 24 = .ok (.istore 4, 2) := by decide +kernel
theorem dX7_hurts_26 : decode cX7_hurts 26 = .ok (.aload_n 0, 1) := by decide +kernel
theorem dX7_hurts_27 : decode cX7_hurts 27 = .ok (.iload 4, 2) := by decide +kernel
theorem dX7_hurts_29 : decode cX7_hurts 29 = .ok (.invokevirtual 396, 3) := by decide +kernel
theorem dX7_hurts_32 : decode cX7_hurts 32 = .ok (.istore 5, 2) := by decide +kernel
theorem dX7_hurts_34 : decode cX7_hurts 34 = .ok (.aload_n 0, 1) := by decide +kernel
theorem dX7_hurts_35 : decode cX7_hurts 35 = .ok (.getfield 20, 3) := by decide +kernel
theorem dX7_hurts_38 : decode cX7_hurts 38 = .ok (.iload_n 1, 1) := by decide +kernel
theorem dX7_hurts_39 : decode cX7_hurts 39 = .ok (.iload_n 2, 1) := by decide +kernel
theorem dX7_hurts_40 : decode cX7_hurts 40 = .ok (.iconst 0, 1) := by decide +kernel
theorem dX7_hurts_41 : decode cX7_hurts 41 = .ok (.invokevirtual 259, 3) := by decide +kernel
theorem dX7_hurts_44 : decode cX7_hurts 44 = .ok (.aload_n 0, 1) := by decide +kernel
theorem dX7_hurts_45 : decode cX7_hurts 45 = .ok (.iload 4, 2) := by decide +kernel
theorem dX7_hurts_47 : decode cX7_hurts 47 = .ok (.invokevirtual 396, 3) := by decide +kernel
theorem dX7_hurts_50 : decode cX7_hurts 50 = .ok (.istore 6, 2) := by decide +kernel
theorem dX7_hurts_52 : decode cX7_hurts 52 = .ok (.aload_n 0, 1) := by decide +kernel
theorem dX7_hurts_53 : decode cX7_hurts 53 = .ok (.getfield 20, 3) := by decide +kernel
theorem dX7_hurts_56 : decode cX7_hurts 56 = .ok (.iload_n 1, 1) := by decide +kernel
theorem dX7_hurts_57 : decode cX7_hurts 57 = .ok (.iload_n 2, 1) := by decide +kernel
theorem dX7_hurts_58 : decode cX7_hurts 58 = .ok (.iload_n 3, 1) := by decide +kernel
theorem dX7_hurts_59 : decode cX7_hurts 59 = .ok (.invokevirtual 259, 3) := by decide +kernel
theorem dX7_hurts_62 : decode cX7_hurts 62 = .ok (.iload 5, 2) := by decide +kernel
theorem dX7_hurts_64 : decode cX7_hurts 64 = .ok (.iload 6, 2) := by decide +kernel
theorem dX7_hurts_66 : decode cX7_hurts 66 = .ok (.isub, 1) := by decide +kernel
theorem dX7_hurts_67 : decode cX7_hurts 67 = .ok (.ireturn, 1) := by decide +kernel
theorem dX7_newest_0 : decode cX7_newest 0 = .ok (.aload_n 0, 1) := by decide +kernel
theorem dX7_newest_1 : decode cX7_newest 1 = .ok (.getfield 20, 3) := by decide +kernel
theorem dX7_newest_4 : decode cX7_newest 4 = .ok (.iload_n 1, 1) := by decide +kernel
theorem dX7_newest_5 : decode cX7_newest 5 = .ok (.invokevirtual 282, 3) := by decide +kernel
theorem dX7_newest_8 : decode cX7_newest 8 = .ok (.ifCond .ne 5, 3) := by decide +kernel
theorem dX7_newest_11 : decode cX7_newest 11 = .ok (.iconst (-1), 1) := by decide +kernel
theorem dX7_newest_12 : decode cX7_newest 12 = .ok (.ireturn, 1) := by decide +kernel
theorem dX7_newest_13 : decode cX7_newest 13 = .ok (.bipush (-2), 2) := by decide +kernel
theorem dX7_newest_15 : decode cX7_newest 15 = .ok (.istore_n 2, 1) := by decide +kernel
theorem dX7_newest_16 : decode cX7_newest 16 = .ok (.iconst 0, 1) := by decide +kernel
theorem dX7_newest_17 : decode cX7_newest 17 = .ok (.istore_n 3, 1) := by decide +kernel
theorem dX7_newest_18 : decode cX7_newest 18 = .ok (.iload_n 3, 1) := by decide +kernel
theorem dX7_newest_19 : decode cX7_newest 19 = .ok (.aload_n 0, 1) := by decide +kernel
theorem dX7_newest_20 : decode cX7_newest 20 = .ok (.getfield 25, 3) := by decide +kernel
theorem dX7_newest_23 : decode cX7_newest 23 = .ok (.getfield 132, 3) := by decide +kernel
theorem dX7_newest_26 : decode cX7_newest 26 = .ok (.if_icmp .ge 40, 3) := by decide +kernel
theorem dX7_newest_29 : decode cX7_newest 29 = .ok (.aload_n 0, 1) := by decide +kernel
theorem dX7_newest_30 : decode cX7_newest 30 = .ok (.getfield 31, 3) := by decide +kernel
theorem dX7_newest_33 : decode cX7_newest 33 = .ok (.iload_n 3, 1) := by decide +kernel
theorem dX7_newest_34 : decode cX7_newest 34 = .ok (.iload_n 1, 1) := by decide +kernel
theorem dX7_newest_35 : decode cX7_newest 35 = .ok (.invokevirtual 247, 3) := by decide +kernel
theorem dX7_newest_38 : decode cX7_newest 38 = .ok (.aload_n 0, 1) := by decide +kernel
theorem dX7_newest_39 : decode cX7_newest 39 = .ok (.getfield 31, 3) := by decide +kernel
theorem dX7_newest_42 : decode cX7_newest 42 = .ok (.invokevirtual 387, 3) := by decide +kernel
theorem dX7_newest_45 : decode cX7_newest 45 = .ok (.ifCond .le 15, 3) := by decide +kernel
theorem dX7_newest_48 : decode cX7_newest 48 = .ok (.iload_n 2, 1) := by decide +kernel
theorem dX7_newest_49 : decode cX7_newest 49 = .ok (.aload_n 0, 1) := by decide +kernel
theorem dX7_newest_50 : decode cX7_newest 50 = .ok (.getfield 31, 3) := by decide +kernel
theorem dX7_newest_53 : decode cX7_newest 53 = .ok (.getfield 393, 3) := by decide +kernel
theorem dX7_newest_56 : decode cX7_newest 56 = .ok (.invokestatic 404, 3) := by decide +kernel
theorem dX7_newest_59 : decode cX7_newest 59 = .ok (.istore_n 2, 1) := by decide +kernel
theorem dX7_newest_60 : decode cX7_newest 60 = .ok (.iinc 3 1, 3) := by decide +kernel
theorem dX7_newest_63 : decode cX7_newest 63 = .ok (.goto (-45), 3) := by decide +kernel
theorem dX7_newest_66 : decode cX7_newest 66 = .ok (.iload_n 2, 1) := by decide +kernel
theorem dX7_newest_67 : decode cX7_newest 67 = .ok (.ireturn, 1) := by decide +kernel
theorem dX7_age_0 : decode cX7_age 0 = .ok (.aload_n 0, 1) := by decide +kernel
theorem dX7_age_1 : decode cX7_age 1 = .ok (.getfield 25, 3) := by decide +kernel
theorem dX7_age_4 : decode cX7_age 4 = .ok (.iload_n 1, 1) := by decide +kernel
theorem dX7_age_5 : decode cX7_age 5 = .ok (.aload_n 0, 1) := by decide +kernel
theorem dX7_age_6 : decode cX7_age 6 = .ok (.getfield 10, 3) := by decide +kernel
theorem dX7_age_9 : decode cX7_age 9 = .ok (.getfield 225, 3) := by decide +kernel
theorem dX7_age_12 : decode cX7_age 12 = .ok (.invokevirtual 226, 3) := by decide +kernel
theorem dX7_age_15 : decode cX7_age 15 = .ok (.ifCond .ne 7, 3) := by decide +kernel
theorem dX7_age_18 : decode cX7_age 18 = .ok (.sipush (-1000), 3) := by decide +kernel
theorem dX7_age_21 : decode cX7_age 21 = .ok (.ireturn, 1) := by decide +kernel
theorem dX7_age_22 : decode cX7_age 22 = .ok (.iconst 0, 1) := by decide +kernel
theorem dX7_age_23 : decode cX7_age 23 = .ok (.istore_n 2, 1) := by decide +kernel
theorem dX7_age_24 : decode cX7_age 24 = .ok (.iconst 0, 1) := by decide +kernel
theorem dX7_age_25 : decode cX7_age 25 = .ok (.istore_n 3, 1) := by decide +kernel
theorem dX7_age_26 : decode cX7_age 26 = .ok (.iload_n 3, 1) := by decide +kernel
theorem dX7_age_27 : decode cX7_age 27 = .ok (.aload_n 0, 1) := by decide +kernel
theorem dX7_age_28 : decode cX7_age 28 = .ok (.getfield 10, 3) := by decide +kernel
theorem dX7_age_31 : decode cX7_age 31 = .ok (.getfield 225, 3) := by decide +kernel
theorem dX7_age_34 : decode cX7_age 34 = .ok (.if_icmp .ge 30, 3) := by decide +kernel
theorem dX7_age_37 : decode cX7_age 37 = .ok (.iload_n 2, 1) := by decide +kernel
theorem dX7_age_38 : decode cX7_age 38 = .ok (.aload_n 0, 1) := by decide +kernel
theorem dX7_age_39 : decode cX7_age 39 = .ok (.getfield 25, 3) := by decide +kernel
theorem dX7_age_42 : decode cX7_age 42 = .ok (.aload_n 0, 1) := by decide +kernel
theorem dX7_age_43 : decode cX7_age 43 = .ok (.getfield 25, 3) := by decide +kernel
theorem dX7_age_46 : decode cX7_age 46 = .ok (.iload_n 1, 1) := by decide +kernel
theorem dX7_age_47 : decode cX7_age 47 = .ok (.iload_n 3, 1) := by decide +kernel
theorem dX7_age_48 : decode cX7_age 48 = .ok (.invokevirtual 229, 3) := by decide +kernel
theorem dX7_age_51 : decode cX7_age 51 = .ok (.invokevirtual 235, 3) := by decide +kernel
theorem dX7_age_54 : decode cX7_age 54 = .ok (.invokestatic 404, 3) := by decide +kernel
theorem dX7_age_57 : decode cX7_age 57 = .ok (.istore_n 2, 1) := by decide +kernel
theorem dX7_age_58 : decode cX7_age 58 = .ok (.iinc 3 1, 3) := by decide +kernel
theorem dX7_age_61 : decode cX7_age 61 = .ok (.goto (-35), 3) := by decide +kernel
theorem dX7_age_64 : decode cX7_age 64 = .ok (.aload_n 0, 1) := by decide +kernel
theorem dX7_age_65 : decode cX7_age 65 = .ok (.getfield 20, 3) := by decide +kernel
theorem dX7_age_68 : decode cX7_age 68 = .ok (.invokevirtual 123, 3) := by decide +kernel
theorem dX7_age_71 : decode cX7_age 71 = .ok (.iload_n 2, 1) := by decide +kernel
theorem dX7_age_72 : decode cX7_age 72 = .ok (.isub, 1) := by decide +kernel
theorem dX7_age_73 : decode cX7_age 73 = .ok (.ireturn, 1) := by decide +kernel
theorem dX7_work_0 : decode cX7_work 0 = .ok (.aload_n 0, 1) := by decide +kernel
theorem dX7_work_1 : decode cX7_work 1 = .ok (.getfield 31, 3) := by decide +kernel
theorem dX7_work_4 : decode cX7_work 4 = .ok (.iload_n 1, 1) := by decide +kernel
theorem dX7_work_5 : decode cX7_work 5 = .ok (.iload_n 2, 1) := by decide +kernel
theorem dX7_work_6 : decode cX7_work 6 = .ok (.invokevirtual 247, 3) := by decide +kernel
theorem dX7_work_9 : decode cX7_work 9 = .ok (.aload_n 0, 1) := by decide +kernel
theorem dX7_work_10 : decode cX7_work 10 = .ok (.getfield 31, 3) := by decide +kernel
theorem dX7_work_13 : decode cX7_work 13 = .ok (.iload_n 3, 1) := by decide +kernel
theorem dX7_work_14 : decode cX7_work 14 = .ok (.invokevirtual 351, 3) := by decide +kernel
theorem dX7_work_17 : decode cX7_work 17 = .ok (.ifCond .eq 14, 3) := by decide +kernel
theorem dX7_work_20 : decode cX7_work 20 = .ok (.aload_n 0, 1) := by decide +kernel
theorem dX7_work_21 : decode cX7_work 21 = .ok (.getfield 31, 3) := by decide +kernel
theorem dX7_work_24 : decode cX7_work 24 = .ok (.iload_n 3, 1) := by decide +kernel
theorem dX7_work_25 : decode cX7_work 25 = .ok (.invokevirtual 410, 3) := by decide +kernel
theorem dX7_work_28 : decode cX7_work 28 = .ok (.goto 4, 3) := by decide +kernel
theorem dX7_work_31 : decode cX7_work 31 = .ok (.iconst (-1), 1) := by decide +kernel
theorem dX7_work_32 : decode cX7_work 32 = .ok (.ireturn, 1) := by decide +kernel
theorem dX7_differ_0 : decode cX7_differ 0 = .ok (.aload_n 0, 1) := by decide +kernel
theorem dX7_differ_1 : decode cX7_differ 1 = .ok (.getfield 20, 3) := by decide +kernel
theorem dX7_differ_4 : decode cX7_differ 4 = .ok (.iload_n 1, 1) := by decide +kernel
theorem dX7_differ_5 : decode cX7_differ 5 = .ok (.iload_n 2, 1) := by decide +kernel
theorem dX7_differ_6 : decode cX7_differ 6 = .ok (.invokevirtual 263, 3) := by decide +kernel
theorem dX7_differ_9 : decode cX7_differ 9 = .ok (.ifCond .eq 16, 3) := by decide +kernel
theorem dX7_differ_12 : decode cX7_differ 12 = .ok (.aload_n 0, 1) := by decide +kernel
theorem dX7_differ_13 : decode cX7_differ 13 = .ok (.getfield 20, 3) := by decide +kernel
theorem dX7_differ_16 : decode cX7_differ 16 = .ok (.iload_n 3, 1) := by decide +kernel
theorem dX7_differ_17 : decode cX7_differ 17 = .ok (.iload 4, 2) := by decide +kernel
theorem dX7_differ_19 : decode cX7_differ 19 = .ok (.invokevirtual 263, 3) := by decide +kernel
theorem dX7_differ_22 : decode cX7_differ 22 = .ok (.ifCond .ne 5, 3) := by decide +kernel
theorem dX7_differ_25 : decode cX7_differ 25 = .ok (.iconst (-1), 1) := by decide +kernel
theorem dX7_differ_26 : decode cX7_differ 26 = .ok (.ireturn, 1) := by decide +kernel
theorem dX7_differ_27 : decode cX7_differ 27 = .ok (.iconst 0, 1) := by decide +kernel
theorem dX7_differ_28 : decode cX7_differ 28 = .ok (.istore 5, 2) := by decide +kernel
theorem dX7_differ_30 : decode cX7_differ 30 = .ok (.iconst 0, 1) := by decide +kernel
theorem dX7_differ_31 : decode cX7_differ 31 = .ok (.istore 6, 2) := by decide +kernel
theorem dX7_differ_33 : decode cX7_differ 33 = .ok (.iload 6, 2) := by decide +kernel
theorem dX7_differ_35 : decode cX7_differ 35 = .ok (.aload_n 0, 1) := by decide +kernel
theorem dX7_differ_36 : decode cX7_differ 36 = .ok (.getfield 10, 3) := by decide +kernel
theorem dX7_differ_39 : decode cX7_differ 39 = .ok (.getfield 225, 3) := by decide +kernel
theorem dX7_differ_42 : decode cX7_differ 42 = .ok (.if_icmp .ge 44, 3) := by decide +kernel
theorem dX7_differ_45 : decode cX7_differ 45 = .ok (.aload_n 0, 1) := by decide +kernel
theorem dX7_differ_46 : decode cX7_differ 46 = .ok (.getfield 20, 3) := by decide +kernel
theorem dX7_differ_49 : decode cX7_differ 49 = .ok (.iload 6, 2) := by decide +kernel
theorem dX7_differ_51 : decode cX7_differ 51 = .ok (.iload_n 1, 1) := by decide +kernel
theorem dX7_differ_52 : decode cX7_differ 52 = .ok (.iload_n 2, 1) := by decide +kernel
theorem dX7_differ_53 : decode cX7_differ 53 = .ok (.invokevirtual 215, 3) := by decide +kernel
theorem dX7_differ_56 : decode cX7_differ 56 = .ok (.aload_n 0, 1) := by decide +kernel
theorem dX7_differ_57 : decode cX7_differ 57 = .ok (.getfield 20, 3) := by decide +kernel
theorem dX7_differ_60 : decode cX7_differ 60 = .ok (.iload 6, 2) := by decide +kernel
theorem dX7_differ_62 : decode cX7_differ 62 = .ok (.iload_n 3, 1) := by decide +kernel
theorem dX7_differ_63 : decode cX7_differ 63 = .ok (.iload 4, 2) := by decide +kernel
theorem dX7_differ_65 : decode cX7_differ 65 = .ok (.invokevirtual 215, 3) := by decide +kernel
theorem dX7_differ_68 : decode cX7_differ 68 = .ok (.if_icmp .eq 12, 3) := by decide +kernel
theorem dX7_differ_71 : decode cX7_differ 71 = .ok (.iload 5, 2) := by decide +kernel
theorem dX7_differ_73 : decode cX7_differ 73 = .ok (.iconst 1, 1) := by decide +kernel
theorem dX7_differ_74 : decode cX7_differ 74 = .ok (.iload 6, 2) := by decide +kernel
theorem dX7_differ_76 : decode cX7_differ 76 = .ok (.ishl, 1) := by decide +kernel
theorem dX7_differ_77 : decode cX7_differ 77 = .ok (.ior, 1) := by decide +kernel
theorem dX7_differ_78 : decode cX7_differ 78 = .ok (.istore 5, 2) := by decide +kernel
theorem dX7_differ_80 : decode cX7_differ 80 = .ok (.iinc 6 1, 3) := by decide +kernel
theorem dX7_differ_83 : decode cX7_differ 83 = .ok (.goto (-50), 3) := by decide +kernel
theorem dX7_differ_86 : decode cX7_differ 86 = .ok (.iload 5, 2) := by decide +kernel
theorem dX7_differ_88 : decode cX7_differ 88 = .ok (.ireturn, 1) := by decide +kernel
theorem dX7_last_0 : decode cX7_last 0 = .ok (.aload_n 0, 1) := by decide +kernel
theorem dX7_last_1 : decode cX7_last 1 = .ok (.getfield 10, 3) := by decide +kernel
theorem dX7_last_4 : decode cX7_last 4 = .ok (.iload_n 1, 1) := by decide +kernel
theorem dX7_last_5 : decode cX7_last 5 = .ok (.invokevirtual 192, 3) := by decide +kernel
theorem dX7_last_8 : decode cX7_last 8 = .ok (.ifCond .eq 15, 3) := by decide +kernel
theorem dX7_last_11 : decode cX7_last 11 = .ok (.aload_n 0, 1) := by decide +kernel
theorem dX7_last_12 : decode cX7_last 12 = .ok (.getfield 20, 3) := by decide +kernel
theorem dX7_last_15 : decode cX7_last 15 = .ok (.iload_n 2, 1) := by decide +kernel
theorem dX7_last_16 : decode cX7_last 16 = .ok (.iload_n 3, 1) := by decide +kernel
theorem dX7_last_17 : decode cX7_last 17 = .ok (.invokevirtual 263, 3) := by decide +kernel
theorem dX7_last_20 : decode cX7_last 20 = .ok (.ifCond .ne 5, 3) := by decide +kernel
theorem dX7_last_23 : decode cX7_last 23 = .ok (.iconst (-1), 1) := by decide +kernel
theorem dX7_last_24 : decode cX7_last 24 = .ok (.ireturn, 1) := by decide +kernel
theorem dX7_last_25 : decode cX7_last 25 = .ok (.aload_n 0, 1) := by decide +kernel
theorem dX7_last_26 : decode cX7_last 26 = .ok (.getfield 20, 3) := by decide +kernel
theorem dX7_last_29 : decode cX7_last 29 = .ok (.iload_n 1, 1) := by decide +kernel
theorem dX7_last_30 : decode cX7_last 30 = .ok (.iload_n 2, 1) := by decide +kernel
theorem dX7_last_31 : decode cX7_last 31 = .ok (.iload_n 3, 1) := by decide +kernel
theorem dX7_last_32 : decode cX7_last 32 = .ok (.invokevirtual 373, 3) := by decide +kernel
theorem dX7_last_35 : decode cX7_last 35 = .ok (.ireturn, 1) := by decide +kernel
theorem dX7_way_0 : decode cX7_way 0 = .ok (.iload_n 2, 1) := by decide +kernel
theorem dX7_way_1 : decode cX7_way 1 = .ok (.ifCond .lt 15, 3) := by decide +kernel
theorem dX7_way_4 : decode cX7_way 4 = .ok (.iload_n 2, 1) := by decide +kernel
theorem dX7_way_5 : decode cX7_way 5 = .ok (.aload_n 0, 1) := by decide +kernel
theorem dX7_way_6 : decode cX7_way 6 = .ok (.getfield 20, 3) := by decide +kernel
theorem dX7_way_9 : decode cX7_way 9 = .ok (.iload_n 1, 1) := by decide +kernel
theorem dX7_way_10 : decode cX7_way 10 = .ok (.invokevirtual 294, 3) := by decide +kernel
theorem dX7_way_13 : decode cX7_way 13 = .ok (.if_icmp .lt 5, 3) := by decide +kernel
theorem dX7_way_16 : decode cX7_way 16 = .ok (.iconst (-1), 1) := by decide +kernel
theorem dX7_way_17 : decode cX7_way 17 = .ok (.ireturn, 1) := by decide +kernel
theorem dX7_way_18 : decode cX7_way 18 = .ok (.iload_n 1, 1) := by decide +kernel
theorem dX7_way_19 : decode cX7_way 19 = .ok (.istore_n 3, 1) := by decide +kernel
theorem dX7_way_20 : decode cX7_way 20 = .ok (.iconst 0, 1) := by decide +kernel
theorem dX7_way_21 : decode cX7_way 21 = .ok (.istore 4, 2) := by decide +kernel
theorem dX7_way_23 : decode cX7_way 23 = .ok (.iload 4, 2) := by decide +kernel
theorem dX7_way_25 : decode cX7_way 25 = .ok (.iload_n 2, 1) := by decide +kernel
theorem dX7_way_26 : decode cX7_way 26 = .ok (.if_icmp .ge 18, 3) := by decide +kernel
theorem dX7_way_29 : decode cX7_way 29 = .ok (.aload_n 0, 1) := by decide +kernel
theorem dX7_way_30 : decode cX7_way 30 = .ok (.getfield 20, 3) := by decide +kernel
theorem dX7_way_33 : decode cX7_way 33 = .ok (.iload_n 3, 1) := by decide +kernel
theorem dX7_way_34 : decode cX7_way 34 = .ok (.invokevirtual 288, 3) := by decide +kernel
theorem dX7_way_37 : decode cX7_way 37 = .ok (.istore_n 3, 1) := by decide +kernel
theorem dX7_way_38 : decode cX7_way 38 = .ok (.iinc 4 1, 3) := by decide +kernel
theorem dX7_way_41 : decode cX7_way 41 = .ok (.goto (-18), 3) := by decide +kernel
theorem dX7_way_44 : decode cX7_way 44 = .ok (.iload_n 3, 1) := by decide +kernel
theorem dX7_way_45 : decode cX7_way 45 = .ok (.ireturn, 1) := by decide +kernel
theorem dX7_where_0 : decode cX7_where 0 = .ok (.iload_n 2, 1) := by decide +kernel
theorem dX7_where_1 : decode cX7_where 1 = .ok (.ifCond .lt 8, 3) := by decide +kernel
theorem dX7_where_4 : decode cX7_where 4 = .ok (.iload_n 2, 1) := by decide +kernel
theorem dX7_where_5 : decode cX7_where 5 = .ok (.iconst 2, 1) := by decide +kernel
theorem dX7_where_6 : decode cX7_where 6 = .ok (.if_icmp .le 5, 3) := by decide +kernel
theorem dX7_where_9 : decode cX7_where 9 = .ok (.iconst (-1), 1) := by decide +kernel
theorem dX7_where_10 : decode cX7_where 10 = .ok (.ireturn, 1) := by decide +kernel
theorem dX7_where_11 : decode cX7_where 11 = .ok (.iconst 0, 1) := by decide +kernel
theorem dX7_where_12 : decode cX7_where 12 = .ok (.istore_n 3, 1) := by decide +kernel
theorem dX7_where_13 : decode cX7_where 13 = .ok (.bipush (-2), 2) := by decide +kernel
theorem dX7_where_15 : decode cX7_where 15 = .ok (.istore 4, 2) := by decide +kernel
theorem dX7_where_17 : decode cX7_where 17 = .ok (.iconst 0, 1) := by decide +kernel
theorem dX7_where_18 : decode cX7_where 18 = .ok (.istore 5, 2) := by decide +kernel
theorem dX7_where_20 : decode cX7_where 20 = .ok (.iload 5, 2) := by decide +kernel
theorem dX7_where_22 : decode cX7_where 22 = .ok (.aload_n 0, 1) := by decide +kernel
theorem dX7_where_23 : decode cX7_where 23 = .ok (.getfield 20, 3) := by decide +kernel
theorem dX7_where_26 : decode cX7_where 26 = .ok (.getfield 413, 3) := by decide +kernel
theorem dX7_where_29 : decode cX7_where 29 = .ok (.if_icmp .ge 38, 3) := by decide +kernel
theorem dX7_where_32 : decode cX7_where 32 = .ok (.aload_n 0, 1) := by decide +kernel
theorem dX7_where_33 : decode cX7_where 33 = .ok (.getfield 20, 3) := by decide +kernel
theorem dX7_where_36 : decode cX7_where 36 = .ok (.iload 5, 2) := by decide +kernel
theorem dX7_where_38 : decode cX7_where 38 = .ok (.iload_n 1, 1) := by decide +kernel
theorem dX7_where_39 : decode cX7_where 39 = .ok (.invokevirtual 384, 3) := by decide +kernel
theorem dX7_where_42 : decode cX7_where 42 = .ok (.ifCond .eq 19, 3) := by decide +kernel
theorem dX7_where_45 : decode cX7_where 45 = .ok (.iload_n 3, 1) := by decide +kernel
theorem dX7_where_46 : decode cX7_where 46 = .ok (.ifCond .ne 8, 3) := by decide +kernel
theorem dX7_where_49 : decode cX7_where 49 = .ok (.iload 5, 2) := by decide +kernel
theorem dX7_where_51 : decode cX7_where 51 = .ok (.goto 5, 3) := by decide +kernel
theorem dX7_where_54 : decode cX7_where 54 = .ok (.iload 4, 2) := by decide +kernel
theorem dX7_where_56 : decode cX7_where 56 = .ok (.istore 4, 2) := by decide +kernel
theorem dX7_where_58 : decode cX7_where 58 = .ok (.iinc 3 1, 3) := by decide +kernel
theorem dX7_where_61 : decode cX7_where 61 = .ok (.iinc 5 1, 3) := by decide +kernel
theorem dX7_where_64 : decode cX7_where 64 = .ok (.goto (-44), 3) := by decide +kernel
theorem dX7_where_67 : decode cX7_where 67 = .ok (.iload_n 2, 1) := by decide +kernel
theorem dX7_where_68 : decode cX7_where 68 = .ok (.ifCond .ne 5, 3) := by decide +kernel
theorem dX7_where_71 : decode cX7_where 71 = .ok (.iload_n 3, 1) := by decide +kernel
theorem dX7_where_72 : decode cX7_where 72 = .ok (.ireturn, 1) := by decide +kernel
theorem dX7_where_73 : decode cX7_where 73 = .ok (.iload_n 3, 1) := by decide +kernel
theorem dX7_where_74 : decode cX7_where 74 = .ok (.ifCond .ne 6, 3) := by decide +kernel
theorem dX7_where_77 : decode cX7_where 77 = .ok (.bipush (-2), 2) := by decide +kernel
theorem dX7_where_79 : decode cX7_where 79 = .ok (.ireturn, 1) := by decide +kernel
theorem dX7_where_80 : decode cX7_where 80 = .ok (.aload_n 0, 1) := by decide +kernel
theorem dX7_where_81 : decode cX7_where 81 = .ok (.getfield 20, 3) := by decide +kernel
theorem dX7_where_84 : decode cX7_where 84 = .ok (.iload 4, 2) := by decide +kernel
theorem dX7_where_86 : decode cX7_where 86 = .ok (.invokevirtual 276, 3) := by decide +kernel
theorem dX7_where_89 : decode cX7_where 89 = .ok (.istore 5, 2) := by decide +kernel
theorem dX7_where_91 : decode cX7_where 91 = .ok (.iload_n 2, 1) := by decide +kernel
theorem dX7_where_92 : decode cX7_where 92 = .ok (.iconst 1, 1) := by decide +kernel
theorem dX7_where_93 : decode cX7_where 93 = .ok (.if_icmp .ne 8, 3) := by decide +kernel
theorem dX7_where_96 : decode cX7_where 96 = .ok (.iload 5, 2) := by decide +kernel
theorem dX7_where_98 : decode cX7_where 98 = .ok (.goto 14, 3) := by decide +kernel
theorem dX7_where_101 : decode cX7_where 101 = .ok (.aload_n 0, 1) := by decide +kernel
theorem dX7_where_102 : decode cX7_where 102 = .ok (.getfield 20, 3) := by decide +kernel
theorem dX7_where_105 : decode cX7_where 105 = .ok (.iload 5, 2) := by decide +kernel
theorem dX7_where_107 : decode cX7_where 107 = .ok (.iload 4, 2) := by decide +kernel
theorem dX7_where_109 : decode cX7_where 109 = .ok (.invokevirtual 416, 3) := by decide +kernel
theorem dX7_where_112 : decode cX7_where 112 = .ok (.ireturn, 1) := by decide +kernel
theorem dX7_busiest_0 : decode cX7_busiest 0 = .ok (.aload_n 0, 1) := by decide +kernel
theorem dX7_busiest_1 : decode cX7_busiest 1 = .ok (.getfield 20, 3) := by decide +kernel
theorem dX7_busiest_4 : decode cX7_busiest 4 = .ok (.iload_n 1, 1) := by decide +kernel
theorem dX7_busiest_5 : decode cX7_busiest 5 = .ok (.invokevirtual 282, 3) := by decide +kernel
theorem dX7_busiest_8 : decode cX7_busiest 8 = .ok (.ifCond .eq 12, 3) := by decide +kernel
theorem dX7_busiest_11 : decode cX7_busiest 11 = .ok (.iload_n 2, 1) := by decide +kernel
theorem dX7_busiest_12 : decode cX7_busiest 12 = .ok (.ifCond .lt 8, 3) := by decide +kernel
theorem dX7_busiest_15 : decode cX7_busiest 15 = .ok (.iload_n 2, 1) := by decide +kernel
theorem dX7_busiest_16 : decode cX7_busiest 16 = .ok (.iconst 1, 1) := by decide +kernel
theorem dX7_busiest_17 : decode cX7_busiest 17 = .ok (.if_icmp .le 5, 3) := by decide +kernel
theorem dX7_busiest_20 : decode cX7_busiest 20 = .ok (.iconst (-1), 1) := by decide +kernel
theorem dX7_busiest_21 : decode cX7_busiest 21 = .ok (.ireturn, 1) := by decide +kernel
theorem dX7_busiest_22 : decode cX7_busiest 22 = .ok (.iconst 0, 1) := by decide +kernel
theorem dX7_busiest_23 : decode cX7_busiest 23 = .ok (.istore_n 3, 1) := by decide +kernel
theorem dX7_busiest_24 : decode cX7_busiest 24 = .ok (.iconst 0, 1) := by decide +kernel
theorem dX7_busiest_25 : decode cX7_busiest 25 = .ok (.istore 4, 2) := by decide +kernel
theorem dX7_busiest_27 : decode cX7_busiest 27 = .ok (.iconst 0, 1) := by decide +kernel
theorem dX7_busiest_28 : decode cX7_busiest 28 = .ok (.istore 5, 2) := by decide +kernel
theorem dX7_busiest_30 : decode cX7_busiest 30 = .ok (.iload 5, 2) := by decide +kernel
theorem dX7_busiest_32 : decode cX7_busiest 32 = .ok (.aload_n 0, 1) := by decide +kernel
theorem dX7_busiest_33 : decode cX7_busiest 33 = .ok (.getfield 10, 3) := by decide +kernel
theorem dX7_busiest_36 : decode cX7_busiest 36 = .ok (.getfield 225, 3) := by decide +kernel
theorem dX7_busiest_39 : decode cX7_busiest 39 = .ok (.if_icmp .ge 35, 3) := by decide +kernel
theorem dX7_busiest_42 : decode cX7_busiest 42 = .ok (.aload_n 0, 1) := by decide +kernel
theorem dX7_busiest_43 : decode cX7_busiest 43 = .ok (.getfield 20, 3) := by decide +kernel
theorem dX7_busiest_46 : decode cX7_busiest 46 = .ok (.iload 5, 2) := by decide +kernel
theorem dX7_busiest_48 : decode cX7_busiest 48 = .ok (.iload_n 1, 1) := by decide +kernel
theorem dX7_busiest_49 : decode cX7_busiest 49 = .ok (.invokevirtual 419, 3) := by decide +kernel
theorem dX7_busiest_52 : decode cX7_busiest 52 = .ok (.istore 6, 2) := by decide +kernel
theorem dX7_busiest_54 : decode cX7_busiest 54 = .ok (.iload 6, 2) := by decide +kernel
theorem dX7_busiest_56 : decode cX7_busiest 56 = .ok (.iload 4, 2) := by decide +kernel
theorem dX7_busiest_58 : decode cX7_busiest 58 = .ok (.if_icmp .le 10, 3) := by decide +kernel
theorem dX7_busiest_61 : decode cX7_busiest 61 = .ok (.iload 5, 2) := by decide +kernel
theorem dX7_busiest_63 : decode cX7_busiest 63 = .ok (.istore_n 3, 1) := by decide +kernel
theorem dX7_busiest_64 : decode cX7_busiest 64 = .ok (.iload 6, 2) := by decide +kernel
theorem dX7_busiest_66 : decode cX7_busiest 66 = .ok (.istore 4, 2) := by decide +kernel
theorem dX7_busiest_68 : decode cX7_busiest 68 = .ok (.iinc 5 1, 3) := by decide +kernel
theorem dX7_busiest_71 : decode cX7_busiest 71 = .ok (.goto (-41), 3) := by decide +kernel
theorem dX7_busiest_74 : decode cX7_busiest 74 = .ok (.iload_n 2, 1) := by decide +kernel
theorem dX7_busiest_75 : decode cX7_busiest 75 = .ok (.ifCond .ne 7, 3) := by decide +kernel
theorem dX7_busiest_78 : decode cX7_busiest 78 = .ok (.iload_n 3, 1) := by decide +kernel
theorem dX7_busiest_79 : decode cX7_busiest 79 = .ok (.goto 5, 3) := by decide +kernel
theorem dX7_busiest_82 : decode cX7_busiest 82 = .ok (.iload 4, 2) := by decide +kernel
theorem dX7_busiest_84 : decode cX7_busiest 84 = .ok (.ireturn, 1) := by decide +kernel
theorem dX7_hold_0 : decode cX7_hold 0 = .ok (.iload_n 1, 1) := by decide +kernel
theorem dX7_hold_1 : decode cX7_hold 1 = .ok (.ifCond .lt 12, 3) := by decide +kernel
theorem dX7_hold_4 : decode cX7_hold 4 = .ok (.iload_n 1, 1) := by decide +kernel
theorem dX7_hold_5 : decode cX7_hold 5 = .ok (.aload_n 0, 1) := by decide +kernel
theorem dX7_hold_6 : decode cX7_hold 6 = .ok (.getfield 35, 3) := by decide +kernel
theorem dX7_hold_9 : decode cX7_hold 9 = .ok (.arraylength, 1) := by decide +kernel
theorem dX7_hold_10 : decode cX7_hold 10 = .ok (.if_icmp .lt 5, 3) := by decide +kernel
theorem dX7_hold_13 : decode cX7_hold 13 = .ok (.iconst 0, 1) := by decide +kernel
theorem dX7_hold_14 : decode cX7_hold 14 = .ok (.ireturn, 1) := by decide +kernel
theorem dX7_hold_15 : decode cX7_hold 15 = .ok (.aload_n 0, 1) := by decide +kernel
theorem dX7_hold_16 : decode cX7_hold 16 = .ok (.getfield 35, 3) := by decide +kernel
theorem dX7_hold_19 : decode cX7_hold 19 = .ok (.iload_n 1, 1) := by decide +kernel
theorem dX7_hold_20 : decode cX7_hold 20 = .ok (.aaload, 1) := by decide +kernel
theorem dX7_hold_21 : decode cX7_hold 21 = .ok (.ifnonnull 16, 3) := by decide +kernel
theorem dX7_hold_24 : decode cX7_hold 24 = .ok (.aload_n 0, 1) := by decide +kernel
theorem dX7_hold_25 : decode cX7_hold 25 = .ok (.getfield 35, 3) := by decide +kernel
theorem dX7_hold_28 : decode cX7_hold 28 = .ok (.iload_n 1, 1) := by decide +kernel
theorem dX7_hold_29 : decode cX7_hold 29 = .ok (.new 7, 3) := by decide +kernel
theorem dX7_hold_32 : decode cX7_hold 32 = .ok (.dup, 1) := by decide +kernel
theorem dX7_hold_33 : decode cX7_hold 33 = .ok (.invokespecial 9, 3) := by decide +kernel
theorem dX7_hold_36 : decode cX7_hold 36 = .ok (.aastore, 1) := by decide +kernel
theorem dX7_hold_37 : decode cX7_hold 37 = .ok (.aload_n 0, 1) := by decide +kernel
theorem dX7_hold_38 : decode cX7_hold 38 = .ok (.getfield 35, 3) := by decide +kernel
theorem dX7_hold_41 : decode cX7_hold 41 = .ok (.iload_n 1, 1) := by decide +kernel
theorem dX7_hold_42 : decode cX7_hold 42 = .ok (.aaload, 1) := by decide +kernel
theorem dX7_hold_43 : decode cX7_hold 43 = .ok (.aload_n 0, 1) := by decide +kernel
theorem dX7_hold_44 : decode cX7_hold 44 = .ok (.getfield 10, 3) := by decide +kernel
theorem dX7_hold_47 : decode cX7_hold 47 = .ok (.invokevirtual 422, 3) := by decide +kernel
theorem dX7_hold_50 : decode cX7_hold 50 = .ok (.aload_n 0, 1) := by decide +kernel
theorem dX7_hold_51 : decode cX7_hold 51 = .ok (.dup, 1) := by decide +kernel
theorem dX7_hold_52 : decode cX7_hold 52 = .ok (.getfield 39, 3) := by decide +kernel
theorem dX7_hold_55 : decode cX7_hold 55 = .ok (.iconst 1, 1) := by decide +kernel
theorem dX7_hold_56 : decode cX7_hold 56 = .ok (.iload_n 1, 1) := by decide +kernel
theorem dX7_hold_57 : decode cX7_hold 57 = .ok (.ishl, 1) := by decide +kernel
theorem dX7_hold_58 : decode cX7_hold 58 = .ok (.ior, 1) := by decide +kernel
theorem dX7_hold_59 : decode cX7_hold 59 = .ok (.putfield 39, 3) := by decide +kernel
theorem dX7_hold_62 : decode cX7_hold 62 = .ok (.iconst 1, 1) := by decide +kernel
theorem dX7_hold_63 : decode cX7_hold 63 = .ok (.ireturn, 1) := by decide +kernel
theorem dX7_again_0 : decode cX7_again 0 = .ok (.iload_n 1, 1) := by decide +kernel
theorem dX7_again_1 : decode cX7_again 1 = .ok (.ifCond .lt 32, 3) := by decide +kernel
theorem dX7_again_4 : decode cX7_again 4 = .ok (.iload_n 1, 1) := by decide +kernel
theorem dX7_again_5 : decode cX7_again 5 = .ok (.aload_n 0, 1) := by decide +kernel
theorem dX7_again_6 : decode cX7_again 6 = .ok (.getfield 35, 3) := by decide +kernel
theorem dX7_again_9 : decode cX7_again 9 = .ok (.arraylength, 1) := by decide +kernel
theorem dX7_again_10 : decode cX7_again 10 = .ok (.if_icmp .ge 23, 3) := by decide +kernel
theorem dX7_again_13 : decode cX7_again 13 = .ok (.aload_n 0, 1) := by decide +kernel
theorem dX7_again_14 : decode cX7_again 14 = .ok (.getfield 39, 3) := by decide +kernel
theorem dX7_again_17 : decode cX7_again 17 = .ok (.iload_n 1, 1) := by decide +kernel
theorem dX7_again_18 : decode cX7_again 18 = .ok (.ishr, 1) := by decide +kernel
theorem dX7_again_19 : decode cX7_again 19 = .ok (.iconst 1, 1) := by decide +kernel
theorem dX7_again_20 : decode cX7_again 20 = .ok (.iand, 1) := by decide +kernel
theorem dX7_again_21 : decode cX7_again 21 = .ok (.ifCond .eq 12, 3) := by decide +kernel
theorem dX7_again_24 : decode cX7_again 24 = .ok (.aload_n 0, 1) := by decide +kernel
theorem dX7_again_25 : decode cX7_again 25 = .ok (.getfield 35, 3) := by decide +kernel
theorem dX7_again_28 : decode cX7_again 28 = .ok (.iload_n 1, 1) := by decide +kernel
theorem dX7_again_29 : decode cX7_again 29 = .ok (.aaload, 1) := by decide +kernel
theorem dX7_again_30 : decode cX7_again 30 = .ok (.ifnonnull 5, 3) := by decide +kernel
theorem dX7_again_33 : decode cX7_again 33 = .ok (.iconst 0, 1) := by decide +kernel
theorem dX7_again_34 : decode cX7_again 34 = .ok (.ireturn, 1) := by decide +kernel
theorem dX7_again_35 : decode cX7_again 35 = .ok (.aload_n 0, 1) := by decide +kernel
theorem dX7_again_36 : decode cX7_again 36 = .ok (.getfield 10, 3) := by decide +kernel
theorem dX7_again_39 : decode cX7_again 39 = .ok (.aload_n 0, 1) := by decide +kernel
theorem dX7_again_40 : decode cX7_again 40 = .ok (.getfield 35, 3) := by decide +kernel
theorem dX7_again_43 : decode cX7_again 43 = .ok (.iload_n 1, 1) := by decide +kernel
theorem dX7_again_44 : decode cX7_again 44 = .ok (.aaload, 1) := by decide +kernel
theorem dX7_again_45 : decode cX7_again 45 = .ok (.invokevirtual 422, 3) := by decide +kernel
theorem dX7_again_48 : decode cX7_again 48 = .ok (.iconst 1, 1) := by decide +kernel
theorem dX7_again_49 : decode cX7_again 49 = .ok (.ireturn, 1) := by decide +kernel
theorem dX7_count_0 : decode cX7_count 0 = .ok (.iload_n 1, 1) := by decide +kernel
theorem dX7_count_1 : decode cX7_count 1 = .ok (.tableswitch 208 0 15 #[79, 87, 95, 103, 111, 119, 127, 135, 150, 155, 163, 171, 176, 184, 192, 200], 79) := by decide +kernel
theorem dX7_count_80 : decode cX7_count 80 = .ok (.aload_n 0, 1) := by decide +kernel
theorem dX7_count_81 : decode cX7_count 81 = .ok (.getfield 10, 3) := by decide +kernel
theorem dX7_count_84 : decode cX7_count 84 = .ok (.getfield 225, 3) := by decide +kernel
theorem dX7_count_87 : decode cX7_count 87 = .ok (.ireturn, 1) := by decide +kernel
theorem dX7_count_88 : decode cX7_count 88 = .ok (.aload_n 0, 1) := by decide +kernel
theorem dX7_count_89 : decode cX7_count 89 = .ok (.getfield 20, 3) := by decide +kernel
theorem dX7_count_92 : decode cX7_count 92 = .ok (.getfield 425, 3) := by decide +kernel
theorem dX7_count_95 : decode cX7_count 95 = .ok (.ireturn, 1) := by decide +kernel
theorem dX7_count_96 : decode cX7_count 96 = .ok (.aload_n 0, 1) := by decide +kernel
theorem dX7_count_97 : decode cX7_count 97 = .ok (.getfield 20, 3) := by decide +kernel
theorem dX7_count_100 : decode cX7_count 100 = .ok (.getfield 244, 3) := by decide +kernel
theorem dX7_count_103 : decode cX7_count 103 = .ok (.ireturn, 1) := by decide +kernel
theorem dX7_count_104 : decode cX7_count 104 = .ok (.aload_n 0, 1) := by decide +kernel
theorem dX7_count_105 : decode cX7_count 105 = .ok (.getfield 20, 3) := by decide +kernel
theorem dX7_count_108 : decode cX7_count 108 = .ok (.invokevirtual 129, 3) := by decide +kernel
theorem dX7_count_111 : decode cX7_count 111 = .ok (.ireturn, 1) := by decide +kernel
theorem dX7_count_112 : decode cX7_count 112 = .ok (.aload_n 0, 1) := by decide +kernel
theorem dX7_count_113 : decode cX7_count 113 = .ok (.getfield 20, 3) := by decide +kernel
theorem dX7_count_116 : decode cX7_count 116 = .ok (.invokevirtual 123, 3) := by decide +kernel
theorem dX7_count_119 : decode cX7_count 119 = .ok (.ireturn, 1) := by decide +kernel
theorem dX7_count_120 : decode cX7_count 120 = .ok (.aload_n 0, 1) := by decide +kernel
theorem dX7_count_121 : decode cX7_count 121 = .ok (.getfield 20, 3) := by decide +kernel
theorem dX7_count_124 : decode cX7_count 124 = .ok (.getfield 413, 3) := by decide +kernel
theorem dX7_count_127 : decode cX7_count 127 = .ok (.ireturn, 1) := by decide +kernel
theorem dX7_count_128 : decode cX7_count 128 = .ok (.aload_n 0, 1) := by decide +kernel
theorem dX7_count_129 : decode cX7_count 129 = .ok (.getfield 25, 3) := by decide +kernel
theorem dX7_count_132 : decode cX7_count 132 = .ok (.getfield 132, 3) := by decide +kernel
theorem dX7_count_135 : decode cX7_count 135 = .ok (.ireturn, 1) := by decide +kernel
theorem dX7_count_136 : decode cX7_count 136 = .ok (.aload_n 0, 1) := by decide +kernel
theorem dX7_count_137 : decode cX7_count 137 = .ok (.getfield 25, 3) := by decide +kernel
theorem dX7_count_140 : decode cX7_count 140 = .ok (.aload_n 0, 1) := by decide +kernel
theorem dX7_count_141 : decode cX7_count 141 = .ok (.getfield 10, 3) := by decide +kernel
theorem dX7_count_144 : decode cX7_count 144 = .ok (.getfield 225, 3) := by decide +kernel
theorem dX7_count_147 : decode cX7_count 147 = .ok (.invokevirtual 426, 3) := by decide +kernel
theorem dX7_count_150 : decode cX7_count 150 = .ok (.ireturn, 1) := by decide +kernel
theorem dX7_count_151 : decode cX7_count 151 = .ok (.aload_n 0, 1) := by decide +kernel
theorem dX7_count_152 : decode cX7_count 152 = .ok (.getfield 47, 3) := by decide +kernel
theorem dX7_count_155 : decode cX7_count 155 = .ok (.ireturn, 1) := by decide +kernel
theorem dX7_count_156 : decode cX7_count 156 = .ok (.aload_n 0, 1) := by decide +kernel
theorem dX7_count_157 : decode cX7_count 157 = .ok (.getfield 20, 3) := by decide +kernel
theorem dX7_count_160 : decode cX7_count 160 = .ok (.invokevirtual 407, 3) := by decide +kernel
theorem dX7_count_163 : decode cX7_count 163 = .ok (.ireturn, 1) := by decide +kernel
theorem dX7_count_164 : decode cX7_count 164 = .ok (.aload_n 0, 1) := by decide +kernel
theorem dX7_count_165 : decode cX7_count 165 = .ok (.getfield 39, 3) := by decide +kernel
theorem dX7_count_168 : decode cX7_count 168 = .ok (.invokestatic 429, 3) := by decide +kernel
theorem dX7_count_171 : decode cX7_count 171 = .ok (.ireturn, 1) := by decide +kernel
theorem dX7_count_172 : decode cX7_count 172 = .ok (.aload_n 0, 1) := by decide +kernel
theorem dX7_count_173 : decode cX7_count 173 = .ok (.getfield 53, 3) := by decide +kernel
theorem dX7_count_176 : decode cX7_count 176 = .ok (.ireturn, 1) := by decide +kernel
theorem dX7_count_177 : decode cX7_count 177 = .ok (.aload_n 0, 1) := by decide +kernel
theorem dX7_count_178 : decode cX7_count 178 = .ok (.getfield 25, 3) := by decide +kernel
theorem dX7_count_181 : decode cX7_count 181 = .ok (.getfield 434, 3) := by decide +kernel
theorem dX7_count_184 : decode cX7_count 184 = .ok (.ireturn, 1) := by decide +kernel
theorem dX7_count_185 : decode cX7_count 185 = .ok (.aload_n 0, 1) := by decide +kernel
theorem dX7_count_186 : decode cX7_count 186 = .ok (.getfield 25, 3) := by decide +kernel
theorem dX7_count_189 : decode cX7_count 189 = .ok (.getfield 437, 3) := by decide +kernel
theorem dX7_count_192 : decode cX7_count 192 = .ok (.ireturn, 1) := by decide +kernel
theorem dX7_count_193 : decode cX7_count 193 = .ok (.aload_n 0, 1) := by decide +kernel
theorem dX7_count_194 : decode cX7_count 194 = .ok (.getfield 20, 3) := by decide +kernel
theorem dX7_count_197 : decode cX7_count 197 = .ok (.invokevirtual 440, 3) := by decide +kernel
theorem dX7_count_200 : decode cX7_count 200 = .ok (.ireturn, 1) := by decide +kernel
theorem dX7_count_201 : decode cX7_count 201 = .ok (.aload_n 0, 1) := by decide +kernel
theorem dX7_count_202 : decode cX7_count 202 = .ok (.getfield 20, 3) := by decide +kernel
theorem dX7_count_205 : decode cX7_count 205 = .ok (.invokevirtual 443, 3) := by decide +kernel
theorem dX7_count_208 : decode cX7_count 208 = .ok (.ireturn, 1) := by decide +kernel
theorem dX7_count_209 : decode cX7_count 209 = .ok (.iconst (-1), 1) := by decide +kernel
theorem dX7_count_210 : decode cX7_count 210 = .ok (.ireturn, 1) := by decide +kernel
