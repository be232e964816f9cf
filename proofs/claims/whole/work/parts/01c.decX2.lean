theorem dX2_init_0 : decode cX2_init 0 = .ok (.aload_n 0, 1) := by decide +kernel
theorem dX2_init_1 : decode cX2_init 1 = .ok (.invokespecial 3, 3) := by decide +kernel
theorem dX2_init_4 : decode cX2_init 4 = .ok (.aload_n 0, 1) := by decide +kernel
theorem dX2_init_5 : decode cX2_init 5 = .ok (.iconst 4, 1) := by decide +kernel
theorem dX2_init_6 : decode cX2_init 6 = .ok (.putfield 9, 3) := by decide +kernel
theorem dX2_init_9 : decode cX2_init 9 = .ok (.aload_n 0, 1) := by decide +kernel
theorem dX2_init_10 : decode cX2_init 10 = .ok (.iconst 1, 1) := by decide +kernel
theorem dX2_init_11 : decode cX2_init 11 = .ok (.putfield 15, 3) := by decide +kernel
theorem dX2_init_14 : decode cX2_init 14 = .ok (.aload_n 0, 1) := by decide +kernel
theorem dX2_init_15 : decode cX2_init 15 = .ok (.iconst 0, 1) := by decide +kernel
theorem dX2_init_16 : decode cX2_init 16 = .ok (.putfield 18, 3) := by decide +kernel
theorem dX2_init_19 : decode cX2_init 19 = .ok (.aload_n 0, 1) := by decide +kernel
theorem dX2_init_20 : decode cX2_init 20 = .ok (.bipush 8, 2) := by decide +kernel
theorem dX2_init_22 : decode cX2_init 22 = .ok (.newarray .int, 2) := by decide +kernel
theorem dX2_init_24 : decode cX2_init 24 = .ok (.putfield 21, 3) := by decide +kernel
theorem dX2_init_27 : decode cX2_init 27 = .ok (.aload_n 0, 1) := by decide +kernel
theorem dX2_init_28 : decode cX2_init 28 = .ok (.bipush 8, 2) := by decide +kernel
theorem dX2_init_30 : decode cX2_init 30 = .ok (.newarray .int, 2) := by decide +kernel
theorem dX2_init_32 : decode cX2_init 32 = .ok (.putfield 25, 3) := by decide +kernel
theorem dX2_init_35 : decode cX2_init 35 = .ok (.aload_n 0, 1) := by decide +kernel
theorem dX2_init_36 : decode cX2_init 36 = .ok (.bipush 8, 2) := by decide +kernel
theorem dX2_init_38 : decode cX2_init 38 = .ok (.newarray .int, 2) := by decide +kernel
theorem dX2_init_40 : decode cX2_init 40 = .ok (.putfield 28, 3) := by decide +kernel
theorem dX2_init_43 : decode cX2_init 43 = .ok (.aload_n 0, 1) := by decide +kernel
theorem dX2_init_44 : decode cX2_init 44 = .ok (.bipush 8, 2) := by decide +kernel
theorem dX2_init_46 : decode cX2_init 46 = .ok (.newarray .int, 2) := by decide +kernel
theorem dX2_init_48 : decode cX2_init 48 = .ok (.putfield 31, 3) := by decide +kernel
theorem dX2_init_51 : decode cX2_init 51 = .ok (.aload_n 0, 1) := by decide +kernel
theorem dX2_init_52 : decode cX2_init 52 = .ok (.sipush 600, 3) := by decide +kernel
theorem dX2_init_55 : decode cX2_init 55 = .ok (.newarray .byte, 2) := by decide +kernel
theorem dX2_init_57 : decode cX2_init 57 = .ok (.putfield 34, 3) := by decide +kernel
theorem dX2_init_60 : decode cX2_init 60 = .ok (.aload_n 0, 1) := by decide +kernel
theorem dX2_init_61 : decode cX2_init 61 = .ok (.sipush 600, 3) := by decide +kernel
theorem dX2_init_64 : decode cX2_init 64 = .ok (.newarray .int, 2) := by decide +kernel
theorem dX2_init_66 : decode cX2_init 66 = .ok (.putfield 38, 3) := by decide +kernel
theorem dX2_init_69 : decode cX2_init 69 = .ok (.aload_n 0, 1) := by decide +kernel
theorem dX2_init_70 : decode cX2_init 70 = .ok (.sipush 600, 3) := by decide +kernel
theorem dX2_init_73 : decode cX2_init 73 = .ok (.newarray .int, 2) := by decide +kernel
theorem dX2_init_75 : decode cX2_init 75 = .ok (.putfield 41, 3) := by decide +kernel
theorem dX2_init_78 : decode cX2_init 78 = .ok (.aload_n 0, 1) := by decide +kernel
theorem dX2_init_79 : decode cX2_init 79 = .ok (.sipush 960, 3) := by decide +kernel
theorem dX2_init_82 : decode cX2_init 82 = .ok (.newarray .byte, 2) := by decide +kernel
theorem dX2_init_84 : decode cX2_init 84 = .ok (.putfield 44, 3) := by decide +kernel
theorem dX2_init_87 : decode cX2_init 87 = .ok (.aload_n 0, 1) := by decide +kernel
theorem dX2_init_88 : decode cX2_init 88 = .ok (.getfield 21, 3) := by decide +kernel
theorem dX2_init_91 : decode cX2_init 91 = .ok (.iconst 0, 1) := by decide +kernel
theorem dX2_init_92 : decode cX2_init 92 = .ok (.bipush (-2), 2) := by decide +kernel
theorem dX2_init_94 : decode cX2_init 94 = .ok (.iastore, 1) := by decide +kernel
theorem dX2_init_95 : decode cX2_init 95 = .ok (.return_, 1) := by decide +kernel
theorem dX2_begin_0 : decode cX2_begin 0 = .ok (.aload_n 0, 1) := by decide +kernel
theorem dX2_begin_1 : decode cX2_begin 1 = .ok (.iload_n 1, 1) := by decide +kernel
theorem dX2_begin_2 : decode cX2_begin 2 = .ok (.putfield 9, 3) := by decide +kernel
theorem dX2_begin_5 : decode cX2_begin 5 = .ok (.aload_n 0, 1) := by decide +kernel
theorem dX2_begin_6 : decode cX2_begin 6 = .ok (.iconst 0, 1) := by decide +kernel
theorem dX2_begin_7 : decode cX2_begin 7 = .ok (.putfield 15, 3) := by decide +kernel
theorem dX2_begin_10 : decode cX2_begin 10 = .ok (.aload_n 0, 1) := by decide +kernel
theorem dX2_begin_11 : decode cX2_begin 11 = .ok (.iconst 0, 1) := by decide +kernel
theorem dX2_begin_12 : decode cX2_begin 12 = .ok (.putfield 18, 3) := by decide +kernel
theorem dX2_begin_15 : decode cX2_begin 15 = .ok (.aload_n 0, 1) := by decide +kernel
theorem dX2_begin_16 : decode cX2_begin 16 = .ok (.bipush (-2), 2) := by decide +kernel
theorem dX2_begin_18 : decode cX2_begin 18 = .ok (.iconst 0, 1) := by decide +kernel
theorem dX2_begin_19 : decode cX2_begin 19 = .ok (.invokevirtual 47, 3) := by decide +kernel
theorem dX2_begin_22 : decode cX2_begin 22 = .ok (.return_, 1) := by decide +kernel
theorem dX2_become_0 : decode cX2_become 0 = .ok (.aload_n 0, 1) := by decide +kernel
theorem dX2_become_1 : decode cX2_become 1 = .ok (.aload_n 1, 1) := by decide +kernel
theorem dX2_become_2 : decode cX2_become 2 = .ok (.getfield 9, 3) := by decide +kernel
theorem dX2_become_5 : decode cX2_become 5 = .ok (.putfield 9, 3) := by decide +kernel
theorem dX2_become_8 : decode cX2_become 8 = .ok (.aload_n 0, 1) := by decide +kernel
theorem dX2_become_9 : decode cX2_become 9 = .ok (.aload_n 1, 1) := by decide +kernel
theorem dX2_become_10 : decode cX2_become 10 = .ok (.getfield 15, 3) := by decide +kernel
theorem dX2_become_13 : decode cX2_become 13 = .ok (.putfield 15, 3) := by decide +kernel
theorem dX2_become_16 : decode cX2_become 16 = .ok (.aload_n 0, 1) := by decide +kernel
theorem dX2_become_17 : decode cX2_become 17 = .ok (.aload_n 1, 1) := by decide +kernel
theorem dX2_become_18 : decode cX2_become 18 = .ok (.getfield 18, 3) := by decide +kernel
theorem dX2_become_21 : decode cX2_become 21 = .ok (.putfield 18, 3) := by decide +kernel
theorem dX2_become_24 : decode cX2_become 24 = .ok (.aload_n 1, 1) := by decide +kernel
theorem dX2_become_25 : decode cX2_become 25 = .ok (.getfield 21, 3) := by decide +kernel
theorem dX2_become_28 : decode cX2_become 28 = .ok (.iconst 0, 1) := by decide +kernel
theorem dX2_become_29 : decode cX2_become 29 = .ok (.aload_n 0, 1) := by decide +kernel
theorem dX2_become_30 : decode cX2_become 30 = .ok (.getfield 21, 3) := by decide +kernel
theorem dX2_become_33 : decode cX2_become 33 = .ok (.iconst 0, 1) := by decide +kernel
theorem dX2_become_34 : decode cX2_become 34 = .ok (.bipush 8, 2) := by decide +kernel
theorem dX2_become_36 : decode cX2_become 36 = .ok (.invokestatic 51, 3) := by decide +kernel
theorem dX2_become_39 : decode cX2_become 39 = .ok (.aload_n 1, 1) := by decide +kernel
theorem dX2_become_40 : decode cX2_become 40 = .ok (.getfield 25, 3) := by decide +kernel
theorem dX2_become_43 : decode cX2_become 43 = .ok (.iconst 0, 1) := by decide +kernel
theorem dX2_become_44 : decode cX2_become 44 = .ok (.aload_n 0, 1) := by decide +kernel
theorem dX2_become_45 : decode cX2_become 45 = .ok (.getfield 25, 3) := by decide +kernel
theorem dX2_become_48 : decode cX2_become 48 = .ok (.iconst 0, 1) := by decide +kernel
theorem dX2_become_49 : decode cX2_become 49 = .ok (.bipush 8, 2) := by decide +kernel
theorem dX2_become_51 : decode cX2_become 51 = .ok (.invokestatic 51, 3) := by decide +kernel
theorem dX2_become_54 : decode cX2_become 54 = .ok (.aload_n 1, 1) := by decide +kernel
theorem dX2_become_55 : decode cX2_become 55 = .ok (.getfield 28, 3) := by decide +kernel
theorem dX2_become_58 : decode cX2_become 58 = .ok (.iconst 0, 1) := by decide +kernel
theorem dX2_become_59 : decode cX2_become 59 = .ok (.aload_n 0, 1) := by decide +kernel
theorem dX2_become_60 : decode cX2_become 60 = .ok (.getfield 28, 3) := by decide +kernel
theorem dX2_become_63 : decode cX2_become 63 = .ok (.iconst 0, 1) := by decide +kernel
theorem dX2_become_64 : decode cX2_become 64 = .ok (.bipush 8, 2) := by decide +kernel
theorem dX2_become_66 : decode cX2_become 66 = .ok (.invokestatic 51, 3) := by decide +kernel
theorem dX2_become_69 : decode cX2_become 69 = .ok (.aload_n 1, 1) := by decide +kernel
theorem dX2_become_70 : decode cX2_become 70 = .ok (.getfield 31, 3) := by decide +kernel
theorem dX2_become_73 : decode cX2_become 73 = .ok (.iconst 0, 1) := by decide +kernel
theorem dX2_become_74 : decode cX2_become 74 = .ok (.aload_n 0, 1) := by decide +kernel
theorem dX2_become_75 : decode cX2_become 75 = .ok (.getfield 31, 3) := by decide +kernel
theorem dX2_become_78 : decode cX2_become 78 = .ok (.iconst 0, 1) := by decide +kernel
theorem dX2_become_79 : decode cX2_become 79 = .ok (.bipush 8, 2) := by decide +kernel
theorem dX2_become_81 : decode cX2_become 81 = .ok (.invokestatic 51, 3) := by decide +kernel
theorem dX2_become_84 : decode cX2_become 84 = .ok (.aload_n 1, 1) := by decide +kernel
theorem dX2_become_85 : decode cX2_become 85 = .ok (.getfield 34, 3) := by decide +kernel
theorem dX2_become_88 : decode cX2_become 88 = .ok (.iconst 0, 1) := by decide +kernel
theorem dX2_become_89 : decode cX2_become 89 = .ok (.aload_n 0, 1) := by decide +kernel
theorem dX2_become_90 : decode cX2_become 90 = .ok (.getfield 34, 3) := by decide +kernel
theorem dX2_become_93 : decode cX2_become 93 = .ok (.iconst 0, 1) := by decide +kernel
theorem dX2_become_94 : decode cX2_become 94 = .ok (.sipush 600, 3) := by decide +kernel
theorem dX2_become_97 : decode cX2_become 97 = .ok (.invokestatic 51, 3) := by decide +kernel
theorem dX2_become_100 : decode cX2_become 100 = .ok (.aload_n 1, 1) := by decide +kernel
theorem dX2_become_101 : decode cX2_become 101 = .ok (.getfield 38, 3) := by decide +kernel
theorem dX2_become_104 : decode cX2_become 104 = .ok (.iconst 0, 1) := by decide +kernel
theorem dX2_become_105 : decode cX2_become 105 = .ok (.aload_n 0, 1) := by decide +kernel
theorem dX2_become_106 : decode cX2_become 106 = .ok (.getfield 38, 3) := by decide +kernel
theorem dX2_become_109 : decode cX2_become 109 = .ok (.iconst 0, 1) := by decide +kernel
theorem dX2_become_110 : decode cX2_become 110 = .ok (.sipush 600, 3) := by decide +kernel
theorem dX2_become_113 : decode cX2_become 113 = .ok (.invokestatic 51, 3) := by decide +kernel
theorem dX2_become_116 : decode cX2_become 116 = .ok (.aload_n 1, 1) := by decide +kernel
theorem dX2_become_117 : decode cX2_become 117 = .ok (.getfield 41, 3) := by decide +kernel
theorem dX2_become_120 : decode cX2_become 120 = .ok (.iconst 0, 1) := by decide +kernel
theorem dX2_become_121 : decode cX2_become 121 = .ok (.aload_n 0, 1) := by decide +kernel
theorem dX2_become_122 : decode cX2_become 122 = .ok (.getfield 41, 3) := by decide +kernel
theorem dX2_become_125 : decode cX2_become 125 = .ok (.iconst 0, 1) := by decide +kernel
theorem dX2_become_126 : decode cX2_become 126 = .ok (.sipush 600, 3) := by decide +kernel
theorem dX2_become_129 : decode cX2_become 129 = .ok (.invokestatic 51, 3) := by decide +kernel
theorem dX2_become_132 : decode cX2_become 132 = .ok (.aload_n 1, 1) := by decide +kernel
theorem dX2_become_133 : decode cX2_become 133 = .ok (.getfield 44, 3) := by decide +kernel
theorem dX2_become_136 : decode cX2_become 136 = .ok (.iconst 0, 1) := by decide +kernel
theorem dX2_become_137 : decode cX2_become 137 = .ok (.aload_n 0, 1) := by decide +kernel
theorem dX2_become_138 : decode cX2_become 138 = .ok (.getfield 44, 3) := by decide +kernel
theorem dX2_become_141 : decode cX2_become 141 = .ok (.iconst 0, 1) := by decide +kernel
theorem dX2_become_142 : decode cX2_become 142 = .ok (.sipush 960, 3) := by decide +kernel
theorem dX2_become_145 : decode cX2_become 145 = .ok (.invokestatic 51, 3) := by decide +kernel
theorem dX2_become_148 : decode cX2_become 148 = .ok (.return_, 1) := by decide +kernel
theorem dX2_branch_0 : decode cX2_branch 0 = .ok (.aload_n 0, 1) := by decide +kernel
theorem dX2_branch_1 : decode cX2_branch 1 = .ok (.getfield 15, 3) := by decide +kernel
theorem dX2_branch_4 : decode cX2_branch 4 = .ok (.ifCond .lt 12, 3) := by decide +kernel
theorem dX2_branch_7 : decode cX2_branch 7 = .ok (.aload_n 0, 1) := by decide +kernel
theorem dX2_branch_8 : decode cX2_branch 8 = .ok (.getfield 15, 3) := by decide +kernel
theorem dX2_branch_11 : decode cX2_branch 11 = .ok (.bipush 8, 2) := by decide +kernel
theorem dX2_branch_13 : decode cX2_branch 13 = .ok (.if_icmp .lt 4, 3) := by decide +kernel
theorem dX2_branch_16 : decode cX2_branch 16 = .ok (.return_, 1) := by decide +kernel
theorem dX2_branch_17 : decode cX2_branch 17 = .ok (.aload_n 0, 1) := by decide +kernel
theorem dX2_branch_18 : decode cX2_branch 18 = .ok (.getfield 15, 3) := by decide +kernel
theorem dX2_branch_21 : decode cX2_branch 21 = .ok (.istore_n 3, 1) := by decide +kernel
theorem dX2_branch_22 : decode cX2_branch 22 = .ok (.aload_n 0, 1) := by decide +kernel
theorem dX2_branch_23 : decode cX2_branch 23 = .ok (.dup, 1) := by decide +kernel
theorem dX2_branch_24 : decode cX2_branch 24 = .ok (.getfield 15, 3) := by decide +kernel
theorem dX2_branch_27 : decode cX2_branch 27 = .ok (.iconst 1, 1) := by decide +kernel
theorem dX2_branch_28 : decode cX2_branch 28 = .ok (.iadd, 1) := by decide +kernel
theorem dX2_branch_29 : decode cX2_branch 29 = .ok (.putfield 15, 3) := by decide +kernel
theorem dX2_branch_32 : decode cX2_branch 32 = .ok (.aload_n 0, 1) := by decide +kernel
theorem dX2_branch_33 : decode cX2_branch 33 = .ok (.getfield 21, 3) := by decide +kernel
theorem dX2_branch_36 : decode cX2_branch 36 = .ok (.iload_n 3, 1) := by decide +kernel
theorem dX2_branch_37 : decode cX2_branch 37 = .ok (.iload_n 1, 1) := by decide +kernel
theorem dX2_branch_38 : decode cX2_branch 38 = .ok (.iastore, 1) := by decide +kernel
theorem dX2_branch_39 : decode cX2_branch 39 = .ok (.aload_n 0, 1) := by decide +kernel
theorem dX2_branch_40 : decode cX2_branch 40 = .ok (.getfield 25, 3) := by decide +kernel
theorem dX2_branch_43 : decode cX2_branch 43 = .ok (.iload_n 3, 1) := by decide +kernel
theorem dX2_branch_44 : decode cX2_branch 44 = .ok (.iload_n 2, 1) := by decide +kernel
theorem dX2_branch_45 : decode cX2_branch 45 = .ok (.iastore, 1) := by decide +kernel
theorem dX2_branch_46 : decode cX2_branch 46 = .ok (.aload_n 0, 1) := by decide +kernel
theorem dX2_branch_47 : decode cX2_branch 47 = .ok (.getfield 28, 3) := by decide +kernel
theorem dX2_branch_50 : decode cX2_branch 50 = .ok (.iload_n 3, 1) := by decide +kernel
theorem dX2_branch_51 : decode cX2_branch 51 = .ok (.iload_n 2, 1) := by decide +kernel
theorem dX2_branch_52 : decode cX2_branch 52 = .ok (.iastore, 1) := by decide +kernel
theorem dX2_branch_53 : decode cX2_branch 53 = .ok (.aload_n 0, 1) := by decide +kernel
theorem dX2_branch_54 : decode cX2_branch 54 = .ok (.getfield 31, 3) := by decide +kernel
theorem dX2_branch_57 : decode cX2_branch 57 = .ok (.iload_n 3, 1) := by decide +kernel
theorem dX2_branch_58 : decode cX2_branch 58 = .ok (.aload_n 0, 1) := by decide +kernel
theorem dX2_branch_59 : decode cX2_branch 59 = .ok (.getfield 18, 3) := by decide +kernel
theorem dX2_branch_62 : decode cX2_branch 62 = .ok (.iastore, 1) := by decide +kernel
theorem dX2_branch_63 : decode cX2_branch 63 = .ok (.iconst 0, 1) := by decide +kernel
theorem dX2_branch_64 : decode cX2_branch 64 = .ok (.istore 4, 2) := by decide +kernel
theorem dX2_branch_66 : decode cX2_branch 66 = .ok (.iload 4, 2) := by decide +kernel
theorem dX2_branch_68 : decode cX2_branch 68 = .ok (.bipush 120, 2) := by decide +kernel
theorem dX2_branch_70 : decode cX2_branch 70 = .ok (.if_icmp .ge 22, 3) := by decide +kernel
theorem dX2_branch_73 : decode cX2_branch 73 = .ok (.aload_n 0, 1) := by decide +kernel
theorem dX2_branch_74 : decode cX2_branch 74 = .ok (.getfield 44, 3) := by decide +kernel
theorem dX2_branch_77 : decode cX2_branch 77 = .ok (.iload_n 3, 1) := by decide +kernel
theorem dX2_branch_78 : decode cX2_branch 78 = .ok (.bipush 120, 2) := by decide +kernel
theorem dX2_branch_80 : decode cX2_branch 80 = .ok (.imul, 1) := by decide +kernel
theorem dX2_branch_81 : decode cX2_branch 81 = .ok (.iload 4, 2) := by decide +kernel
theorem dX2_branch_83 : decode cX2_branch 83 = .ok (.iadd, 1) := by decide +kernel
theorem dX2_branch_84 : decode cX2_branch 84 = .ok (.iconst 0, 1) := by decide +kernel
theorem dX2_branch_85 : decode cX2_branch 85 = .ok (.bastore, 1) := by decide +kernel
theorem dX2_branch_86 : decode cX2_branch 86 = .ok (.iinc 4 1, 3) := by decide +kernel
theorem dX2_branch_89 : decode cX2_branch 89 = .ok (.goto (-23), 3) := by decide +kernel
theorem dX2_branch_92 : decode cX2_branch 92 = .ok (.return_, 1) := by decide +kernel
theorem dX2_going_0 : decode cX2_going 0 = .ok (.aload_n 0, 1) := by decide +kernel
theorem dX2_going_1 : decode cX2_going 1 = .ok (.getfield 15, 3) := by decide +kernel
theorem dX2_going_4 : decode cX2_going 4 = .ok (.iconst 1, 1) := by decide +kernel
theorem dX2_going_5 : decode cX2_going 5 = .ok (.isub, 1) := by decide +kernel
theorem dX2_going_6 : decode cX2_going 6 = .ok (.ireturn, 1) := by decide +kernel
theorem dX2_now_0 : decode cX2_now 0 = .ok (.aload_n 0, 1) := by decide +kernel
theorem dX2_now_1 : decode cX2_now 1 = .ok (.getfield 15, 3) := by decide +kernel
theorem dX2_now_4 : decode cX2_now 4 = .ok (.ifCond .le 17, 3) := by decide +kernel
theorem dX2_now_7 : decode cX2_now 7 = .ok (.aload_n 0, 1) := by decide +kernel
theorem dX2_now_8 : decode cX2_now 8 = .ok (.getfield 28, 3) := by decide +kernel
theorem dX2_now_11 : decode cX2_now 11 = .ok (.aload_n 0, 1) := by decide +kernel
theorem dX2_now_12 : decode cX2_now 12 = .ok (.getfield 15, 3) := by decide +kernel
theorem dX2_now_15 : decode cX2_now 15 = .ok (.iconst 1, 1) := by decide +kernel
theorem dX2_now_16 : decode cX2_now 16 = .ok (.isub, 1) := by decide +kernel
theorem dX2_now_17 : decode cX2_now 17 = .ok (.iaload, 1) := by decide +kernel
theorem dX2_now_18 : decode cX2_now 18 = .ok (.goto 4, 3) := by decide +kernel
theorem dX2_now_21 : decode cX2_now 21 = .ok (.iconst 0, 1) := by decide +kernel
theorem dX2_now_22 : decode cX2_now 22 = .ok (.ireturn, 1) := by decide +kernel
theorem dX2_hasLine_0 : decode cX2_hasLine 0 = .ok (.iload_n 1, 1) := by decide +kernel
theorem dX2_hasLine_1 : decode cX2_hasLine 1 = .ok (.ifCond .lt 15, 3) := by decide +kernel
theorem dX2_hasLine_4 : decode cX2_hasLine 4 = .ok (.iload_n 1, 1) := by decide +kernel
theorem dX2_hasLine_5 : decode cX2_hasLine 5 = .ok (.aload_n 0, 1) := by decide +kernel
theorem dX2_hasLine_6 : decode cX2_hasLine 6 = .ok (.getfield 15, 3) := by decide +kernel
theorem dX2_hasLine_9 : decode cX2_hasLine 9 = .ok (.if_icmp .ge 7, 3) := by decide +kernel
theorem dX2_hasLine_12 : decode cX2_hasLine 12 = .ok (.iconst 1, 1) := by decide +kernel
theorem dX2_hasLine_13 : decode cX2_hasLine 13 = .ok (.goto 4, 3) := by decide +kernel
theorem dX2_hasLine_16 : decode cX2_hasLine 16 = .ok (.iconst 0, 1) := by decide +kernel
theorem dX2_hasLine_17 : decode cX2_hasLine 17 = .ok (.ireturn, 1) := by decide +kernel
theorem dX2_hasPlace_0 : decode cX2_hasPlace 0 = .ok (.aload_n 0, 1) := by decide +kernel
theorem dX2_hasPlace_1 : decode cX2_hasPlace 1 = .ok (.iload_n 1, 1) := by decide +kernel
theorem dX2_hasPlace_2 : decode cX2_hasPlace 2 = .ok (.invokevirtual 57, 3) := by decide +kernel
theorem dX2_hasPlace_5 : decode cX2_hasPlace 5 = .ok (.ifCond .eq 21, 3) := by decide +kernel
theorem dX2_hasPlace_8 : decode cX2_hasPlace 8 = .ok (.iload_n 2, 1) := by decide +kernel
theorem dX2_hasPlace_9 : decode cX2_hasPlace 9 = .ok (.ifCond .lt 17, 3) := by decide +kernel
theorem dX2_hasPlace_12 : decode cX2_hasPlace 12 = .ok (.iload_n 2, 1) := by decide +kernel
theorem dX2_hasPlace_13 : decode cX2_hasPlace 13 = .ok (.aload_n 0, 1) := by decide +kernel
theorem dX2_hasPlace_14 : decode cX2_hasPlace 14 = .ok (.getfield 28, 3) := by decide +kernel
theorem dX2_hasPlace_17 : decode cX2_hasPlace 17 = .ok (.iload_n 1, 1) := by decide +kernel
theorem dX2_hasPlace_18 : decode cX2_hasPlace 18 = .ok (.iaload, 1) := by decide +kernel
theorem dX2_hasPlace_19 : decode cX2_hasPlace 19 = .ok (.if_icmp .gt 7, 3) := by decide +kernel
theorem dX2_hasPlace_22 : decode cX2_hasPlace 22 = .ok (.iconst 1, 1) := by decide +kernel
theorem dX2_hasPlace_23 : decode cX2_hasPlace 23 = .ok (.goto 4, 3) := by decide +kernel
theorem dX2_hasPlace_26 : decode cX2_hasPlace 26 = .ok (.iconst 0, 1) := by decide +kernel
theorem dX2_hasPlace_27 : decode cX2_hasPlace 27 = .ok (.ireturn, 1) := by decide +kernel
theorem dX2_tipOf_0 : decode cX2_tipOf 0 = .ok (.aload_n 0, 1) := by decide +kernel
theorem dX2_tipOf_1 : decode cX2_tipOf 1 = .ok (.iload_n 1, 1) := by decide +kernel
theorem dX2_tipOf_2 : decode cX2_tipOf 2 = .ok (.invokevirtual 57, 3) := by decide +kernel
theorem dX2_tipOf_5 : decode cX2_tipOf 5 = .ok (.ifCond .eq 12, 3) := by decide +kernel
theorem dX2_tipOf_8 : decode cX2_tipOf 8 = .ok (.aload_n 0, 1) := by decide +kernel
theorem dX2_tipOf_9 : decode cX2_tipOf 9 = .ok (.getfield 28, 3) := by decide +kernel
theorem dX2_tipOf_12 : decode cX2_tipOf 12 = .ok (.iload_n 1, 1) := by decide +kernel
theorem dX2_tipOf_13 : decode cX2_tipOf 13 = .ok (.iaload, 1) := by decide +kernel
theorem dX2_tipOf_14 : decode cX2_tipOf 14 = .ok (.goto 4, 3) := by decide +kernel
theorem dX2_tipOf_17 : decode cX2_tipOf 17 = .ok (.iconst 0, 1) := by decide +kernel
theorem dX2_tipOf_18 : decode cX2_tipOf 18 = .ok (.ireturn, 1) := by decide +kernel
theorem dX2_forkOf_0 : decode cX2_forkOf 0 = .ok (.aload_n 0, 1) := by decide +kernel
theorem dX2_forkOf_1 : decode cX2_forkOf 1 = .ok (.iload_n 1, 1) := by decide +kernel
theorem dX2_forkOf_2 : decode cX2_forkOf 2 = .ok (.invokevirtual 57, 3) := by decide +kernel
theorem dX2_forkOf_5 : decode cX2_forkOf 5 = .ok (.ifCond .eq 12, 3) := by decide +kernel
theorem dX2_forkOf_8 : decode cX2_forkOf 8 = .ok (.aload_n 0, 1) := by decide +kernel
theorem dX2_forkOf_9 : decode cX2_forkOf 9 = .ok (.getfield 25, 3) := by decide +kernel
theorem dX2_forkOf_12 : decode cX2_forkOf 12 = .ok (.iload_n 1, 1) := by decide +kernel
theorem dX2_forkOf_13 : decode cX2_forkOf 13 = .ok (.iaload, 1) := by decide +kernel
theorem dX2_forkOf_14 : decode cX2_forkOf 14 = .ok (.goto 4, 3) := by decide +kernel
theorem dX2_forkOf_17 : decode cX2_forkOf 17 = .ok (.iconst 0, 1) := by decide +kernel
theorem dX2_forkOf_18 : decode cX2_forkOf 18 = .ok (.ireturn, 1) := by decide +kernel
theorem dX2_parentOf_0 : decode cX2_parentOf 0 = .ok (.aload_n 0, 1) := by decide +kernel
theorem dX2_parentOf_1 : decode cX2_parentOf 1 = .ok (.iload_n 1, 1) := by decide +kernel
theorem dX2_parentOf_2 : decode cX2_parentOf 2 = .ok (.invokevirtual 57, 3) := by decide +kernel
theorem dX2_parentOf_5 : decode cX2_parentOf 5 = .ok (.ifCond .eq 12, 3) := by decide +kernel
theorem dX2_parentOf_8 : decode cX2_parentOf 8 = .ok (.aload_n 0, 1) := by decide +kernel
theorem dX2_parentOf_9 : decode cX2_parentOf 9 = .ok (.getfield 21, 3) := by decide +kernel
theorem dX2_parentOf_12 : decode cX2_parentOf 12 = .ok (.iload_n 1, 1) := by decide +kernel
theorem dX2_parentOf_13 : decode cX2_parentOf 13 = .ok (.iaload, 1) := by decide +kernel
theorem dX2_parentOf_14 : decode cX2_parentOf 14 = .ok (.goto 5, 3) := by decide +kernel
theorem dX2_parentOf_17 : decode cX2_parentOf 17 = .ok (.bipush (-2), 2) := by decide +kernel
theorem dX2_parentOf_19 : decode cX2_parentOf 19 = .ok (.ireturn, 1) := by decide +kernel
theorem dX2_wayLength_0 : decode cX2_wayLength 0 = .ok (.iconst 0, 1) := by decide +kernel
theorem dX2_wayLength_1 : decode cX2_wayLength 1 = .ok (.istore_n 2, 1) := by decide +kernel
theorem dX2_wayLength_2 : decode cX2_wayLength 2 = .ok (.iload_n 1, 1) := by decide +kernel
theorem dX2_wayLength_3 : decode cX2_wayLength 3 = .ok (.istore_n 3, 1) := by decide +kernel
theorem dX2_wayLength_4 : decode cX2_wayLength 4 = .ok (.iload_n 2, 1) := by decide +kernel
theorem dX2_wayLength_5 : decode cX2_wayLength 5 = .ok (.bipush 8, 2) := by decide +kernel
theorem dX2_wayLength_7 : decode cX2_wayLength 7 = .ok (.if_icmp .ge 24, 3) := by decide +kernel
theorem dX2_wayLength_10 : decode cX2_wayLength 10 = .ok (.aload_n 0, 1) := by decide +kernel
theorem dX2_wayLength_11 : decode cX2_wayLength 11 = .ok (.iload_n 3, 1) := by decide +kernel
theorem dX2_wayLength_12 : decode cX2_wayLength 12 = .ok (.invokevirtual 57, 3) := by decide +kernel
theorem dX2_wayLength_15 : decode cX2_wayLength 15 = .ok (.ifCond .eq 16, 3) := by decide +kernel
theorem dX2_wayLength_18 : decode cX2_wayLength 18 = .ok (.iinc 2 1, 3) := by decide +kernel
theorem dX2_wayLength_21 : decode cX2_wayLength 21 = .ok (.aload_n 0, 1) := by decide +kernel
theorem dX2_wayLength_22 : decode cX2_wayLength 22 = .ok (.getfield 21, 3) := by decide +kernel
theorem dX2_wayLength_25 : decode cX2_wayLength 25 = .ok (.iload_n 3, 1) := by decide +kernel
theorem dX2_wayLength_26 : decode cX2_wayLength 26 = .ok (.iaload, 1) := by decide +kernel
theorem dX2_wayLength_27 : decode cX2_wayLength 27 = .ok (.istore_n 3, 1) := by decide +kernel
theorem dX2_wayLength_28 : decode cX2_wayLength 28 = .ok (.goto (-24), 3) := by decide +kernel
theorem dX2_wayLength_31 : decode cX2_wayLength 31 = .ok (.iload_n 2, 1) := by decide +kernel
theorem dX2_wayLength_32 : decode cX2_wayLength 32 = .ok (.ireturn, 1) := by decide +kernel
theorem dX2_parentOnes_0 : decode cX2_parentOnes 0 = .ok (.iconst 0, 1) := by decide +kernel
theorem dX2_parentOnes_1 : decode cX2_parentOnes 1 = .ok (.istore_n 1, 1) := by decide +kernel
theorem dX2_parentOnes_2 : decode cX2_parentOnes 2 = .ok (.iconst 1, 1) := by decide +kernel
theorem dX2_parentOnes_3 : decode cX2_parentOnes 3 = .ok (.istore_n 2, 1) := by decide +kernel
theorem dX2_parentOnes_4 : decode cX2_parentOnes 4 = .ok (.iload_n 2, 1) := by decide +kernel
theorem dX2_parentOnes_5 : decode cX2_parentOnes 5 = .ok (.aload_n 0, 1) := by decide +kernel
theorem dX2_parentOnes_6 : decode cX2_parentOnes 6 = .ok (.getfield 15, 3) := by decide +kernel
theorem dX2_parentOnes_9 : decode cX2_parentOnes 9 = .ok (.if_icmp .ge 20, 3) := by decide +kernel
theorem dX2_parentOnes_12 : decode cX2_parentOnes 12 = .ok (.iload_n 1, 1) := by decide +kernel
theorem dX2_parentOnes_13 : decode cX2_parentOnes 13 = .ok (.iconst 1, 1) := by decide +kernel
theorem dX2_parentOnes_14 : decode cX2_parentOnes 14 = .ok (.aload_n 0, 1) := by decide +kernel
theorem dX2_parentOnes_15 : decode cX2_parentOnes 15 = .ok (.getfield 21, 3) := by decide +kernel
theorem dX2_parentOnes_18 : decode cX2_parentOnes 18 = .ok (.iload_n 2, 1) := by decide +kernel
theorem dX2_parentOnes_19 : decode cX2_parentOnes 19 = .ok (.iaload, 1) := by decide +kernel
theorem dX2_parentOnes_20 : decode cX2_parentOnes 20 = .ok (.ishl, 1) := by decide +kernel
theorem dX2_parentOnes_21 : decode cX2_parentOnes 21 = .ok (.ior, 1) := by decide +kernel
theorem dX2_parentOnes_22 : decode cX2_parentOnes 22 = .ok (.istore_n 1, 1) := by decide +kernel
theorem dX2_parentOnes_23 : decode cX2_parentOnes 23 = .ok (.iinc 2 1, 3) := by decide +kernel
theorem dX2_parentOnes_26 : decode cX2_parentOnes 26 = .ok (.goto (-22), 3) := by decide +kernel
theorem dX2_parentOnes_29 : decode cX2_parentOnes 29 = .ok (.iload_n 1, 1) := by decide +kernel
theorem dX2_parentOnes_30 : decode cX2_parentOnes 30 = .ok (.ireturn, 1) := by decide +kernel
theorem dX2_leadsTo_0 : decode cX2_leadsTo 0 = .ok (.iload_n 1, 1) := by decide +kernel
theorem dX2_leadsTo_1 : decode cX2_leadsTo 1 = .ok (.istore 4, 2) := by decide +kernel
theorem dX2_leadsTo_3 : decode cX2_leadsTo 3 = .ok (.iconst 0, 1) := by decide +kernel
theorem dX2_leadsTo_4 : decode cX2_leadsTo 4 = .ok (.istore 5, 2) := by decide +kernel
theorem dX2_leadsTo_6 : decode cX2_leadsTo 6 = .ok (.iload 5, 2) := by decide +kernel
theorem dX2_leadsTo_8 : decode cX2_leadsTo 8 = .ok (.bipush 8, 2) := by decide +kernel
theorem dX2_leadsTo_10 : decode cX2_leadsTo 10 = .ok (.if_icmp .ge 51, 3) := by decide +kernel
theorem dX2_leadsTo_13 : decode cX2_leadsTo 13 = .ok (.iload 4, 2) := by decide +kernel
theorem dX2_leadsTo_15 : decode cX2_leadsTo 15 = .ok (.iload_n 2, 1) := by decide +kernel
theorem dX2_leadsTo_16 : decode cX2_leadsTo 16 = .ok (.if_icmp .eq 45, 3) := by decide +kernel
theorem dX2_leadsTo_19 : decode cX2_leadsTo 19 = .ok (.iload 4, 2) := by decide +kernel
theorem dX2_leadsTo_21 : decode cX2_leadsTo 21 = .ok (.ifCond .le 23, 3) := by decide +kernel
theorem dX2_leadsTo_24 : decode cX2_leadsTo 24 = .ok (.iload 4, 2) := by decide +kernel
theorem dX2_leadsTo_26 : decode cX2_leadsTo 26 = .ok (.aload_n 0, 1) := by decide +kernel
theorem dX2_leadsTo_27 : decode cX2_leadsTo 27 = .ok (.getfield 15, 3) := by decide +kernel
theorem dX2_leadsTo_30 : decode cX2_leadsTo 30 = .ok (.if_icmp .ge 14, 3) := by decide +kernel
theorem dX2_leadsTo_33 : decode cX2_leadsTo 33 = .ok (.iload_n 3, 1) := by decide +kernel
theorem dX2_leadsTo_34 : decode cX2_leadsTo 34 = .ok (.aload_n 0, 1) := by decide +kernel
theorem dX2_leadsTo_35 : decode cX2_leadsTo 35 = .ok (.getfield 25, 3) := by decide +kernel
theorem dX2_leadsTo_38 : decode cX2_leadsTo 38 = .ok (.iload 4, 2) := by decide +kernel
theorem dX2_leadsTo_40 : decode cX2_leadsTo 40 = .ok (.iaload, 1) := by decide +kernel
theorem dX2_leadsTo_41 : decode cX2_leadsTo 41 = .ok (.if_icmp .le 5, 3) := by decide +kernel
theorem dX2_leadsTo_44 : decode cX2_leadsTo 44 = .ok (.iconst 0, 1) := by decide +kernel
theorem dX2_leadsTo_45 : decode cX2_leadsTo 45 = .ok (.ireturn, 1) := by decide +kernel
theorem dX2_leadsTo_46 : decode cX2_leadsTo 46 = .ok (.aload_n 0, 1) := by decide +kernel
theorem dX2_leadsTo_47 : decode cX2_leadsTo 47 = .ok (.getfield 21, 3) := by decide +kernel
theorem dX2_leadsTo_50 : decode cX2_leadsTo 50 = .ok (.iload 4, 2) := by decide +kernel
theorem dX2_leadsTo_52 : decode cX2_leadsTo 52 = .ok (.iaload, 1) := by decide +kernel
theorem dX2_leadsTo_53 : decode cX2_leadsTo 53 = .ok (.istore 4, 2) := by decide +kernel
theorem dX2_leadsTo_55 : decode cX2_leadsTo 55 = .ok (.iinc 5 1, 3) := by decide +kernel
theorem dX2_leadsTo_58 : decode cX2_leadsTo 58 = .ok (.goto (-52), 3) := by decide +kernel
theorem dX2_leadsTo_61 : decode cX2_leadsTo 61 = .ok (.iload 4, 2) := by decide +kernel
theorem dX2_leadsTo_63 : decode cX2_leadsTo 63 = .ok (.iload_n 2, 1) := by decide +kernel
theorem dX2_leadsTo_64 : decode cX2_leadsTo 64 = .ok (.if_icmp .ne 7, 3) := by decide +kernel
theorem dX2_leadsTo_67 : decode cX2_leadsTo 67 = .ok (.iconst 1, 1) := by decide +kernel
theorem dX2_leadsTo_68 : decode cX2_leadsTo 68 = .ok (.goto 4, 3) := by decide +kernel
theorem dX2_leadsTo_71 : decode cX2_leadsTo 71 = .ok (.iconst 0, 1) := by decide +kernel
theorem dX2_leadsTo_72 : decode cX2_leadsTo 72 = .ok (.ireturn, 1) := by decide +kernel
theorem dX2_come_0 : decode cX2_come 0 = .ok (.aload_n 0, 1) := by decide +kernel
theorem dX2_come_1 : decode cX2_come 1 = .ok (.getfield 15, 3) := by decide +kernel
theorem dX2_come_4 : decode cX2_come 4 = .ok (.iconst 1, 1) := by decide +kernel
theorem dX2_come_5 : decode cX2_come 5 = .ok (.isub, 1) := by decide +kernel
theorem dX2_come_6 : decode cX2_come 6 = .ok (.istore 4, 2) := by decide +kernel
theorem dX2_come_8 : decode cX2_come 8 = .ok (.iload 4, 2) := by decide +kernel
theorem dX2_come_10 : decode cX2_come 10 = .ok (.ifCond .lt 11, 3) := by decide +kernel
theorem dX2_come_13 : decode cX2_come 13 = .ok (.aload_n 0, 1) := by decide +kernel
theorem dX2_come_14 : decode cX2_come 14 = .ok (.iconst 1, 1) := by decide +kernel
theorem dX2_come_15 : decode cX2_come 15 = .ok (.invokevirtual 61, 3) := by decide +kernel
theorem dX2_come_18 : decode cX2_come 18 = .ok (.ifCond .ne 5, 3) := by decide +kernel
theorem dX2_come_21 : decode cX2_come 21 = .ok (.iconst (-1), 1) := by decide +kernel
theorem dX2_come_22 : decode cX2_come 22 = .ok (.ireturn, 1) := by decide +kernel
theorem dX2_come_23 : decode cX2_come 23 = .ok (.aload_n 0, 1) := by decide +kernel
theorem dX2_come_24 : decode cX2_come 24 = .ok (.getfield 34, 3) := by decide +kernel
theorem dX2_come_27 : decode cX2_come 27 = .ok (.aload_n 0, 1) := by decide +kernel
theorem dX2_come_28 : decode cX2_come 28 = .ok (.getfield 18, 3) := by decide +kernel
theorem dX2_come_31 : decode cX2_come 31 = .ok (.iload_n 1, 1) := by decide +kernel
theorem dX2_come_32 : decode cX2_come 32 = .ok (.i2b, 1) := by decide +kernel
theorem dX2_come_33 : decode cX2_come 33 = .ok (.bastore, 1) := by decide +kernel
theorem dX2_come_34 : decode cX2_come 34 = .ok (.aload_n 0, 1) := by decide +kernel
theorem dX2_come_35 : decode cX2_come 35 = .ok (.getfield 38, 3) := by decide +kernel
theorem dX2_come_38 : decode cX2_come 38 = .ok (.aload_n 0, 1) := by decide +kernel
theorem dX2_come_39 : decode cX2_come 39 = .ok (.getfield 18, 3) := by decide +kernel
theorem dX2_come_42 : decode cX2_come 42 = .ok (.iload_n 2, 1) := by decide +kernel
theorem dX2_come_43 : decode cX2_come 43 = .ok (.iastore, 1) := by decide +kernel
theorem dX2_come_44 : decode cX2_come 44 = .ok (.aload_n 0, 1) := by decide +kernel
theorem dX2_come_45 : decode cX2_come 45 = .ok (.getfield 41, 3) := by decide +kernel
theorem dX2_come_48 : decode cX2_come 48 = .ok (.aload_n 0, 1) := by decide +kernel
theorem dX2_come_49 : decode cX2_come 49 = .ok (.getfield 18, 3) := by decide +kernel
theorem dX2_come_52 : decode cX2_come 52 = .ok (.iload_n 3, 1) := by decide +kernel
theorem dX2_come_53 : decode cX2_come 53 = .ok (.iastore, 1) := by decide +kernel
theorem dX2_come_54 : decode cX2_come 54 = .ok (.aload_n 0, 1) := by decide +kernel
theorem dX2_come_55 : decode cX2_come 55 = .ok (.dup, 1) := by decide +kernel
theorem dX2_come_56 : decode cX2_come 56 = .ok (.getfield 18, 3) := by decide +kernel
theorem dX2_come_59 : decode cX2_come 59 = .ok (.iconst 1, 1) := by decide +kernel
theorem dX2_come_60 : decode cX2_come 60 = .ok (.iadd, 1) := by decide +kernel
theorem dX2_come_61 : decode cX2_come 61 = .ok (.putfield 18, 3) := by decide +kernel
theorem dX2_come_64 : decode cX2_come 64 = .ok (.aload_n 0, 1) := by decide +kernel
theorem dX2_come_65 : decode cX2_come 65 = .ok (.getfield 28, 3) := by decide +kernel
theorem dX2_come_68 : decode cX2_come 68 = .ok (.iload 4, 2) := by decide +kernel
theorem dX2_come_70 : decode cX2_come 70 = .ok (.dup2, 1) := by decide +kernel
theorem dX2_come_71 : decode cX2_come 71 = .ok (.iaload, 1) := by decide +kernel
theorem dX2_come_72 : decode cX2_come 72 = .ok (.iconst 1, 1) := by decide +kernel
theorem dX2_come_73 : decode cX2_come 73 = .ok (.iadd, 1) := by decide +kernel
theorem dX2_come_74 : decode cX2_come 74 = .ok (.iastore, 1) := by decide +kernel
theorem dX2_come_75 : decode cX2_come 75 = .ok (.aload_n 0, 1) := by decide +kernel
theorem dX2_come_76 : decode cX2_come 76 = .ok (.invokevirtual 64, 3) := by decide +kernel
theorem dX2_come_79 : decode cX2_come 79 = .ok (.ifCond .ne 21, 3) := by decide +kernel
theorem dX2_come_82 : decode cX2_come 82 = .ok (.aload_n 0, 1) := by decide +kernel
theorem dX2_come_83 : decode cX2_come 83 = .ok (.iload 4, 2) := by decide +kernel
theorem dX2_come_85 : decode cX2_come 85 = .ok (.aload_n 0, 1) := by decide +kernel
theorem dX2_come_86 : decode cX2_come 86 = .ok (.aload_n 0, 1) := by decide +kernel
theorem dX2_come_87 : decode cX2_come 87 = .ok (.getfield 28, 3) := by decide +kernel
theorem dX2_come_90 : decode cX2_come 90 = .ok (.iload 4, 2) := by decide +kernel
theorem dX2_come_92 : decode cX2_come 92 = .ok (.iaload, 1) := by decide +kernel
theorem dX2_come_93 : decode cX2_come 93 = .ok (.invokevirtual 68, 3) := by decide +kernel
theorem dX2_come_96 : decode cX2_come 96 = .ok (.iconst 1, 1) := by decide +kernel
theorem dX2_come_97 : decode cX2_come 97 = .ok (.invokevirtual 72, 3) := by decide +kernel
theorem dX2_come_100 : decode cX2_come 100 = .ok (.aload_n 0, 1) := by decide +kernel
theorem dX2_come_101 : decode cX2_come 101 = .ok (.getfield 28, 3) := by decide +kernel
theorem dX2_come_104 : decode cX2_come 104 = .ok (.iload 4, 2) := by decide +kernel
theorem dX2_come_106 : decode cX2_come 106 = .ok (.iaload, 1) := by decide +kernel
theorem dX2_come_107 : decode cX2_come 107 = .ok (.ireturn, 1) := by decide +kernel
theorem dX2_hasRoomFor_0 : decode cX2_hasRoomFor 0 = .ok (.aload_n 0, 1) := by decide +kernel
theorem dX2_hasRoomFor_1 : decode cX2_hasRoomFor 1 = .ok (.getfield 18, 3) := by decide +kernel
theorem dX2_hasRoomFor_4 : decode cX2_hasRoomFor 4 = .ok (.iload_n 1, 1) := by decide +kernel
theorem dX2_hasRoomFor_5 : decode cX2_hasRoomFor 5 = .ok (.iadd, 1) := by decide +kernel
theorem dX2_hasRoomFor_6 : decode cX2_hasRoomFor 6 = .ok (.sipush 600, 3) := by decide +kernel
theorem dX2_hasRoomFor_9 : decode cX2_hasRoomFor 9 = .ok (.if_icmp .gt 19, 3) := by decide +kernel
theorem dX2_hasRoomFor_12 : decode cX2_hasRoomFor 12 = .ok (.aload_n 0, 1) := by decide +kernel
theorem dX2_hasRoomFor_13 : decode cX2_hasRoomFor 13 = .ok (.invokevirtual 76, 3) := by decide +kernel
theorem dX2_hasRoomFor_16 : decode cX2_hasRoomFor 16 = .ok (.iload_n 1, 1) := by decide +kernel
theorem dX2_hasRoomFor_17 : decode cX2_hasRoomFor 17 = .ok (.iadd, 1) := by decide +kernel
theorem dX2_hasRoomFor_18 : decode cX2_hasRoomFor 18 = .ok (.sipush 240, 3) := by decide +kernel
theorem dX2_hasRoomFor_21 : decode cX2_hasRoomFor 21 = .ok (.if_icmp .gt 7, 3) := by decide +kernel
theorem dX2_hasRoomFor_24 : decode cX2_hasRoomFor 24 = .ok (.iconst 1, 1) := by decide +kernel
theorem dX2_hasRoomFor_25 : decode cX2_hasRoomFor 25 = .ok (.goto 4, 3) := by decide +kernel
theorem dX2_hasRoomFor_28 : decode cX2_hasRoomFor 28 = .ok (.iconst 0, 1) := by decide +kernel
theorem dX2_hasRoomFor_29 : decode cX2_hasRoomFor 29 = .ok (.ireturn, 1) := by decide +kernel
theorem dX2_missingToFull_0 : decode cX2_missingToFull 0 = .ok (.aload_n 0, 1) := by decide +kernel
theorem dX2_missingToFull_1 : decode cX2_missingToFull 1 = .ok (.getfield 9, 3) := by decide +kernel
theorem dX2_missingToFull_4 : decode cX2_missingToFull 4 = .ok (.iconst 1, 1) := by decide +kernel
theorem dX2_missingToFull_5 : decode cX2_missingToFull 5 = .ok (.if_icmp .ge 7, 3) := by decide +kernel
theorem dX2_missingToFull_8 : decode cX2_missingToFull 8 = .ok (.iconst 0, 1) := by decide +kernel
theorem dX2_missingToFull_9 : decode cX2_missingToFull 9 = .ok (.goto 12, 3) := by decide +kernel
theorem dX2_missingToFull_12 : decode cX2_missingToFull 12 = .ok (.aload_n 0, 1) := by decide +kernel
theorem dX2_missingToFull_13 : decode cX2_missingToFull 13 = .ok (.invokevirtual 76, 3) := by decide +kernel
theorem dX2_missingToFull_16 : decode cX2_missingToFull 16 = .ok (.aload_n 0, 1) := by decide +kernel
theorem dX2_missingToFull_17 : decode cX2_missingToFull 17 = .ok (.getfield 9, 3) := by decide +kernel
theorem dX2_missingToFull_20 : decode cX2_missingToFull 20 = .ok (.irem, 1) := by decide +kernel
theorem dX2_missingToFull_21 : decode cX2_missingToFull 21 = .ok (.istore_n 1, 1) := by decide +kernel
theorem dX2_missingToFull_22 : decode cX2_missingToFull 22 = .ok (.iload_n 1, 1) := by decide +kernel
theorem dX2_missingToFull_23 : decode cX2_missingToFull 23 = .ok (.ifCond .ne 7, 3) := by decide +kernel
theorem dX2_missingToFull_26 : decode cX2_missingToFull 26 = .ok (.iconst 0, 1) := by decide +kernel
theorem dX2_missingToFull_27 : decode cX2_missingToFull 27 = .ok (.goto 9, 3) := by decide +kernel
theorem dX2_missingToFull_30 : decode cX2_missingToFull 30 = .ok (.aload_n 0, 1) := by decide +kernel
theorem dX2_missingToFull_31 : decode cX2_missingToFull 31 = .ok (.getfield 9, 3) := by decide +kernel
theorem dX2_missingToFull_34 : decode cX2_missingToFull 34 = .ok (.iload_n 1, 1) := by decide +kernel
theorem dX2_missingToFull_35 : decode cX2_missingToFull 35 = .ok (.isub, 1) := by decide +kernel
theorem dX2_missingToFull_36 : decode cX2_missingToFull 36 = .ok (.ireturn, 1) := by decide +kernel
theorem dX2_rowOf_0 : decode cX2_rowOf 0 = .ok (.iload_n 1, 1) := by decide +kernel
theorem dX2_rowOf_1 : decode cX2_rowOf 1 = .ok (.ifCond .lt 26, 3) := by decide +kernel
theorem dX2_rowOf_4 : decode cX2_rowOf 4 = .ok (.iload_n 1, 1) := by decide +kernel
theorem dX2_rowOf_5 : decode cX2_rowOf 5 = .ok (.aload_n 0, 1) := by decide +kernel
theorem dX2_rowOf_6 : decode cX2_rowOf 6 = .ok (.getfield 15, 3) := by decide +kernel
theorem dX2_rowOf_9 : decode cX2_rowOf 9 = .ok (.if_icmp .ge 18, 3) := by decide +kernel
theorem dX2_rowOf_12 : decode cX2_rowOf 12 = .ok (.iload_n 2, 1) := by decide +kernel
theorem dX2_rowOf_13 : decode cX2_rowOf 13 = .ok (.iconst 1, 1) := by decide +kernel
theorem dX2_rowOf_14 : decode cX2_rowOf 14 = .ok (.if_icmp .lt 13, 3) := by decide +kernel
theorem dX2_rowOf_17 : decode cX2_rowOf 17 = .ok (.iload_n 2, 1) := by decide +kernel
theorem dX2_rowOf_18 : decode cX2_rowOf 18 = .ok (.aload_n 0, 1) := by decide +kernel
theorem dX2_rowOf_19 : decode cX2_rowOf 19 = .ok (.getfield 28, 3) := by decide +kernel
theorem dX2_rowOf_22 : decode cX2_rowOf 22 = .ok (.iload_n 1, 1) := by decide +kernel
theorem dX2_rowOf_23 : decode cX2_rowOf 23 = .ok (.iaload, 1) := by decide +kernel
theorem dX2_rowOf_24 : decode cX2_rowOf 24 = .ok (.if_icmp .le 5, 3) := by decide +kernel
theorem dX2_rowOf_27 : decode cX2_rowOf 27 = .ok (.iconst (-1), 1) := by decide +kernel
theorem dX2_rowOf_28 : decode cX2_rowOf 28 = .ok (.ireturn, 1) := by decide +kernel
theorem dX2_rowOf_29 : decode cX2_rowOf 29 = .ok (.iload_n 1, 1) := by decide +kernel
theorem dX2_rowOf_30 : decode cX2_rowOf 30 = .ok (.istore_n 3, 1) := by decide +kernel
theorem dX2_rowOf_31 : decode cX2_rowOf 31 = .ok (.iconst 0, 1) := by decide +kernel
theorem dX2_rowOf_32 : decode cX2_rowOf 32 = .ok (.istore 4, 2) := by decide +kernel
theorem dX2_rowOf_34 : decode cX2_rowOf 34 = .ok (.iload 4, 2) := by decide +kernel
theorem dX2_rowOf_36 : decode cX2_rowOf 36 = .ok (.bipush 8, 2) := by decide +kernel
theorem dX2_rowOf_38 : decode cX2_rowOf 38 = .ok (.if_icmp .ge 30, 3) := by decide +kernel
theorem dX2_rowOf_41 : decode cX2_rowOf 41 = .ok (.iload_n 3, 1) := by decide +kernel
theorem dX2_rowOf_42 : decode cX2_rowOf 42 = .ok (.ifCond .le 26, 3) := by decide +kernel
theorem dX2_rowOf_45 : decode cX2_rowOf 45 = .ok (.iload_n 2, 1) := by decide +kernel
theorem dX2_rowOf_46 : decode cX2_rowOf 46 = .ok (.aload_n 0, 1) := by decide +kernel
theorem dX2_rowOf_47 : decode cX2_rowOf 47 = .ok (.getfield 25, 3) := by decide +kernel
theorem dX2_rowOf_50 : decode cX2_rowOf 50 = .ok (.iload_n 3, 1) := by decide +kernel
theorem dX2_rowOf_51 : decode cX2_rowOf 51 = .ok (.iaload, 1) := by decide +kernel
theorem dX2_rowOf_52 : decode cX2_rowOf 52 = .ok (.if_icmp .gt 16, 3) := by decide +kernel
theorem dX2_rowOf_55 : decode cX2_rowOf 55 = .ok (.aload_n 0, 1) := by decide +kernel
theorem dX2_rowOf_56 : decode cX2_rowOf 56 = .ok (.getfield 21, 3) := by decide +kernel
theorem dX2_rowOf_59 : decode cX2_rowOf 59 = .ok (.iload_n 3, 1) := by decide +kernel
theorem dX2_rowOf_60 : decode cX2_rowOf 60 = .ok (.iaload, 1) := by decide +kernel
theorem dX2_rowOf_61 : decode cX2_rowOf 61 = .ok (.istore_n 3, 1) := by decide +kernel
theorem dX2_rowOf_62 : decode cX2_rowOf 62 = .ok (.iinc 4 1, 3) := by decide +kernel
theorem dX2_rowOf_65 : decode cX2_rowOf 65 = .ok (.goto (-31), 3) := by decide +kernel
theorem dX2_rowOf_68 : decode cX2_rowOf 68 = .ok (.iload_n 3, 1) := by decide +kernel
theorem dX2_rowOf_69 : decode cX2_rowOf 69 = .ok (.ifCond .ge 7, 3) := by decide +kernel
theorem dX2_rowOf_72 : decode cX2_rowOf 72 = .ok (.iconst (-1), 1) := by decide +kernel
theorem dX2_rowOf_73 : decode cX2_rowOf 73 = .ok (.goto 20, 3) := by decide +kernel
theorem dX2_rowOf_76 : decode cX2_rowOf 76 = .ok (.aload_n 0, 1) := by decide +kernel
theorem dX2_rowOf_77 : decode cX2_rowOf 77 = .ok (.getfield 31, 3) := by decide +kernel
theorem dX2_rowOf_80 : decode cX2_rowOf 80 = .ok (.iload_n 3, 1) := by decide +kernel
theorem dX2_rowOf_81 : decode cX2_rowOf 81 = .ok (.iaload, 1) := by decide +kernel
theorem dX2_rowOf_82 : decode cX2_rowOf 82 = .ok (.iload_n 2, 1) := by decide +kernel
theorem dX2_rowOf_83 : decode cX2_rowOf 83 = .ok (.iadd, 1) := by decide +kernel
theorem dX2_rowOf_84 : decode cX2_rowOf 84 = .ok (.aload_n 0, 1) := by decide +kernel
theorem dX2_rowOf_85 : decode cX2_rowOf 85 = .ok (.getfield 25, 3) := by decide +kernel
theorem dX2_rowOf_88 : decode cX2_rowOf 88 = .ok (.iload_n 3, 1) := by decide +kernel
theorem dX2_rowOf_89 : decode cX2_rowOf 89 = .ok (.iaload, 1) := by decide +kernel
theorem dX2_rowOf_90 : decode cX2_rowOf 90 = .ok (.isub, 1) := by decide +kernel
theorem dX2_rowOf_91 : decode cX2_rowOf 91 = .ok (.iconst 1, 1) := by decide +kernel
theorem dX2_rowOf_92 : decode cX2_rowOf 92 = .ok (.isub, 1) := by decide +kernel
theorem dX2_rowOf_93 : decode cX2_rowOf 93 = .ok (.ireturn, 1) := by decide +kernel
theorem dX2_hasRow_0 : decode cX2_hasRow 0 = .ok (.iload_n 1, 1) := by decide +kernel
theorem dX2_hasRow_1 : decode cX2_hasRow 1 = .ok (.ifCond .lt 15, 3) := by decide +kernel
theorem dX2_hasRow_4 : decode cX2_hasRow 4 = .ok (.iload_n 1, 1) := by decide +kernel
theorem dX2_hasRow_5 : decode cX2_hasRow 5 = .ok (.aload_n 0, 1) := by decide +kernel
theorem dX2_hasRow_6 : decode cX2_hasRow 6 = .ok (.getfield 18, 3) := by decide +kernel
theorem dX2_hasRow_9 : decode cX2_hasRow 9 = .ok (.if_icmp .ge 7, 3) := by decide +kernel
theorem dX2_hasRow_12 : decode cX2_hasRow 12 = .ok (.iconst 1, 1) := by decide +kernel
theorem dX2_hasRow_13 : decode cX2_hasRow 13 = .ok (.goto 4, 3) := by decide +kernel
theorem dX2_hasRow_16 : decode cX2_hasRow 16 = .ok (.iconst 0, 1) := by decide +kernel
theorem dX2_hasRow_17 : decode cX2_hasRow 17 = .ok (.ireturn, 1) := by decide +kernel
theorem dX2_sortIn_0 : decode cX2_sortIn 0 = .ok (.aload_n 0, 1) := by decide +kernel
theorem dX2_sortIn_1 : decode cX2_sortIn 1 = .ok (.iload_n 1, 1) := by decide +kernel
theorem dX2_sortIn_2 : decode cX2_sortIn 2 = .ok (.invokevirtual 79, 3) := by decide +kernel
theorem dX2_sortIn_5 : decode cX2_sortIn 5 = .ok (.ifCond .eq 12, 3) := by decide +kernel
theorem dX2_sortIn_8 : decode cX2_sortIn 8 = .ok (.aload_n 0, 1) := by decide +kernel
theorem dX2_sortIn_9 : decode cX2_sortIn 9 = .ok (.getfield 34, 3) := by decide +kernel
theorem dX2_sortIn_12 : decode cX2_sortIn 12 = .ok (.iload_n 1, 1) := by decide +kernel
theorem dX2_sortIn_13 : decode cX2_sortIn 13 = .ok (.baload, 1) := by decide +kernel
theorem dX2_sortIn_14 : decode cX2_sortIn 14 = .ok (.goto 4, 3) := by decide +kernel
theorem dX2_sortIn_17 : decode cX2_sortIn 17 = .ok (.iconst (-1), 1) := by decide +kernel
theorem dX2_sortIn_18 : decode cX2_sortIn 18 = .ok (.ireturn, 1) := by decide +kernel
theorem dX2_subjectIn_0 : decode cX2_subjectIn 0 = .ok (.aload_n 0, 1) := by decide +kernel
theorem dX2_subjectIn_1 : decode cX2_subjectIn 1 = .ok (.iload_n 1, 1) := by decide +kernel
theorem dX2_subjectIn_2 : decode cX2_subjectIn 2 = .ok (.invokevirtual 79, 3) := by decide +kernel
theorem dX2_subjectIn_5 : decode cX2_subjectIn 5 = .ok (.ifCond .eq 12, 3) := by decide +kernel
theorem dX2_subjectIn_8 : decode cX2_subjectIn 8 = .ok (.aload_n 0, 1) := by decide +kernel
theorem dX2_subjectIn_9 : decode cX2_subjectIn 9 = .ok (.getfield 38, 3) := by decide +kernel
theorem dX2_subjectIn_12 : decode cX2_subjectIn 12 = .ok (.iload_n 1, 1) := by decide +kernel
theorem dX2_subjectIn_13 : decode cX2_subjectIn 13 = .ok (.iaload, 1) := by decide +kernel
theorem dX2_subjectIn_14 : decode cX2_subjectIn 14 = .ok (.goto 4, 3) := by decide +kernel
theorem dX2_subjectIn_17 : decode cX2_subjectIn 17 = .ok (.iconst (-1), 1) := by decide +kernel
theorem dX2_subjectIn_18 : decode cX2_subjectIn 18 = .ok (.ireturn, 1) := by decide +kernel
theorem dX2_amountIn_0 : decode cX2_amountIn 0 = .ok (.aload_n 0, 1) := by decide +kernel
theorem dX2_amountIn_1 : decode cX2_amountIn 1 = .ok (.iload_n 1, 1) := by decide +kernel
theorem dX2_amountIn_2 : decode cX2_amountIn 2 = .ok (.invokevirtual 79, 3) := by decide +kernel
theorem dX2_amountIn_5 : decode cX2_amountIn 5 = .ok (.ifCond .eq 12, 3) := by decide +kernel
theorem dX2_amountIn_8 : decode cX2_amountIn 8 = .ok (.aload_n 0, 1) := by decide +kernel
theorem dX2_amountIn_9 : decode cX2_amountIn 9 = .ok (.getfield 41, 3) := by decide +kernel
theorem dX2_amountIn_12 : decode cX2_amountIn 12 = .ok (.iload_n 1, 1) := by decide +kernel
theorem dX2_amountIn_13 : decode cX2_amountIn 13 = .ok (.iaload, 1) := by decide +kernel
theorem dX2_amountIn_14 : decode cX2_amountIn 14 = .ok (.goto 4, 3) := by decide +kernel
theorem dX2_amountIn_17 : decode cX2_amountIn 17 = .ok (.iconst 0, 1) := by decide +kernel
theorem dX2_amountIn_18 : decode cX2_amountIn 18 = .ok (.ireturn, 1) := by decide +kernel
theorem dX2_isMark_0 : decode cX2_isMark 0 = .ok (.aload_n 0, 1) := by decide +kernel
theorem dX2_isMark_1 : decode cX2_isMark 1 = .ok (.iload_n 1, 1) := by decide +kernel
theorem dX2_isMark_2 : decode cX2_isMark 2 = .ok (.invokevirtual 79, 3) := by decide +kernel
theorem dX2_isMark_5 : decode cX2_isMark 5 = .ok (.ifCond .eq 27, 3) := by decide +kernel
theorem dX2_isMark_8 : decode cX2_isMark 8 = .ok (.aload_n 0, 1) := by decide +kernel
theorem dX2_isMark_9 : decode cX2_isMark 9 = .ok (.getfield 34, 3) := by decide +kernel
theorem dX2_isMark_12 : decode cX2_isMark 12 = .ok (.iload_n 1, 1) := by decide +kernel
theorem dX2_isMark_13 : decode cX2_isMark 13 = .ok (.baload, 1) := by decide +kernel
theorem dX2_isMark_14 : decode cX2_isMark 14 = .ok (.iconst 2, 1) := by decide +kernel
theorem dX2_isMark_15 : decode cX2_isMark 15 = .ok (.if_icmp .ne 17, 3) := by decide +kernel
theorem dX2_isMark_18 : decode cX2_isMark 18 = .ok (.aload_n 0, 1) := by decide +kernel
theorem dX2_isMark_19 : decode cX2_isMark 19 = .ok (.getfield 38, 3) := by decide +kernel
theorem dX2_isMark_22 : decode cX2_isMark 22 = .ok (.iload_n 1, 1) := by decide +kernel
theorem dX2_isMark_23 : decode cX2_isMark 23 = .ok (.iaload, 1) := by decide +kernel
theorem dX2_isMark_24 : decode cX2_isMark 24 = .ok (.iload_n 2, 1) := by decide +kernel
theorem dX2_isMark_25 : decode cX2_isMark 25 = .ok (.if_icmp .ne 7, 3) := by decide +kernel
theorem dX2_isMark_28 : decode cX2_isMark 28 = .ok (.iconst 1, 1) := by decide +kernel
theorem dX2_isMark_29 : decode cX2_isMark 29 = .ok (.goto 4, 3) := by decide +kernel
theorem dX2_isMark_32 : decode cX2_isMark 32 = .ok (.iconst 0, 1) := by decide +kernel
theorem dX2_isMark_33 : decode cX2_isMark 33 = .ok (.ireturn, 1) := by decide +kernel
theorem dX2_marks_0 : decode cX2_marks 0 = .ok (.iconst 0, 1) := by decide +kernel
theorem dX2_marks_1 : decode cX2_marks 1 = .ok (.istore_n 1, 1) := by decide +kernel
theorem dX2_marks_2 : decode cX2_marks 2 = .ok (.iconst 0, 1) := by decide +kernel
theorem dX2_marks_3 : decode cX2_marks 3 = .ok (.istore_n 2, 1) := by decide +kernel
theorem dX2_marks_4 : decode cX2_marks 4 = .ok (.iload_n 2, 1) := by decide +kernel
theorem dX2_marks_5 : decode cX2_marks 5 = .ok (.aload_n 0, 1) := by decide +kernel
theorem dX2_marks_6 : decode cX2_marks 6 = .ok (.getfield 18, 3) := by decide +kernel
theorem dX2_marks_9 : decode cX2_marks 9 = .ok (.if_icmp .ge 27, 3) := by decide +kernel
theorem dX2_marks_12 : decode cX2_marks 12 = .ok (.iload_n 1, 1) := by decide +kernel
theorem dX2_marks_13 : decode cX2_marks 13 = .ok (.aload_n 0, 1) := by decide +kernel
theorem dX2_marks_14 : decode cX2_marks 14 = .ok (.getfield 34, 3) := by decide +kernel
theorem dX2_marks_17 : decode cX2_marks 17 = .ok (.iload_n 2, 1) := by decide +kernel
theorem dX2_marks_18 : decode cX2_marks 18 = .ok (.baload, 1) := by decide +kernel
theorem dX2_marks_19 : decode cX2_marks 19 = .ok (.iconst 2, 1) := by decide +kernel
theorem dX2_marks_20 : decode cX2_marks 20 = .ok (.if_icmp .ne 7, 3) := by decide +kernel
theorem dX2_marks_23 : decode cX2_marks 23 = .ok (.iconst 1, 1) := by decide +kernel
theorem dX2_marks_24 : decode cX2_marks 24 = .ok (.goto 4, 3) := by decide +kernel
theorem dX2_marks_27 : decode cX2_marks 27 = .ok (.iconst 0, 1) := by decide +kernel
theorem dX2_marks_28 : decode cX2_marks 28 = .ok (.iadd, 1) := by decide +kernel
theorem dX2_marks_29 : decode cX2_marks 29 = .ok (.istore_n 1, 1) := by decide +kernel
theorem dX2_marks_30 : decode cX2_marks 30 = .ok (.iinc 2 1, 3) := by decide +kernel
theorem dX2_marks_33 : decode cX2_marks 33 = .ok (.goto (-29), 3) := by decide +kernel
theorem dX2_marks_36 : decode cX2_marks 36 = .ok (.iload_n 1, 1) := by decide +kernel
theorem dX2_marks_37 : decode cX2_marks 37 = .ok (.ireturn, 1) := by decide +kernel
theorem dX2_lineOfRow_0 : decode cX2_lineOfRow 0 = .ok (.aload_n 0, 1) := by decide +kernel
theorem dX2_lineOfRow_1 : decode cX2_lineOfRow 1 = .ok (.getfield 15, 3) := by decide +kernel
theorem dX2_lineOfRow_4 : decode cX2_lineOfRow 4 = .ok (.iconst 1, 1) := by decide +kernel
theorem dX2_lineOfRow_5 : decode cX2_lineOfRow 5 = .ok (.isub, 1) := by decide +kernel
theorem dX2_lineOfRow_6 : decode cX2_lineOfRow 6 = .ok (.istore_n 2, 1) := by decide +kernel
theorem dX2_lineOfRow_7 : decode cX2_lineOfRow 7 = .ok (.iload_n 2, 1) := by decide +kernel
theorem dX2_lineOfRow_8 : decode cX2_lineOfRow 8 = .ok (.ifCond .le 19, 3) := by decide +kernel
theorem dX2_lineOfRow_11 : decode cX2_lineOfRow 11 = .ok (.iload_n 1, 1) := by decide +kernel
theorem dX2_lineOfRow_12 : decode cX2_lineOfRow 12 = .ok (.aload_n 0, 1) := by decide +kernel
theorem dX2_lineOfRow_13 : decode cX2_lineOfRow 13 = .ok (.getfield 31, 3) := by decide +kernel
theorem dX2_lineOfRow_16 : decode cX2_lineOfRow 16 = .ok (.iload_n 2, 1) := by decide +kernel
theorem dX2_lineOfRow_17 : decode cX2_lineOfRow 17 = .ok (.iaload, 1) := by decide +kernel
theorem dX2_lineOfRow_18 : decode cX2_lineOfRow 18 = .ok (.if_icmp .ge 9, 3) := by decide +kernel
theorem dX2_lineOfRow_21 : decode cX2_lineOfRow 21 = .ok (.iinc 2 (-1), 3) := by decide +kernel
theorem dX2_lineOfRow_24 : decode cX2_lineOfRow 24 = .ok (.goto (-17), 3) := by decide +kernel
theorem dX2_lineOfRow_27 : decode cX2_lineOfRow 27 = .ok (.iload_n 2, 1) := by decide +kernel
theorem dX2_lineOfRow_28 : decode cX2_lineOfRow 28 = .ok (.ireturn, 1) := by decide +kernel
theorem dX2_placeOfRow_0 : decode cX2_placeOfRow 0 = .ok (.aload_n 0, 1) := by decide +kernel
theorem dX2_placeOfRow_1 : decode cX2_placeOfRow 1 = .ok (.iload_n 1, 1) := by decide +kernel
theorem dX2_placeOfRow_2 : decode cX2_placeOfRow 2 = .ok (.invokevirtual 57, 3) := by decide +kernel
theorem dX2_placeOfRow_5 : decode cX2_placeOfRow 5 = .ok (.ifCond .eq 23, 3) := by decide +kernel
theorem dX2_placeOfRow_8 : decode cX2_placeOfRow 8 = .ok (.aload_n 0, 1) := by decide +kernel
theorem dX2_placeOfRow_9 : decode cX2_placeOfRow 9 = .ok (.getfield 25, 3) := by decide +kernel
theorem dX2_placeOfRow_12 : decode cX2_placeOfRow 12 = .ok (.iload_n 1, 1) := by decide +kernel
theorem dX2_placeOfRow_13 : decode cX2_placeOfRow 13 = .ok (.iaload, 1) := by decide +kernel
theorem dX2_placeOfRow_14 : decode cX2_placeOfRow 14 = .ok (.iload_n 2, 1) := by decide +kernel
theorem dX2_placeOfRow_15 : decode cX2_placeOfRow 15 = .ok (.iadd, 1) := by decide +kernel
theorem dX2_placeOfRow_16 : decode cX2_placeOfRow 16 = .ok (.aload_n 0, 1) := by decide +kernel
theorem dX2_placeOfRow_17 : decode cX2_placeOfRow 17 = .ok (.getfield 31, 3) := by decide +kernel
theorem dX2_placeOfRow_20 : decode cX2_placeOfRow 20 = .ok (.iload_n 1, 1) := by decide +kernel
theorem dX2_placeOfRow_21 : decode cX2_placeOfRow 21 = .ok (.iaload, 1) := by decide +kernel
theorem dX2_placeOfRow_22 : decode cX2_placeOfRow 22 = .ok (.isub, 1) := by decide +kernel
theorem dX2_placeOfRow_23 : decode cX2_placeOfRow 23 = .ok (.iconst 1, 1) := by decide +kernel
theorem dX2_placeOfRow_24 : decode cX2_placeOfRow 24 = .ok (.iadd, 1) := by decide +kernel
theorem dX2_placeOfRow_25 : decode cX2_placeOfRow 25 = .ok (.goto 5, 3) := by decide +kernel
theorem dX2_placeOfRow_28 : decode cX2_placeOfRow 28 = .ok (.bipush (-2), 2) := by decide +kernel
theorem dX2_placeOfRow_30 : decode cX2_placeOfRow 30 = .ok (.ireturn, 1) := by decide +kernel
theorem dX2_changedAt_0 : decode cX2_changedAt 0 = .ok (.aload_n 0, 1) := by decide +kernel
theorem dX2_changedAt_1 : decode cX2_changedAt 1 = .ok (.iload_n 1, 1) := by decide +kernel
theorem dX2_changedAt_2 : decode cX2_changedAt 2 = .ok (.iload_n 2, 1) := by decide +kernel
theorem dX2_changedAt_3 : decode cX2_changedAt 3 = .ok (.invokevirtual 82, 3) := by decide +kernel
theorem dX2_changedAt_6 : decode cX2_changedAt 6 = .ok (.istore_n 3, 1) := by decide +kernel
theorem dX2_changedAt_7 : decode cX2_changedAt 7 = .ok (.aload_n 0, 1) := by decide +kernel
theorem dX2_changedAt_8 : decode cX2_changedAt 8 = .ok (.iload_n 3, 1) := by decide +kernel
theorem dX2_changedAt_9 : decode cX2_changedAt 9 = .ok (.invokevirtual 79, 3) := by decide +kernel
theorem dX2_changedAt_12 : decode cX2_changedAt 12 = .ok (.ifCond .eq 22, 3) := by decide +kernel
theorem dX2_changedAt_15 : decode cX2_changedAt 15 = .ok (.aload_n 0, 1) := by decide +kernel
theorem dX2_changedAt_16 : decode cX2_changedAt 16 = .ok (.getfield 34, 3) := by decide +kernel
theorem dX2_changedAt_19 : decode cX2_changedAt 19 = .ok (.iload_n 3, 1) := by decide +kernel
theorem dX2_changedAt_20 : decode cX2_changedAt 20 = .ok (.baload, 1) := by decide +kernel
theorem dX2_changedAt_21 : decode cX2_changedAt 21 = .ok (.iconst 1, 1) := by decide +kernel
theorem dX2_changedAt_22 : decode cX2_changedAt 22 = .ok (.if_icmp .gt 12, 3) := by decide +kernel
theorem dX2_changedAt_25 : decode cX2_changedAt 25 = .ok (.aload_n 0, 1) := by decide +kernel
theorem dX2_changedAt_26 : decode cX2_changedAt 26 = .ok (.getfield 38, 3) := by decide +kernel
theorem dX2_changedAt_29 : decode cX2_changedAt 29 = .ok (.iload_n 3, 1) := by decide +kernel
theorem dX2_changedAt_30 : decode cX2_changedAt 30 = .ok (.iaload, 1) := by decide +kernel
theorem dX2_changedAt_31 : decode cX2_changedAt 31 = .ok (.goto 4, 3) := by decide +kernel
theorem dX2_changedAt_34 : decode cX2_changedAt 34 = .ok (.iconst (-1), 1) := by decide +kernel
theorem dX2_changedAt_35 : decode cX2_changedAt 35 = .ok (.ireturn, 1) := by decide +kernel
theorem dX2_valueAs_0 : decode cX2_valueAs 0 = .ok (.iconst 0, 1) := by decide +kernel
theorem dX2_valueAs_1 : decode cX2_valueAs 1 = .ok (.istore 4, 2) := by decide +kernel
theorem dX2_valueAs_3 : decode cX2_valueAs 3 = .ok (.iload_n 3, 1) := by decide +kernel
theorem dX2_valueAs_4 : decode cX2_valueAs 4 = .ok (.aload_n 0, 1) := by decide +kernel
theorem dX2_valueAs_5 : decode cX2_valueAs 5 = .ok (.iload_n 2, 1) := by decide +kernel
theorem dX2_valueAs_6 : decode cX2_valueAs 6 = .ok (.invokevirtual 86, 3) := by decide +kernel
theorem dX2_valueAs_9 : decode cX2_valueAs 9 = .ok (.invokestatic 89, 3) := by decide +kernel
theorem dX2_valueAs_12 : decode cX2_valueAs 12 = .ok (.istore 5, 2) := by decide +kernel
theorem dX2_valueAs_14 : decode cX2_valueAs 14 = .ok (.iload 5, 2) := by decide +kernel
theorem dX2_valueAs_16 : decode cX2_valueAs 16 = .ok (.ifCond .le 74, 3) := by decide +kernel
theorem dX2_valueAs_19 : decode cX2_valueAs 19 = .ok (.aload_n 0, 1) := by decide +kernel
theorem dX2_valueAs_20 : decode cX2_valueAs 20 = .ok (.iload_n 2, 1) := by decide +kernel
theorem dX2_valueAs_21 : decode cX2_valueAs 21 = .ok (.iload 5, 2) := by decide +kernel
theorem dX2_valueAs_23 : decode cX2_valueAs 23 = .ok (.invokevirtual 82, 3) := by decide +kernel
theorem dX2_valueAs_26 : decode cX2_valueAs 26 = .ok (.istore 6, 2) := by decide +kernel
theorem dX2_valueAs_28 : decode cX2_valueAs 28 = .ok (.aload_n 0, 1) := by decide +kernel
theorem dX2_valueAs_29 : decode cX2_valueAs 29 = .ok (.iload 6, 2) := by decide +kernel
theorem dX2_valueAs_31 : decode cX2_valueAs 31 = .ok (.invokevirtual 79, 3) := by decide +kernel
theorem dX2_valueAs_34 : decode cX2_valueAs 34 = .ok (.ifCond .eq 50, 3) := by decide +kernel
theorem dX2_valueAs_37 : decode cX2_valueAs 37 = .ok (.aload_n 0, 1) := by decide +kernel
theorem dX2_valueAs_38 : decode cX2_valueAs 38 = .ok (.getfield 34, 3) := by decide +kernel
theorem dX2_valueAs_41 : decode cX2_valueAs 41 = .ok (.iload 6, 2) := by decide +kernel
theorem dX2_valueAs_43 : decode cX2_valueAs 43 = .ok (.baload, 1) := by decide +kernel
theorem dX2_valueAs_44 : decode cX2_valueAs 44 = .ok (.iconst 1, 1) := by decide +kernel
theorem dX2_valueAs_45 : decode cX2_valueAs 45 = .ok (.if_icmp .gt 39, 3) := by decide +kernel
theorem dX2_valueAs_48 : decode cX2_valueAs 48 = .ok (.aload_n 0, 1) := by decide +kernel
theorem dX2_valueAs_49 : decode cX2_valueAs 49 = .ok (.getfield 38, 3) := by decide +kernel
theorem dX2_valueAs_52 : decode cX2_valueAs 52 = .ok (.iload 6, 2) := by decide +kernel
theorem dX2_valueAs_54 : decode cX2_valueAs 54 = .ok (.iaload, 1) := by decide +kernel
theorem dX2_valueAs_55 : decode cX2_valueAs 55 = .ok (.iload_n 1, 1) := by decide +kernel
theorem dX2_valueAs_56 : decode cX2_valueAs 56 = .ok (.if_icmp .ne 28, 3) := by decide +kernel
theorem dX2_valueAs_59 : decode cX2_valueAs 59 = .ok (.iload 4, 2) := by decide +kernel
theorem dX2_valueAs_61 : decode cX2_valueAs 61 = .ok (.aload_n 0, 1) := by decide +kernel
theorem dX2_valueAs_62 : decode cX2_valueAs 62 = .ok (.getfield 41, 3) := by decide +kernel
theorem dX2_valueAs_65 : decode cX2_valueAs 65 = .ok (.iload 6, 2) := by decide +kernel
theorem dX2_valueAs_67 : decode cX2_valueAs 67 = .ok (.iaload, 1) := by decide +kernel
theorem dX2_valueAs_68 : decode cX2_valueAs 68 = .ok (.iadd, 1) := by decide +kernel
theorem dX2_valueAs_69 : decode cX2_valueAs 69 = .ok (.istore 4, 2) := by decide +kernel
theorem dX2_valueAs_71 : decode cX2_valueAs 71 = .ok (.aload_n 0, 1) := by decide +kernel
theorem dX2_valueAs_72 : decode cX2_valueAs 72 = .ok (.getfield 34, 3) := by decide +kernel
theorem dX2_valueAs_75 : decode cX2_valueAs 75 = .ok (.iload 6, 2) := by decide +kernel
theorem dX2_valueAs_77 : decode cX2_valueAs 77 = .ok (.baload, 1) := by decide +kernel
theorem dX2_valueAs_78 : decode cX2_valueAs 78 = .ok (.ifCond .ne 6, 3) := by decide +kernel
theorem dX2_valueAs_81 : decode cX2_valueAs 81 = .ok (.iload 4, 2) := by decide +kernel
theorem dX2_valueAs_83 : decode cX2_valueAs 83 = .ok (.ireturn, 1) := by decide +kernel
theorem dX2_valueAs_84 : decode cX2_valueAs 84 = .ok (.iinc 5 (-1), 3) := by decide +kernel
theorem dX2_valueAs_87 : decode cX2_valueAs 87 = .ok (.goto (-73), 3) := by decide +kernel
theorem dX2_valueAs_90 : decode cX2_valueAs 90 = .ok (.iload 4, 2) := by decide +kernel
theorem dX2_valueAs_92 : decode cX2_valueAs 92 = .ok (.ireturn, 1) := by decide +kernel
theorem dX2_lastChange_0 : decode cX2_lastChange 0 = .ok (.iload_n 3, 1) := by decide +kernel
theorem dX2_lastChange_1 : decode cX2_lastChange 1 = .ok (.aload_n 0, 1) := by decide +kernel
theorem dX2_lastChange_2 : decode cX2_lastChange 2 = .ok (.iload_n 2, 1) := by decide +kernel
theorem dX2_lastChange_3 : decode cX2_lastChange 3 = .ok (.invokevirtual 86, 3) := by decide +kernel
theorem dX2_lastChange_6 : decode cX2_lastChange 6 = .ok (.invokestatic 89, 3) := by decide +kernel
theorem dX2_lastChange_9 : decode cX2_lastChange 9 = .ok (.istore 4, 2) := by decide +kernel
theorem dX2_lastChange_11 : decode cX2_lastChange 11 = .ok (.iload 4, 2) := by decide +kernel
theorem dX2_lastChange_13 : decode cX2_lastChange 13 = .ok (.ifCond .le 20, 3) := by decide +kernel
theorem dX2_lastChange_16 : decode cX2_lastChange 16 = .ok (.aload_n 0, 1) := by decide +kernel
theorem dX2_lastChange_17 : decode cX2_lastChange 17 = .ok (.iload_n 2, 1) := by decide +kernel
theorem dX2_lastChange_18 : decode cX2_lastChange 18 = .ok (.iload 4, 2) := by decide +kernel
theorem dX2_lastChange_20 : decode cX2_lastChange 20 = .ok (.invokevirtual 94, 3) := by decide +kernel
theorem dX2_lastChange_23 : decode cX2_lastChange 23 = .ok (.iload_n 1, 1) := by decide +kernel
theorem dX2_lastChange_24 : decode cX2_lastChange 24 = .ok (.if_icmp .eq 9, 3) := by decide +kernel
theorem dX2_lastChange_27 : decode cX2_lastChange 27 = .ok (.iinc 4 (-1), 3) := by decide +kernel
theorem dX2_lastChange_30 : decode cX2_lastChange 30 = .ok (.goto (-19), 3) := by decide +kernel
theorem dX2_lastChange_33 : decode cX2_lastChange 33 = .ok (.iload 4, 2) := by decide +kernel
theorem dX2_lastChange_35 : decode cX2_lastChange 35 = .ok (.iconst 0, 1) := by decide +kernel
theorem dX2_lastChange_36 : decode cX2_lastChange 36 = .ok (.invokestatic 97, 3) := by decide +kernel
theorem dX2_lastChange_39 : decode cX2_lastChange 39 = .ok (.ireturn, 1) := by decide +kernel
theorem dX2_changesOf_0 : decode cX2_changesOf 0 = .ok (.aload_n 0, 1) := by decide +kernel
theorem dX2_changesOf_1 : decode cX2_changesOf 1 = .ok (.iload_n 2, 1) := by decide +kernel
theorem dX2_changesOf_2 : decode cX2_changesOf 2 = .ok (.invokevirtual 86, 3) := by decide +kernel
theorem dX2_changesOf_5 : decode cX2_changesOf 5 = .ok (.istore_n 3, 1) := by decide +kernel
theorem dX2_changesOf_6 : decode cX2_changesOf 6 = .ok (.iconst 0, 1) := by decide +kernel
theorem dX2_changesOf_7 : decode cX2_changesOf 7 = .ok (.istore 4, 2) := by decide +kernel
theorem dX2_changesOf_9 : decode cX2_changesOf 9 = .ok (.iconst 1, 1) := by decide +kernel
theorem dX2_changesOf_10 : decode cX2_changesOf 10 = .ok (.istore 5, 2) := by decide +kernel
theorem dX2_changesOf_12 : decode cX2_changesOf 12 = .ok (.iload 5, 2) := by decide +kernel
theorem dX2_changesOf_14 : decode cX2_changesOf 14 = .ok (.iload_n 3, 1) := by decide +kernel
theorem dX2_changesOf_15 : decode cX2_changesOf 15 = .ok (.if_icmp .gt 30, 3) := by decide +kernel
theorem dX2_changesOf_18 : decode cX2_changesOf 18 = .ok (.iload 4, 2) := by decide +kernel
theorem dX2_changesOf_20 : decode cX2_changesOf 20 = .ok (.aload_n 0, 1) := by decide +kernel
theorem dX2_changesOf_21 : decode cX2_changesOf 21 = .ok (.iload_n 2, 1) := by decide +kernel
theorem dX2_changesOf_22 : decode cX2_changesOf 22 = .ok (.iload 5, 2) := by decide +kernel
theorem dX2_changesOf_24 : decode cX2_changesOf 24 = .ok (.invokevirtual 94, 3) := by decide +kernel
theorem dX2_changesOf_27 : decode cX2_changesOf 27 = .ok (.iload_n 1, 1) := by decide +kernel
theorem dX2_changesOf_28 : decode cX2_changesOf 28 = .ok (.if_icmp .ne 7, 3) := by decide +kernel
theorem dX2_changesOf_31 : decode cX2_changesOf 31 = .ok (.iconst 1, 1) := by decide +kernel
theorem dX2_changesOf_32 : decode cX2_changesOf 32 = .ok (.goto 4, 3) := by decide +kernel
theorem dX2_changesOf_35 : decode cX2_changesOf 35 = .ok (.iconst 0, 1) := by decide +kernel
theorem dX2_changesOf_36 : decode cX2_changesOf 36 = .ok (.iadd, 1) := by decide +kernel
theorem dX2_changesOf_37 : decode cX2_changesOf 37 = .ok (.istore 4, 2) := by decide +kernel
theorem dX2_changesOf_39 : decode cX2_changesOf 39 = .ok (.iinc 5 1, 3) := by decide +kernel
theorem dX2_changesOf_42 : decode cX2_changesOf 42 = .ok (.goto (-30), 3) := by decide +kernel
theorem dX2_changesOf_45 : decode cX2_changesOf 45 = .ok (.iload 4, 2) := by decide +kernel
theorem dX2_changesOf_47 : decode cX2_changesOf 47 = .ok (.ireturn, 1) := by decide +kernel
theorem dX2_pieceHolding_0 : decode cX2_pieceHolding 0 = .ok (.iload_n 1, 1) := by decide +kernel
theorem dX2_pieceHolding_1 : decode cX2_pieceHolding 1 = .ok (.iconst 1, 1) := by decide +kernel
theorem dX2_pieceHolding_2 : decode cX2_pieceHolding 2 = .ok (.if_icmp .lt 11, 3) := by decide +kernel
theorem dX2_pieceHolding_5 : decode cX2_pieceHolding 5 = .ok (.aload_n 0, 1) := by decide +kernel
theorem dX2_pieceHolding_6 : decode cX2_pieceHolding 6 = .ok (.getfield 9, 3) := by decide +kernel
theorem dX2_pieceHolding_9 : decode cX2_pieceHolding 9 = .ok (.iconst 1, 1) := by decide +kernel
theorem dX2_pieceHolding_10 : decode cX2_pieceHolding 10 = .ok (.if_icmp .ge 7, 3) := by decide +kernel
theorem dX2_pieceHolding_13 : decode cX2_pieceHolding 13 = .ok (.iconst (-1), 1) := by decide +kernel
theorem dX2_pieceHolding_14 : decode cX2_pieceHolding 14 = .ok (.goto 11, 3) := by decide +kernel
theorem dX2_pieceHolding_17 : decode cX2_pieceHolding 17 = .ok (.iload_n 1, 1) := by decide +kernel
theorem dX2_pieceHolding_18 : decode cX2_pieceHolding 18 = .ok (.iconst 1, 1) := by decide +kernel
theorem dX2_pieceHolding_19 : decode cX2_pieceHolding 19 = .ok (.isub, 1) := by decide +kernel
theorem dX2_pieceHolding_20 : decode cX2_pieceHolding 20 = .ok (.aload_n 0, 1) := by decide +kernel
theorem dX2_pieceHolding_21 : decode cX2_pieceHolding 21 = .ok (.getfield 9, 3) := by decide +kernel
theorem dX2_pieceHolding_24 : decode cX2_pieceHolding 24 = .ok (.idiv, 1) := by decide +kernel
theorem dX2_pieceHolding_25 : decode cX2_pieceHolding 25 = .ok (.ireturn, 1) := by decide +kernel
theorem dX2_hasPiece_0 : decode cX2_hasPiece 0 = .ok (.iload_n 1, 1) := by decide +kernel
theorem dX2_hasPiece_1 : decode cX2_hasPiece 1 = .ok (.ifCond .lt 57, 3) := by decide +kernel
theorem dX2_hasPiece_4 : decode cX2_hasPiece 4 = .ok (.iload_n 1, 1) := by decide +kernel
theorem dX2_hasPiece_5 : decode cX2_hasPiece 5 = .ok (.aload_n 0, 1) := by decide +kernel
theorem dX2_hasPiece_6 : decode cX2_hasPiece 6 = .ok (.getfield 15, 3) := by decide +kernel
theorem dX2_hasPiece_9 : decode cX2_hasPiece 9 = .ok (.if_icmp .ge 49, 3) := by decide +kernel
theorem dX2_hasPiece_12 : decode cX2_hasPiece 12 = .ok (.iload_n 2, 1) := by decide +kernel
theorem dX2_hasPiece_13 : decode cX2_hasPiece 13 = .ok (.ifCond .lt 45, 3) := by decide +kernel
theorem dX2_hasPiece_16 : decode cX2_hasPiece 16 = .ok (.iload_n 2, 1) := by decide +kernel
theorem dX2_hasPiece_17 : decode cX2_hasPiece 17 = .ok (.bipush 120, 2) := by decide +kernel
theorem dX2_hasPiece_19 : decode cX2_hasPiece 19 = .ok (.if_icmp .ge 39, 3) := by decide +kernel
theorem dX2_hasPiece_22 : decode cX2_hasPiece 22 = .ok (.iload_n 2, 1) := by decide +kernel
theorem dX2_hasPiece_23 : decode cX2_hasPiece 23 = .ok (.iconst 1, 1) := by decide +kernel
theorem dX2_hasPiece_24 : decode cX2_hasPiece 24 = .ok (.iadd, 1) := by decide +kernel
theorem dX2_hasPiece_25 : decode cX2_hasPiece 25 = .ok (.aload_n 0, 1) := by decide +kernel
theorem dX2_hasPiece_26 : decode cX2_hasPiece 26 = .ok (.getfield 9, 3) := by decide +kernel
theorem dX2_hasPiece_29 : decode cX2_hasPiece 29 = .ok (.imul, 1) := by decide +kernel
theorem dX2_hasPiece_30 : decode cX2_hasPiece 30 = .ok (.aload_n 0, 1) := by decide +kernel
theorem dX2_hasPiece_31 : decode cX2_hasPiece 31 = .ok (.getfield 25, 3) := by decide +kernel
theorem dX2_hasPiece_34 : decode cX2_hasPiece 34 = .ok (.iload_n 1, 1) := by decide +kernel
theorem dX2_hasPiece_35 : decode cX2_hasPiece 35 = .ok (.iaload, 1) := by decide +kernel
theorem dX2_hasPiece_36 : decode cX2_hasPiece 36 = .ok (.if_icmp .le 22, 3) := by decide +kernel
theorem dX2_hasPiece_39 : decode cX2_hasPiece 39 = .ok (.iload_n 2, 1) := by decide +kernel
theorem dX2_hasPiece_40 : decode cX2_hasPiece 40 = .ok (.aload_n 0, 1) := by decide +kernel
theorem dX2_hasPiece_41 : decode cX2_hasPiece 41 = .ok (.getfield 9, 3) := by decide +kernel
theorem dX2_hasPiece_44 : decode cX2_hasPiece 44 = .ok (.imul, 1) := by decide +kernel
theorem dX2_hasPiece_45 : decode cX2_hasPiece 45 = .ok (.aload_n 0, 1) := by decide +kernel
theorem dX2_hasPiece_46 : decode cX2_hasPiece 46 = .ok (.getfield 28, 3) := by decide +kernel
theorem dX2_hasPiece_49 : decode cX2_hasPiece 49 = .ok (.iload_n 1, 1) := by decide +kernel
theorem dX2_hasPiece_50 : decode cX2_hasPiece 50 = .ok (.iaload, 1) := by decide +kernel
theorem dX2_hasPiece_51 : decode cX2_hasPiece 51 = .ok (.if_icmp .ge 7, 3) := by decide +kernel
theorem dX2_hasPiece_54 : decode cX2_hasPiece 54 = .ok (.iconst 1, 1) := by decide +kernel
theorem dX2_hasPiece_55 : decode cX2_hasPiece 55 = .ok (.goto 4, 3) := by decide +kernel
theorem dX2_hasPiece_58 : decode cX2_hasPiece 58 = .ok (.iconst 0, 1) := by decide +kernel
theorem dX2_hasPiece_59 : decode cX2_hasPiece 59 = .ok (.ireturn, 1) := by decide +kernel
theorem dX2_conditionOf_0 : decode cX2_conditionOf 0 = .ok (.aload_n 0, 1) := by decide +kernel
theorem dX2_conditionOf_1 : decode cX2_conditionOf 1 = .ok (.iload_n 1, 1) := by decide +kernel
theorem dX2_conditionOf_2 : decode cX2_conditionOf 2 = .ok (.iload_n 2, 1) := by decide +kernel
theorem dX2_conditionOf_3 : decode cX2_conditionOf 3 = .ok (.invokevirtual 100, 3) := by decide +kernel
theorem dX2_conditionOf_6 : decode cX2_conditionOf 6 = .ok (.ifCond .eq 17, 3) := by decide +kernel
theorem dX2_conditionOf_9 : decode cX2_conditionOf 9 = .ok (.aload_n 0, 1) := by decide +kernel
theorem dX2_conditionOf_10 : decode cX2_conditionOf 10 = .ok (.getfield 44, 3) := by decide +kernel
theorem dX2_conditionOf_13 : decode cX2_conditionOf 13 = .ok (.iload_n 1, 1) := by decide +kernel
theorem dX2_conditionOf_14 : decode cX2_conditionOf 14 = .ok (.bipush 120, 2) := by decide +kernel
theorem dX2_conditionOf_16 : decode cX2_conditionOf 16 = .ok (.imul, 1) := by decide +kernel
theorem dX2_conditionOf_17 : decode cX2_conditionOf 17 = .ok (.iload_n 2, 1) := by decide +kernel
theorem dX2_conditionOf_18 : decode cX2_conditionOf 18 = .ok (.iadd, 1) := by decide +kernel
theorem dX2_conditionOf_19 : decode cX2_conditionOf 19 = .ok (.baload, 1) := by decide +kernel
theorem dX2_conditionOf_20 : decode cX2_conditionOf 20 = .ok (.goto 4, 3) := by decide +kernel
theorem dX2_conditionOf_23 : decode cX2_conditionOf 23 = .ok (.iconst (-1), 1) := by decide +kernel
theorem dX2_conditionOf_24 : decode cX2_conditionOf 24 = .ok (.ireturn, 1) := by decide +kernel
theorem dX2_setCondition_0 : decode cX2_setCondition 0 = .ok (.aload_n 0, 1) := by decide +kernel
theorem dX2_setCondition_1 : decode cX2_setCondition 1 = .ok (.iload_n 1, 1) := by decide +kernel
theorem dX2_setCondition_2 : decode cX2_setCondition 2 = .ok (.iload_n 2, 1) := by decide +kernel
theorem dX2_setCondition_3 : decode cX2_setCondition 3 = .ok (.invokevirtual 100, 3) := by decide +kernel
theorem dX2_setCondition_6 : decode cX2_setCondition 6 = .ok (.ifCond .eq 16, 3) := by decide +kernel
theorem dX2_setCondition_9 : decode cX2_setCondition 9 = .ok (.aload_n 0, 1) := by decide +kernel
theorem dX2_setCondition_10 : decode cX2_setCondition 10 = .ok (.getfield 44, 3) := by decide +kernel
theorem dX2_setCondition_13 : decode cX2_setCondition 13 = .ok (.iload_n 1, 1) := by decide +kernel
theorem dX2_setCondition_14 : decode cX2_setCondition 14 = .ok (.bipush 120, 2) := by decide +kernel
theorem dX2_setCondition_16 : decode cX2_setCondition 16 = .ok (.imul, 1) := by decide +kernel
theorem dX2_setCondition_17 : decode cX2_setCondition 17 = .ok (.iload_n 2, 1) := by decide +kernel
theorem dX2_setCondition_18 : decode cX2_setCondition 18 = .ok (.iadd, 1) := by decide +kernel
theorem dX2_setCondition_19 : decode cX2_setCondition 19 = .ok (.iload_n 3, 1) := by decide +kernel
theorem dX2_setCondition_20 : decode cX2_setCondition 20 = .ok (.i2b, 1) := by decide +kernel
theorem dX2_setCondition_21 : decode cX2_setCondition 21 = .ok (.bastore, 1) := by decide +kernel
theorem dX2_setCondition_22 : decode cX2_setCondition 22 = .ok (.return_, 1) := by decide +kernel
theorem dX2_keeperOf_0 : decode cX2_keeperOf 0 = .ok (.iload_n 1, 1) := by decide +kernel
theorem dX2_keeperOf_1 : decode cX2_keeperOf 1 = .ok (.istore_n 3, 1) := by decide +kernel
theorem dX2_keeperOf_2 : decode cX2_keeperOf 2 = .ok (.iconst 0, 1) := by decide +kernel
theorem dX2_keeperOf_3 : decode cX2_keeperOf 3 = .ok (.istore 4, 2) := by decide +kernel
theorem dX2_keeperOf_5 : decode cX2_keeperOf 5 = .ok (.iload 4, 2) := by decide +kernel
theorem dX2_keeperOf_7 : decode cX2_keeperOf 7 = .ok (.bipush 8, 2) := by decide +kernel
theorem dX2_keeperOf_9 : decode cX2_keeperOf 9 = .ok (.if_icmp .ge 41, 3) := by decide +kernel
theorem dX2_keeperOf_12 : decode cX2_keeperOf 12 = .ok (.aload_n 0, 1) := by decide +kernel
theorem dX2_keeperOf_13 : decode cX2_keeperOf 13 = .ok (.iload_n 3, 1) := by decide +kernel
theorem dX2_keeperOf_14 : decode cX2_keeperOf 14 = .ok (.invokevirtual 57, 3) := by decide +kernel
theorem dX2_keeperOf_17 : decode cX2_keeperOf 17 = .ok (.ifCond .eq 33, 3) := by decide +kernel
theorem dX2_keeperOf_20 : decode cX2_keeperOf 20 = .ok (.iload_n 2, 1) := by decide +kernel
theorem dX2_keeperOf_21 : decode cX2_keeperOf 21 = .ok (.iconst 1, 1) := by decide +kernel
theorem dX2_keeperOf_22 : decode cX2_keeperOf 22 = .ok (.iadd, 1) := by decide +kernel
theorem dX2_keeperOf_23 : decode cX2_keeperOf 23 = .ok (.aload_n 0, 1) := by decide +kernel
theorem dX2_keeperOf_24 : decode cX2_keeperOf 24 = .ok (.getfield 9, 3) := by decide +kernel
theorem dX2_keeperOf_27 : decode cX2_keeperOf 27 = .ok (.imul, 1) := by decide +kernel
theorem dX2_keeperOf_28 : decode cX2_keeperOf 28 = .ok (.aload_n 0, 1) := by decide +kernel
theorem dX2_keeperOf_29 : decode cX2_keeperOf 29 = .ok (.getfield 25, 3) := by decide +kernel
theorem dX2_keeperOf_32 : decode cX2_keeperOf 32 = .ok (.iload_n 3, 1) := by decide +kernel
theorem dX2_keeperOf_33 : decode cX2_keeperOf 33 = .ok (.iaload, 1) := by decide +kernel
theorem dX2_keeperOf_34 : decode cX2_keeperOf 34 = .ok (.if_icmp .gt 16, 3) := by decide +kernel
theorem dX2_keeperOf_37 : decode cX2_keeperOf 37 = .ok (.aload_n 0, 1) := by decide +kernel
theorem dX2_keeperOf_38 : decode cX2_keeperOf 38 = .ok (.getfield 21, 3) := by decide +kernel
theorem dX2_keeperOf_41 : decode cX2_keeperOf 41 = .ok (.iload_n 3, 1) := by decide +kernel
theorem dX2_keeperOf_42 : decode cX2_keeperOf 42 = .ok (.iaload, 1) := by decide +kernel
theorem dX2_keeperOf_43 : decode cX2_keeperOf 43 = .ok (.istore_n 3, 1) := by decide +kernel
theorem dX2_keeperOf_44 : decode cX2_keeperOf 44 = .ok (.iinc 4 1, 3) := by decide +kernel
theorem dX2_keeperOf_47 : decode cX2_keeperOf 47 = .ok (.goto (-42), 3) := by decide +kernel
theorem dX2_keeperOf_50 : decode cX2_keeperOf 50 = .ok (.iload_n 3, 1) := by decide +kernel
theorem dX2_keeperOf_51 : decode cX2_keeperOf 51 = .ok (.ireturn, 1) := by decide +kernel
theorem dX2_hindranceOf_0 : decode cX2_hindranceOf 0 = .ok (.aload_n 0, 1) := by decide +kernel
theorem dX2_hindranceOf_1 : decode cX2_hindranceOf 1 = .ok (.iload_n 1, 1) := by decide +kernel
theorem dX2_hindranceOf_2 : decode cX2_hindranceOf 2 = .ok (.iload_n 2, 1) := by decide +kernel
theorem dX2_hindranceOf_3 : decode cX2_hindranceOf 3 = .ok (.invokevirtual 100, 3) := by decide +kernel
theorem dX2_hindranceOf_6 : decode cX2_hindranceOf 6 = .ok (.ifCond .ne 5, 3) := by decide +kernel
theorem dX2_hindranceOf_9 : decode cX2_hindranceOf 9 = .ok (.iconst 4, 1) := by decide +kernel
theorem dX2_hindranceOf_10 : decode cX2_hindranceOf 10 = .ok (.ireturn, 1) := by decide +kernel
theorem dX2_hindranceOf_11 : decode cX2_hindranceOf 11 = .ok (.aload_n 0, 1) := by decide +kernel
theorem dX2_hindranceOf_12 : decode cX2_hindranceOf 12 = .ok (.getfield 44, 3) := by decide +kernel
theorem dX2_hindranceOf_15 : decode cX2_hindranceOf 15 = .ok (.iload_n 1, 1) := by decide +kernel
theorem dX2_hindranceOf_16 : decode cX2_hindranceOf 16 = .ok (.bipush 120, 2) := by decide +kernel
theorem dX2_hindranceOf_18 : decode cX2_hindranceOf 18 = .ok (.imul, 1) := by decide +kernel
theorem dX2_hindranceOf_19 : decode cX2_hindranceOf 19 = .ok (.iload_n 2, 1) := by decide +kernel
theorem dX2_hindranceOf_20 : decode cX2_hindranceOf 20 = .ok (.iadd, 1) := by decide +kernel
theorem dX2_hindranceOf_21 : decode cX2_hindranceOf 21 = .ok (.baload, 1) := by decide +kernel
theorem dX2_hindranceOf_22 : decode cX2_hindranceOf 22 = .ok (.istore_n 3, 1) := by decide +kernel
theorem dX2_hindranceOf_23 : decode cX2_hindranceOf 23 = .ok (.iload_n 3, 1) := by decide +kernel
theorem dX2_hindranceOf_24 : decode cX2_hindranceOf 24 = .ok (.iconst 3, 1) := by decide +kernel
theorem dX2_hindranceOf_25 : decode cX2_hindranceOf 25 = .ok (.if_icmp .ne 5, 3) := by decide +kernel
theorem dX2_hindranceOf_28 : decode cX2_hindranceOf 28 = .ok (.iconst 5, 1) := by decide +kernel
theorem dX2_hindranceOf_29 : decode cX2_hindranceOf 29 = .ok (.ireturn, 1) := by decide +kernel
theorem dX2_hindranceOf_30 : decode cX2_hindranceOf 30 = .ok (.iload_n 1, 1) := by decide +kernel
theorem dX2_hindranceOf_31 : decode cX2_hindranceOf 31 = .ok (.aload_n 0, 1) := by decide +kernel
theorem dX2_hindranceOf_32 : decode cX2_hindranceOf 32 = .ok (.getfield 15, 3) := by decide +kernel
theorem dX2_hindranceOf_35 : decode cX2_hindranceOf 35 = .ok (.iconst 1, 1) := by decide +kernel
theorem dX2_hindranceOf_36 : decode cX2_hindranceOf 36 = .ok (.isub, 1) := by decide +kernel
theorem dX2_hindranceOf_37 : decode cX2_hindranceOf 37 = .ok (.if_icmp .ne 24, 3) := by decide +kernel
theorem dX2_hindranceOf_40 : decode cX2_hindranceOf 40 = .ok (.aload_n 0, 1) := by decide +kernel
theorem dX2_hindranceOf_41 : decode cX2_hindranceOf 41 = .ok (.getfield 28, 3) := by decide +kernel
theorem dX2_hindranceOf_44 : decode cX2_hindranceOf 44 = .ok (.iload_n 1, 1) := by decide +kernel
theorem dX2_hindranceOf_45 : decode cX2_hindranceOf 45 = .ok (.iaload, 1) := by decide +kernel
theorem dX2_hindranceOf_46 : decode cX2_hindranceOf 46 = .ok (.iload_n 2, 1) := by decide +kernel
theorem dX2_hindranceOf_47 : decode cX2_hindranceOf 47 = .ok (.iconst 1, 1) := by decide +kernel
theorem dX2_hindranceOf_48 : decode cX2_hindranceOf 48 = .ok (.iadd, 1) := by decide +kernel
theorem dX2_hindranceOf_49 : decode cX2_hindranceOf 49 = .ok (.aload_n 0, 1) := by decide +kernel
theorem dX2_hindranceOf_50 : decode cX2_hindranceOf 50 = .ok (.getfield 9, 3) := by decide +kernel
theorem dX2_hindranceOf_53 : decode cX2_hindranceOf 53 = .ok (.imul, 1) := by decide +kernel
theorem dX2_hindranceOf_54 : decode cX2_hindranceOf 54 = .ok (.if_icmp .ge 7, 3) := by decide +kernel
theorem dX2_hindranceOf_57 : decode cX2_hindranceOf 57 = .ok (.iconst 1, 1) := by decide +kernel
theorem dX2_hindranceOf_58 : decode cX2_hindranceOf 58 = .ok (.goto 4, 3) := by decide +kernel
theorem dX2_hindranceOf_61 : decode cX2_hindranceOf 61 = .ok (.iconst 0, 1) := by decide +kernel
theorem dX2_hindranceOf_62 : decode cX2_hindranceOf 62 = .ok (.istore 4, 2) := by decide +kernel
theorem dX2_hindranceOf_64 : decode cX2_hindranceOf 64 = .ok (.iload_n 3, 1) := by decide +kernel
theorem dX2_hindranceOf_65 : decode cX2_hindranceOf 65 = .ok (.iconst 1, 1) := by decide +kernel
theorem dX2_hindranceOf_66 : decode cX2_hindranceOf 66 = .ok (.if_icmp .ge 8, 3) := by decide +kernel
theorem dX2_hindranceOf_69 : decode cX2_hindranceOf 69 = .ok (.iload 4, 2) := by decide +kernel
theorem dX2_hindranceOf_71 : decode cX2_hindranceOf 71 = .ok (.ifCond .eq 7, 3) := by decide +kernel
theorem dX2_hindranceOf_74 : decode cX2_hindranceOf 74 = .ok (.iconst 0, 1) := by decide +kernel
theorem dX2_hindranceOf_75 : decode cX2_hindranceOf 75 = .ok (.goto 4, 3) := by decide +kernel
theorem dX2_hindranceOf_78 : decode cX2_hindranceOf 78 = .ok (.iconst 4, 1) := by decide +kernel
theorem dX2_hindranceOf_79 : decode cX2_hindranceOf 79 = .ok (.ireturn, 1) := by decide +kernel
theorem dX2_keptPieces_0 : decode cX2_keptPieces 0 = .ok (.iconst 0, 1) := by decide +kernel
theorem dX2_keptPieces_1 : decode cX2_keptPieces 1 = .ok (.istore_n 1, 1) := by decide +kernel
theorem dX2_keptPieces_2 : decode cX2_keptPieces 2 = .ok (.iconst 0, 1) := by decide +kernel
theorem dX2_keptPieces_3 : decode cX2_keptPieces 3 = .ok (.istore_n 2, 1) := by decide +kernel
theorem dX2_keptPieces_4 : decode cX2_keptPieces 4 = .ok (.iload_n 2, 1) := by decide +kernel
theorem dX2_keptPieces_5 : decode cX2_keptPieces 5 = .ok (.aload_n 0, 1) := by decide +kernel
theorem dX2_keptPieces_6 : decode cX2_keptPieces 6 = .ok (.getfield 15, 3) := by decide +kernel
theorem dX2_keptPieces_9 : decode cX2_keptPieces 9 = .ok (.if_icmp .ge 46, 3) := by decide +kernel
theorem dX2_keptPieces_12 : decode cX2_keptPieces 12 = .ok (.iconst 0, 1) := by decide +kernel
theorem dX2_keptPieces_13 : decode cX2_keptPieces 13 = .ok (.istore_n 3, 1) := by decide +kernel
theorem dX2_keptPieces_14 : decode cX2_keptPieces 14 = .ok (.iload_n 3, 1) := by decide +kernel
theorem dX2_keptPieces_15 : decode cX2_keptPieces 15 = .ok (.bipush 120, 2) := by decide +kernel
theorem dX2_keptPieces_17 : decode cX2_keptPieces 17 = .ok (.if_icmp .ge 32, 3) := by decide +kernel
theorem dX2_keptPieces_20 : decode cX2_keptPieces 20 = .ok (.iload_n 1, 1) := by decide +kernel
theorem dX2_keptPieces_21 : decode cX2_keptPieces 21 = .ok (.aload_n 0, 1) := by decide +kernel
theorem dX2_keptPieces_22 : decode cX2_keptPieces 22 = .ok (.getfield 44, 3) := by decide +kernel
theorem dX2_keptPieces_25 : decode cX2_keptPieces 25 = .ok (.iload_n 2, 1) := by decide +kernel
theorem dX2_keptPieces_26 : decode cX2_keptPieces 26 = .ok (.bipush 120, 2) := by decide +kernel
theorem dX2_keptPieces_28 : decode cX2_keptPieces 28 = .ok (.imul, 1) := by decide +kernel
theorem dX2_keptPieces_29 : decode cX2_keptPieces 29 = .ok (.iload_n 3, 1) := by decide +kernel
theorem dX2_keptPieces_30 : decode cX2_keptPieces 30 = .ok (.iadd, 1) := by decide +kernel
theorem dX2_keptPieces_31 : decode cX2_keptPieces 31 = .ok (.baload, 1) := by decide +kernel
theorem dX2_keptPieces_32 : decode cX2_keptPieces 32 = .ok (.iconst 1, 1) := by decide +kernel
theorem dX2_keptPieces_33 : decode cX2_keptPieces 33 = .ok (.if_icmp .lt 7, 3) := by decide +kernel
theorem dX2_keptPieces_36 : decode cX2_keptPieces 36 = .ok (.iconst 1, 1) := by decide +kernel
theorem dX2_keptPieces_37 : decode cX2_keptPieces 37 = .ok (.goto 4, 3) := by decide +kernel
theorem dX2_keptPieces_40 : decode cX2_keptPieces 40 = .ok (.iconst 0, 1) := by decide +kernel
theorem dX2_keptPieces_41 : decode cX2_keptPieces 41 = .ok (.iadd, 1) := by decide +kernel
theorem dX2_keptPieces_42 : decode cX2_keptPieces 42 = .ok (.istore_n 1, 1) := by decide +kernel
theorem dX2_keptPieces_43 : decode cX2_keptPieces 43 = .ok (.iinc 3 1, 3) := by decide +kernel
theorem dX2_keptPieces_46 : decode cX2_keptPieces 46 = .ok (.goto (-32), 3) := by decide +kernel
theorem dX2_keptPieces_49 : decode cX2_keptPieces 49 = .ok (.iinc 2 1, 3) := by decide +kernel
theorem dX2_keptPieces_52 : decode cX2_keptPieces 52 = .ok (.goto (-48), 3) := by decide +kernel
theorem dX2_keptPieces_55 : decode cX2_keptPieces 55 = .ok (.iload_n 1, 1) := by decide +kernel
theorem dX2_keptPieces_56 : decode cX2_keptPieces 56 = .ok (.ireturn, 1) := by decide +kernel
theorem dX4_init_0 : decode cX4_init 0 = .ok (.aload_n 0, 1) := by decide +kernel
theorem dX4_init_1 : decode cX4_init 1 = .ok (.invokespecial 3, 3) := by decide +kernel
theorem dX4_init_4 : decode cX4_init 4 = .ok (.aload_n 0, 1) := by decide +kernel
theorem dX4_init_5 : decode cX4_init 5 = .ok (.aload_n 1, 1) := by decide +kernel
theorem dX4_init_6 : decode cX4_init 6 = .ok (.putfield 9, 3) := by decide +kernel
theorem dX4_init_9 : decode cX4_init 9 = .ok (.aload_n 0, 1) := by decide +kernel
theorem dX4_init_10 : decode cX4_init 10 = .ok (.iconst 0, 1) := by decide +kernel
theorem dX4_init_11 : decode cX4_init 11 = .ok (.putfield 15, 3) := by decide +kernel
theorem dX4_init_14 : decode cX4_init 14 = .ok (.aload_n 0, 1) := by decide +kernel
theorem dX4_init_15 : decode cX4_init 15 = .ok (.iconst 0, 1) := by decide +kernel
theorem dX4_init_16 : decode cX4_init 16 = .ok (.putfield 19, 3) := by decide +kernel
theorem dX4_init_19 : decode cX4_init 19 = .ok (.aload_n 0, 1) := by decide +kernel
theorem dX4_init_20 : decode cX4_init 20 = .ok (.iconst 3, 1) := by decide +kernel
theorem dX4_init_21 : decode cX4_init 21 = .ok (.newarray .int, 2) := by decide +kernel
theorem dX4_init_23 : decode cX4_init 23 = .ok (.putfield 22, 3) := by decide +kernel
theorem dX4_init_26 : decode cX4_init 26 = .ok (.aload_n 0, 1) := by decide +kernel
theorem dX4_init_27 : decode cX4_init 27 = .ok (.iconst 3, 1) := by decide +kernel
theorem dX4_init_28 : decode cX4_init 28 = .ok (.newarray .int, 2) := by decide +kernel
theorem dX4_init_30 : decode cX4_init 30 = .ok (.putfield 26, 3) := by decide +kernel
theorem dX4_init_33 : decode cX4_init 33 = .ok (.aload_n 0, 1) := by decide +kernel
theorem dX4_init_34 : decode cX4_init 34 = .ok (.iconst 3, 1) := by decide +kernel
theorem dX4_init_35 : decode cX4_init 35 = .ok (.newarray .int, 2) := by decide +kernel
theorem dX4_init_37 : decode cX4_init 37 = .ok (.putfield 29, 3) := by decide +kernel
theorem dX4_init_40 : decode cX4_init 40 = .ok (.aload_n 0, 1) := by decide +kernel
theorem dX4_init_41 : decode cX4_init 41 = .ok (.bipush 6, 2) := by decide +kernel
theorem dX4_init_43 : decode cX4_init 43 = .ok (.newarray .int, 2) := by decide +kernel
theorem dX4_init_45 : decode cX4_init 45 = .ok (.putfield 32, 3) := by decide +kernel
theorem dX4_init_48 : decode cX4_init 48 = .ok (.aload_n 0, 1) := by decide +kernel
theorem dX4_init_49 : decode cX4_init 49 = .ok (.bipush 30, 2) := by decide +kernel
theorem dX4_init_51 : decode cX4_init 51 = .ok (.putfield 35, 3) := by decide +kernel
theorem dX4_init_54 : decode cX4_init 54 = .ok (.aload_n 0, 1) := by decide +kernel
theorem dX4_init_55 : decode cX4_init 55 = .ok (.iconst 0, 1) := by decide +kernel
theorem dX4_init_56 : decode cX4_init 56 = .ok (.putfield 38, 3) := by decide +kernel
theorem dX4_init_59 : decode cX4_init 59 = .ok (.aload_n 0, 1) := by decide +kernel
theorem dX4_init_60 : decode cX4_init 60 = .ok (.iconst 0, 1) := by decide +kernel
theorem dX4_init_61 : decode cX4_init 61 = .ok (.putfield 41, 3) := by decide +kernel
theorem dX4_init_64 : decode cX4_init 64 = .ok (.aload_n 0, 1) := by decide +kernel
theorem dX4_init_65 : decode cX4_init 65 = .ok (.iconst 0, 1) := by decide +kernel
theorem dX4_init_66 : decode cX4_init 66 = .ok (.putfield 44, 3) := by decide +kernel
theorem dX4_init_69 : decode cX4_init 69 = .ok (.return_, 1) := by decide +kernel
theorem dX4_rewind_0 : decode cX4_rewind 0 = .ok (.aload_n 0, 1) := by decide +kernel
theorem dX4_rewind_1 : decode cX4_rewind 1 = .ok (.iload_n 1, 1) := by decide +kernel
theorem dX4_rewind_2 : decode cX4_rewind 2 = .ok (.putfield 15, 3) := by decide +kernel
theorem dX4_rewind_5 : decode cX4_rewind 5 = .ok (.aload_n 0, 1) := by decide +kernel
theorem dX4_rewind_6 : decode cX4_rewind 6 = .ok (.iconst 0, 1) := by decide +kernel
theorem dX4_rewind_7 : decode cX4_rewind 7 = .ok (.putfield 19, 3) := by decide +kernel
theorem dX4_rewind_10 : decode cX4_rewind 10 = .ok (.return_, 1) := by decide +kernel
theorem dX4_know_0 : decode cX4_know 0 = .ok (.aload_n 0, 1) := by decide +kernel
theorem dX4_know_1 : decode cX4_know 1 = .ok (.getfield 32, 3) := by decide +kernel
theorem dX4_know_4 : decode cX4_know 4 = .ok (.iconst 2, 1) := by decide +kernel
theorem dX4_know_5 : decode cX4_know 5 = .ok (.iload_n 1, 1) := by decide +kernel
theorem dX4_know_6 : decode cX4_know 6 = .ok (.iastore, 1) := by decide +kernel
theorem dX4_know_7 : decode cX4_know 7 = .ok (.aload_n 0, 1) := by decide +kernel
theorem dX4_know_8 : decode cX4_know 8 = .ok (.getfield 32, 3) := by decide +kernel
theorem dX4_know_11 : decode cX4_know 11 = .ok (.iconst 3, 1) := by decide +kernel
theorem dX4_know_12 : decode cX4_know 12 = .ok (.iload_n 2, 1) := by decide +kernel
theorem dX4_know_13 : decode cX4_know 13 = .ok (.iastore, 1) := by decide +kernel
theorem dX4_know_14 : decode cX4_know 14 = .ok (.aload_n 0, 1) := by decide +kernel
theorem dX4_know_15 : decode cX4_know 15 = .ok (.getfield 32, 3) := by decide +kernel
theorem dX4_know_18 : decode cX4_know 18 = .ok (.iconst 4, 1) := by decide +kernel
theorem dX4_know_19 : decode cX4_know 19 = .ok (.iload_n 3, 1) := by decide +kernel
theorem dX4_know_20 : decode cX4_know 20 = .ok (.iastore, 1) := by decide +kernel
theorem dX4_know_21 : decode cX4_know 21 = .ok (.aload_n 0, 1) := by decide +kernel
theorem dX4_know_22 : decode cX4_know 22 = .ok (.getfield 32, 3) := by decide +kernel
theorem dX4_know_25 : decode cX4_know 25 = .ok (.iconst 5, 1) := by decide +kernel
theorem dX4_know_26 : decode cX4_know 26 = .ok (.iload 4, 2) := by decide +kernel
theorem dX4_know_28 : decode cX4_know 28 = .ok (.iastore, 1) := by decide +kernel
theorem dX4_know_29 : decode cX4_know 29 = .ok (.return_, 1) := by decide +kernel
theorem dX4_next_0 : decode cX4_next 0 = .ok (.iconst 0, 1) := by decide +kernel
theorem dX4_next_1 : decode cX4_next 1 = .ok (.istore_n 2, 1) := by decide +kernel
theorem dX4_next_2 : decode cX4_next 2 = .ok (.iload_n 2, 1) := by decide +kernel
theorem dX4_next_3 : decode cX4_next 3 = .ok (.ldc 47, 2) := by decide +kernel
theorem dX4_next_5 : decode cX4_next 5 = .ok (.if_icmp .ge 63, 3) := by decide +kernel
theorem dX4_next_8 : decode cX4_next 8 = .ok (.aload_n 0, 1) := by decide +kernel
theorem dX4_next_9 : decode cX4_next 9 = .ok (.aload_n 0, 1) := by decide +kernel
theorem dX4_next_10 : decode cX4_next 10 = .ok (.getfield 9, 3) := by decide +kernel
theorem dX4_next_13 : decode cX4_next 13 = .ok (.aload_n 0, 1) := by decide +kernel
theorem dX4_next_14 : decode cX4_next 14 = .ok (.getfield 15, 3) := by decide +kernel
theorem dX4_next_17 : decode cX4_next 17 = .ok (.invokevirtual 48, 3) := by decide +kernel
theorem dX4_next_20 : decode cX4_next 20 = .ok (.putfield 35, 3) := by decide +kernel
theorem dX4_next_23 : decode cX4_next 23 = .ok (.aload_n 0, 1) := by decide +kernel
theorem dX4_next_24 : decode cX4_next 24 = .ok (.getfield 35, 3) := by decide +kernel
theorem dX4_next_27 : decode cX4_next 27 = .ok (.bipush 12, 2) := by decide +kernel
theorem dX4_next_29 : decode cX4_next 29 = .ok (.if_icmp .ne 11, 3) := by decide +kernel
theorem dX4_next_32 : decode cX4_next 32 = .ok (.aload_n 0, 1) := by decide +kernel
theorem dX4_next_33 : decode cX4_next 33 = .ok (.iload_n 1, 1) := by decide +kernel
theorem dX4_next_34 : decode cX4_next 34 = .ok (.invokevirtual 54, 3) := by decide +kernel
theorem dX4_next_37 : decode cX4_next 37 = .ok (.goto 25, 3) := by decide +kernel
theorem dX4_next_40 : decode cX4_next 40 = .ok (.aload_n 0, 1) := by decide +kernel
theorem dX4_next_41 : decode cX4_next 41 = .ok (.getfield 35, 3) := by decide +kernel
theorem dX4_next_44 : decode cX4_next 44 = .ok (.bipush 13, 2) := by decide +kernel
theorem dX4_next_46 : decode cX4_next 46 = .ok (.if_icmp .ne 11, 3) := by decide +kernel
theorem dX4_next_49 : decode cX4_next 49 = .ok (.aload_n 0, 1) := by decide +kernel
theorem dX4_next_50 : decode cX4_next 50 = .ok (.iload_n 1, 1) := by decide +kernel
theorem dX4_next_51 : decode cX4_next 51 = .ok (.invokevirtual 58, 3) := by decide +kernel
theorem dX4_next_54 : decode cX4_next 54 = .ok (.goto 8, 3) := by decide +kernel
theorem dX4_next_57 : decode cX4_next 57 = .ok (.aload_n 0, 1) := by decide +kernel
theorem dX4_next_58 : decode cX4_next 58 = .ok (.invokevirtual 61, 3) := by decide +kernel
theorem dX4_next_61 : decode cX4_next 61 = .ok (.ireturn, 1) := by decide +kernel
theorem dX4_next_62 : decode cX4_next 62 = .ok (.iinc 2 1, 3) := by decide +kernel
theorem dX4_next_65 : decode cX4_next 65 = .ok (.goto (-63), 3) := by decide +kernel
theorem dX4_next_68 : decode cX4_next 68 = .ok (.iconst 0, 1) := by decide +kernel
theorem dX4_next_69 : decode cX4_next 69 = .ok (.ireturn, 1) := by decide +kernel
theorem dX4_enter_0 : decode cX4_enter 0 = .ok (.aload_n 0, 1) := by decide +kernel
theorem dX4_enter_1 : decode cX4_enter 1 = .ok (.getfield 9, 3) := by decide +kernel
theorem dX4_enter_4 : decode cX4_enter 4 = .ok (.aload_n 0, 1) := by decide +kernel
theorem dX4_enter_5 : decode cX4_enter 5 = .ok (.getfield 15, 3) := by decide +kernel
theorem dX4_enter_8 : decode cX4_enter 8 = .ok (.iconst 1, 1) := by decide +kernel
theorem dX4_enter_9 : decode cX4_enter 9 = .ok (.iadd, 1) := by decide +kernel
theorem dX4_enter_10 : decode cX4_enter 10 = .ok (.invokevirtual 65, 3) := by decide +kernel
theorem dX4_enter_13 : decode cX4_enter 13 = .ok (.ifCond .eq 18, 3) := by decide +kernel
theorem dX4_enter_16 : decode cX4_enter 16 = .ok (.aload_n 0, 1) := by decide +kernel
theorem dX4_enter_17 : decode cX4_enter 17 = .ok (.getfield 19, 3) := by decide +kernel
theorem dX4_enter_20 : decode cX4_enter 20 = .ok (.ifCond .lt 11, 3) := by decide +kernel
theorem dX4_enter_23 : decode cX4_enter 23 = .ok (.aload_n 0, 1) := by decide +kernel
theorem dX4_enter_24 : decode cX4_enter 24 = .ok (.getfield 19, 3) := by decide +kernel
theorem dX4_enter_27 : decode cX4_enter 27 = .ok (.iconst 3, 1) := by decide +kernel
theorem dX4_enter_28 : decode cX4_enter 28 = .ok (.if_icmp .lt 12, 3) := by decide +kernel
theorem dX4_enter_31 : decode cX4_enter 31 = .ok (.aload_n 0, 1) := by decide +kernel
theorem dX4_enter_32 : decode cX4_enter 32 = .ok (.aload_n 0, 1) := by decide +kernel
theorem dX4_enter_33 : decode cX4_enter 33 = .ok (.invokevirtual 68, 3) := by decide +kernel
theorem dX4_enter_36 : decode cX4_enter 36 = .ok (.putfield 15, 3) := by decide +kernel
theorem dX4_enter_39 : decode cX4_enter 39 = .ok (.return_, 1) := by decide +kernel
theorem dX4_enter_40 : decode cX4_enter 40 = .ok (.aload_n 0, 1) := by decide +kernel
theorem dX4_enter_41 : decode cX4_enter 41 = .ok (.dup, 1) := by decide +kernel
theorem dX4_enter_42 : decode cX4_enter 42 = .ok (.getfield 15, 3) := by decide +kernel
theorem dX4_enter_45 : decode cX4_enter 45 = .ok (.iconst 3, 1) := by decide +kernel
theorem dX4_enter_46 : decode cX4_enter 46 = .ok (.iadd, 1) := by decide +kernel
theorem dX4_enter_47 : decode cX4_enter 47 = .ok (.putfield 15, 3) := by decide +kernel
theorem dX4_enter_50 : decode cX4_enter 50 = .ok (.aload_n 0, 1) := by decide +kernel
theorem dX4_enter_51 : decode cX4_enter 51 = .ok (.getfield 22, 3) := by decide +kernel
theorem dX4_enter_54 : decode cX4_enter 54 = .ok (.aload_n 0, 1) := by decide +kernel
theorem dX4_enter_55 : decode cX4_enter 55 = .ok (.getfield 19, 3) := by decide +kernel
theorem dX4_enter_58 : decode cX4_enter 58 = .ok (.aload_n 0, 1) := by decide +kernel
theorem dX4_enter_59 : decode cX4_enter 59 = .ok (.getfield 15, 3) := by decide +kernel
theorem dX4_enter_62 : decode cX4_enter 62 = .ok (.iastore, 1) := by decide +kernel
theorem dX4_enter_63 : decode cX4_enter 63 = .ok (.aload_n 0, 1) := by decide +kernel
theorem dX4_enter_64 : decode cX4_enter 64 = .ok (.getfield 26, 3) := by decide +kernel
theorem dX4_enter_67 : decode cX4_enter 67 = .ok (.aload_n 0, 1) := by decide +kernel
theorem dX4_enter_68 : decode cX4_enter 68 = .ok (.getfield 19, 3) := by decide +kernel
theorem dX4_enter_71 : decode cX4_enter 71 = .ok (.iconst 0, 1) := by decide +kernel
theorem dX4_enter_72 : decode cX4_enter 72 = .ok (.iastore, 1) := by decide +kernel
theorem dX4_enter_73 : decode cX4_enter 73 = .ok (.aload_n 0, 1) := by decide +kernel
theorem dX4_enter_74 : decode cX4_enter 74 = .ok (.getfield 29, 3) := by decide +kernel
theorem dX4_enter_77 : decode cX4_enter 77 = .ok (.aload_n 0, 1) := by decide +kernel
theorem dX4_enter_78 : decode cX4_enter 78 = .ok (.getfield 19, 3) := by decide +kernel
theorem dX4_enter_81 : decode cX4_enter 81 = .ok (.iload_n 1, 1) := by decide +kernel
theorem dX4_enter_82 : decode cX4_enter 82 = .ok (.iastore, 1) := by decide +kernel
theorem dX4_enter_83 : decode cX4_enter 83 = .ok (.aload_n 0, 1) := by decide +kernel
theorem dX4_enter_84 : decode cX4_enter 84 = .ok (.dup, 1) := by decide +kernel
theorem dX4_enter_85 : decode cX4_enter 85 = .ok (.getfield 19, 3) := by decide +kernel
theorem dX4_enter_88 : decode cX4_enter 88 = .ok (.iconst 1, 1) := by decide +kernel
theorem dX4_enter_89 : decode cX4_enter 89 = .ok (.iadd, 1) := by decide +kernel
theorem dX4_enter_90 : decode cX4_enter 90 = .ok (.putfield 19, 3) := by decide +kernel
theorem dX4_enter_93 : decode cX4_enter 93 = .ok (.return_, 1) := by decide +kernel
theorem dX4_behindEnd_0 : decode cX4_behindEnd 0 = .ok (.iconst 0, 1) := by decide +kernel
theorem dX4_behindEnd_1 : decode cX4_behindEnd 1 = .ok (.istore_n 1, 1) := by decide +kernel
theorem dX4_behindEnd_2 : decode cX4_behindEnd 2 = .ok (.aload_n 0, 1) := by decide +kernel
theorem dX4_behindEnd_3 : decode cX4_behindEnd 3 = .ok (.getfield 15, 3) := by decide +kernel
theorem dX4_behindEnd_6 : decode cX4_behindEnd 6 = .ok (.istore_n 2, 1) := by decide +kernel
theorem dX4_behindEnd_7 : decode cX4_behindEnd 7 = .ok (.iload_n 2, 1) := by decide +kernel
theorem dX4_behindEnd_8 : decode cX4_behindEnd 8 = .ok (.aload_n 0, 1) := by decide +kernel
theorem dX4_behindEnd_9 : decode cX4_behindEnd 9 = .ok (.getfield 9, 3) := by decide +kernel
theorem dX4_behindEnd_12 : decode cX4_behindEnd 12 = .ok (.getfield 72, 3) := by decide +kernel
theorem dX4_behindEnd_15 : decode cX4_behindEnd 15 = .ok (.if_icmp .ge 54, 3) := by decide +kernel
theorem dX4_behindEnd_18 : decode cX4_behindEnd 18 = .ok (.aload_n 0, 1) := by decide +kernel
theorem dX4_behindEnd_19 : decode cX4_behindEnd 19 = .ok (.getfield 9, 3) := by decide +kernel
theorem dX4_behindEnd_22 : decode cX4_behindEnd 22 = .ok (.iload_n 2, 1) := by decide +kernel
theorem dX4_behindEnd_23 : decode cX4_behindEnd 23 = .ok (.invokevirtual 48, 3) := by decide +kernel
theorem dX4_behindEnd_26 : decode cX4_behindEnd 26 = .ok (.istore_n 3, 1) := by decide +kernel
theorem dX4_behindEnd_27 : decode cX4_behindEnd 27 = .ok (.iload_n 1, 1) := by decide +kernel
theorem dX4_behindEnd_28 : decode cX4_behindEnd 28 = .ok (.iload_n 3, 1) := by decide +kernel
theorem dX4_behindEnd_29 : decode cX4_behindEnd 29 = .ok (.bipush 12, 2) := by decide +kernel
theorem dX4_behindEnd_31 : decode cX4_behindEnd 31 = .ok (.if_icmp .ne 7, 3) := by decide +kernel
theorem dX4_behindEnd_34 : decode cX4_behindEnd 34 = .ok (.iconst 1, 1) := by decide +kernel
theorem dX4_behindEnd_35 : decode cX4_behindEnd 35 = .ok (.goto 4, 3) := by decide +kernel
theorem dX4_behindEnd_38 : decode cX4_behindEnd 38 = .ok (.iconst 0, 1) := by decide +kernel
theorem dX4_behindEnd_39 : decode cX4_behindEnd 39 = .ok (.iadd, 1) := by decide +kernel
theorem dX4_behindEnd_40 : decode cX4_behindEnd 40 = .ok (.istore_n 1, 1) := by decide +kernel
theorem dX4_behindEnd_41 : decode cX4_behindEnd 41 = .ok (.iload_n 1, 1) := by decide +kernel
theorem dX4_behindEnd_42 : decode cX4_behindEnd 42 = .ok (.iload_n 3, 1) := by decide +kernel
theorem dX4_behindEnd_43 : decode cX4_behindEnd 43 = .ok (.bipush 13, 2) := by decide +kernel
theorem dX4_behindEnd_45 : decode cX4_behindEnd 45 = .ok (.if_icmp .ne 7, 3) := by decide +kernel
theorem dX4_behindEnd_48 : decode cX4_behindEnd 48 = .ok (.iconst 1, 1) := by decide +kernel
theorem dX4_behindEnd_49 : decode cX4_behindEnd 49 = .ok (.goto 4, 3) := by decide +kernel
theorem dX4_behindEnd_52 : decode cX4_behindEnd 52 = .ok (.iconst 0, 1) := by decide +kernel
theorem dX4_behindEnd_53 : decode cX4_behindEnd 53 = .ok (.isub, 1) := by decide +kernel
theorem dX4_behindEnd_54 : decode cX4_behindEnd 54 = .ok (.istore_n 1, 1) := by decide +kernel
theorem dX4_behindEnd_55 : decode cX4_behindEnd 55 = .ok (.iload_n 1, 1) := by decide +kernel
theorem dX4_behindEnd_56 : decode cX4_behindEnd 56 = .ok (.ifCond .ne 7, 3) := by decide +kernel
theorem dX4_behindEnd_59 : decode cX4_behindEnd 59 = .ok (.iload_n 2, 1) := by decide +kernel
theorem dX4_behindEnd_60 : decode cX4_behindEnd 60 = .ok (.iconst 2, 1) := by decide +kernel
theorem dX4_behindEnd_61 : decode cX4_behindEnd 61 = .ok (.iadd, 1) := by decide +kernel
theorem dX4_behindEnd_62 : decode cX4_behindEnd 62 = .ok (.ireturn, 1) := by decide +kernel
theorem dX4_behindEnd_63 : decode cX4_behindEnd 63 = .ok (.iinc 2 1, 3) := by decide +kernel
theorem dX4_behindEnd_66 : decode cX4_behindEnd 66 = .ok (.goto (-59), 3) := by decide +kernel
theorem dX4_behindEnd_69 : decode cX4_behindEnd 69 = .ok (.aload_n 0, 1) := by decide +kernel
theorem dX4_behindEnd_70 : decode cX4_behindEnd 70 = .ok (.getfield 9, 3) := by decide +kernel
theorem dX4_behindEnd_73 : decode cX4_behindEnd 73 = .ok (.getfield 72, 3) := by decide +kernel
theorem dX4_behindEnd_76 : decode cX4_behindEnd 76 = .ok (.ireturn, 1) := by decide +kernel
theorem dX4_turn_0 : decode cX4_turn 0 = .ok (.aload_n 0, 1) := by decide +kernel
theorem dX4_turn_1 : decode cX4_turn 1 = .ok (.getfield 19, 3) := by decide +kernel
theorem dX4_turn_4 : decode cX4_turn 4 = .ok (.iconst 1, 1) := by decide +kernel
theorem dX4_turn_5 : decode cX4_turn 5 = .ok (.isub, 1) := by decide +kernel
theorem dX4_turn_6 : decode cX4_turn 6 = .ok (.istore_n 2, 1) := by decide +kernel
theorem dX4_turn_7 : decode cX4_turn 7 = .ok (.iload_n 2, 1) := by decide +kernel
theorem dX4_turn_8 : decode cX4_turn 8 = .ok (.ifCond .lt 8, 3) := by decide +kernel
theorem dX4_turn_11 : decode cX4_turn 11 = .ok (.iload_n 2, 1) := by decide +kernel
theorem dX4_turn_12 : decode cX4_turn 12 = .ok (.iconst 3, 1) := by decide +kernel
theorem dX4_turn_13 : decode cX4_turn 13 = .ok (.if_icmp .lt 14, 3) := by decide +kernel
theorem dX4_turn_16 : decode cX4_turn 16 = .ok (.aload_n 0, 1) := by decide +kernel
theorem dX4_turn_17 : decode cX4_turn 17 = .ok (.dup, 1) := by decide +kernel
theorem dX4_turn_18 : decode cX4_turn 18 = .ok (.getfield 15, 3) := by decide +kernel
theorem dX4_turn_21 : decode cX4_turn 21 = .ok (.iconst 2, 1) := by decide +kernel
theorem dX4_turn_22 : decode cX4_turn 22 = .ok (.iadd, 1) := by decide +kernel
theorem dX4_turn_23 : decode cX4_turn 23 = .ok (.putfield 15, 3) := by decide +kernel
theorem dX4_turn_26 : decode cX4_turn 26 = .ok (.return_, 1) := by decide +kernel
theorem dX4_turn_27 : decode cX4_turn 27 = .ok (.aload_n 0, 1) := by decide +kernel
theorem dX4_turn_28 : decode cX4_turn 28 = .ok (.getfield 26, 3) := by decide +kernel
theorem dX4_turn_31 : decode cX4_turn 31 = .ok (.iload_n 2, 1) := by decide +kernel
theorem dX4_turn_32 : decode cX4_turn 32 = .ok (.dup2, 1) := by decide +kernel
theorem dX4_turn_33 : decode cX4_turn 33 = .ok (.iaload, 1) := by decide +kernel
theorem dX4_turn_34 : decode cX4_turn 34 = .ok (.iconst 1, 1) := by decide +kernel
theorem dX4_turn_35 : decode cX4_turn 35 = .ok (.iadd, 1) := by decide +kernel
theorem dX4_turn_36 : decode cX4_turn 36 = .ok (.iastore, 1) := by decide +kernel
theorem dX4_turn_37 : decode cX4_turn 37 = .ok (.aload_n 0, 1) := by decide +kernel
theorem dX4_turn_38 : decode cX4_turn 38 = .ok (.getfield 29, 3) := by decide +kernel
theorem dX4_turn_41 : decode cX4_turn 41 = .ok (.iload_n 2, 1) := by decide +kernel
theorem dX4_turn_42 : decode cX4_turn 42 = .ok (.iaload, 1) := by decide +kernel
theorem dX4_turn_43 : decode cX4_turn 43 = .ok (.iload_n 1, 1) := by decide +kernel
theorem dX4_turn_44 : decode cX4_turn 44 = .ok (.if_icmp .ne 7, 3) := by decide +kernel
theorem dX4_turn_47 : decode cX4_turn 47 = .ok (.iconst 1, 1) := by decide +kernel
theorem dX4_turn_48 : decode cX4_turn 48 = .ok (.goto 4, 3) := by decide +kernel
theorem dX4_turn_51 : decode cX4_turn 51 = .ok (.iconst 0, 1) := by decide +kernel
theorem dX4_turn_52 : decode cX4_turn 52 = .ok (.istore_n 3, 1) := by decide +kernel
theorem dX4_turn_53 : decode cX4_turn 53 = .ok (.iload_n 3, 1) := by decide +kernel
theorem dX4_turn_54 : decode cX4_turn 54 = .ok (.ifCond .ne 27, 3) := by decide +kernel
theorem dX4_turn_57 : decode cX4_turn 57 = .ok (.aload_n 0, 1) := by decide +kernel
theorem dX4_turn_58 : decode cX4_turn 58 = .ok (.getfield 26, 3) := by decide +kernel
theorem dX4_turn_61 : decode cX4_turn 61 = .ok (.iload_n 2, 1) := by decide +kernel
theorem dX4_turn_62 : decode cX4_turn 62 = .ok (.iaload, 1) := by decide +kernel
theorem dX4_turn_63 : decode cX4_turn 63 = .ok (.aload_n 0, 1) := by decide +kernel
theorem dX4_turn_64 : decode cX4_turn 64 = .ok (.getfield 9, 3) := by decide +kernel
theorem dX4_turn_67 : decode cX4_turn 67 = .ok (.aload_n 0, 1) := by decide +kernel
theorem dX4_turn_68 : decode cX4_turn 68 = .ok (.getfield 22, 3) := by decide +kernel
theorem dX4_turn_71 : decode cX4_turn 71 = .ok (.iload_n 2, 1) := by decide +kernel
theorem dX4_turn_72 : decode cX4_turn 72 = .ok (.iaload, 1) := by decide +kernel
theorem dX4_turn_73 : decode cX4_turn 73 = .ok (.iconst 2, 1) := by decide +kernel
theorem dX4_turn_74 : decode cX4_turn 74 = .ok (.isub, 1) := by decide +kernel
theorem dX4_turn_75 : decode cX4_turn 75 = .ok (.invokevirtual 65, 3) := by decide +kernel
theorem dX4_turn_78 : decode cX4_turn 78 = .ok (.if_icmp .lt 24, 3) := by decide +kernel
theorem dX4_turn_81 : decode cX4_turn 81 = .ok (.aload_n 0, 1) := by decide +kernel
theorem dX4_turn_82 : decode cX4_turn 82 = .ok (.dup, 1) := by decide +kernel
theorem dX4_turn_83 : decode cX4_turn 83 = .ok (.getfield 19, 3) := by decide +kernel
theorem dX4_turn_86 : decode cX4_turn 86 = .ok (.iconst 1, 1) := by decide +kernel
theorem dX4_turn_87 : decode cX4_turn 87 = .ok (.isub, 1) := by decide +kernel
theorem dX4_turn_88 : decode cX4_turn 88 = .ok (.putfield 19, 3) := by decide +kernel
theorem dX4_turn_91 : decode cX4_turn 91 = .ok (.aload_n 0, 1) := by decide +kernel
theorem dX4_turn_92 : decode cX4_turn 92 = .ok (.dup, 1) := by decide +kernel
theorem dX4_turn_93 : decode cX4_turn 93 = .ok (.getfield 15, 3) := by decide +kernel
theorem dX4_turn_96 : decode cX4_turn 96 = .ok (.iconst 2, 1) := by decide +kernel
theorem dX4_turn_97 : decode cX4_turn 97 = .ok (.iadd, 1) := by decide +kernel
theorem dX4_turn_98 : decode cX4_turn 98 = .ok (.putfield 15, 3) := by decide +kernel
theorem dX4_turn_101 : decode cX4_turn 101 = .ok (.return_, 1) := by decide +kernel
theorem dX4_turn_102 : decode cX4_turn 102 = .ok (.aload_n 0, 1) := by decide +kernel
theorem dX4_turn_103 : decode cX4_turn 103 = .ok (.getfield 29, 3) := by decide +kernel
theorem dX4_turn_106 : decode cX4_turn 106 = .ok (.iload_n 2, 1) := by decide +kernel
theorem dX4_turn_107 : decode cX4_turn 107 = .ok (.iload_n 1, 1) := by decide +kernel
theorem dX4_turn_108 : decode cX4_turn 108 = .ok (.iastore, 1) := by decide +kernel
theorem dX4_turn_109 : decode cX4_turn 109 = .ok (.aload_n 0, 1) := by decide +kernel
theorem dX4_turn_110 : decode cX4_turn 110 = .ok (.aload_n 0, 1) := by decide +kernel
theorem dX4_turn_111 : decode cX4_turn 111 = .ok (.getfield 22, 3) := by decide +kernel
theorem dX4_turn_114 : decode cX4_turn 114 = .ok (.iload_n 2, 1) := by decide +kernel
theorem dX4_turn_115 : decode cX4_turn 115 = .ok (.iaload, 1) := by decide +kernel
theorem dX4_turn_116 : decode cX4_turn 116 = .ok (.putfield 15, 3) := by decide +kernel
theorem dX4_turn_119 : decode cX4_turn 119 = .ok (.return_, 1) := by decide +kernel
theorem dX4_reckon_0 : decode cX4_reckon 0 = .ok (.aload_n 0, 1) := by decide +kernel
theorem dX4_reckon_1 : decode cX4_reckon 1 = .ok (.getfield 35, 3) := by decide +kernel
theorem dX4_reckon_4 : decode cX4_reckon 4 = .ok (.iconst 2, 1) := by decide +kernel
theorem dX4_reckon_5 : decode cX4_reckon 5 = .ok (.isub, 1) := by decide +kernel
theorem dX4_reckon_6 : decode cX4_reckon 6 = .ok (.istore_n 1, 1) := by decide +kernel
theorem dX4_reckon_7 : decode cX4_reckon 7 = .ok (.iload_n 1, 1) := by decide +kernel
theorem dX4_reckon_8 : decode cX4_reckon 8 = .ok (.ifCond .lt 11, 3) := by decide +kernel
theorem dX4_reckon_11 : decode cX4_reckon 11 = .ok (.iload_n 1, 1) := by decide +kernel
theorem dX4_reckon_12 : decode cX4_reckon 12 = .ok (.getstatic 75, 3) := by decide +kernel
theorem dX4_reckon_15 : decode cX4_reckon 15 = .ok (.arraylength, 1) := by decide +kernel
theorem dX4_reckon_16 : decode cX4_reckon 16 = .ok (.if_icmp .lt 5, 3) := by decide +kernel
theorem dX4_reckon_19 : decode cX4_reckon 19 = .ok (.iconst 0, 1) := by decide +kernel
theorem dX4_reckon_20 : decode cX4_reckon 20 = .ok (.ireturn, 1) := by decide +kernel
theorem dX4_reckon_21 : decode cX4_reckon 21 = .ok (.aload_n 0, 1) := by decide +kernel
theorem dX4_reckon_22 : decode cX4_reckon 22 = .ok (.getfield 32, 3) := by decide +kernel
theorem dX4_reckon_25 : decode cX4_reckon 25 = .ok (.iconst 0, 1) := by decide +kernel
theorem dX4_reckon_26 : decode cX4_reckon 26 = .ok (.aload_n 0, 1) := by decide +kernel
theorem dX4_reckon_27 : decode cX4_reckon 27 = .ok (.getfield 19, 3) := by decide +kernel
theorem dX4_reckon_30 : decode cX4_reckon 30 = .ok (.ifCond .le 25, 3) := by decide +kernel
theorem dX4_reckon_33 : decode cX4_reckon 33 = .ok (.aload_n 0, 1) := by decide +kernel
theorem dX4_reckon_34 : decode cX4_reckon 34 = .ok (.getfield 19, 3) := by decide +kernel
theorem dX4_reckon_37 : decode cX4_reckon 37 = .ok (.iconst 3, 1) := by decide +kernel
theorem dX4_reckon_38 : decode cX4_reckon 38 = .ok (.if_icmp .gt 17, 3) := by decide +kernel
theorem dX4_reckon_41 : decode cX4_reckon 41 = .ok (.aload_n 0, 1) := by decide +kernel
theorem dX4_reckon_42 : decode cX4_reckon 42 = .ok (.getfield 26, 3) := by decide +kernel
theorem dX4_reckon_45 : decode cX4_reckon 45 = .ok (.aload_n 0, 1) := by decide +kernel
theorem dX4_reckon_46 : decode cX4_reckon 46 = .ok (.getfield 19, 3) := by decide +kernel
theorem dX4_reckon_49 : decode cX4_reckon 49 = .ok (.iconst 1, 1) := by decide +kernel
theorem dX4_reckon_50 : decode cX4_reckon 50 = .ok (.isub, 1) := by decide +kernel
theorem dX4_reckon_51 : decode cX4_reckon 51 = .ok (.iaload, 1) := by decide +kernel
theorem dX4_reckon_52 : decode cX4_reckon 52 = .ok (.goto 4, 3) := by decide +kernel
theorem dX4_reckon_55 : decode cX4_reckon 55 = .ok (.iconst 0, 1) := by decide +kernel
theorem dX4_reckon_56 : decode cX4_reckon 56 = .ok (.iastore, 1) := by decide +kernel
theorem dX4_reckon_57 : decode cX4_reckon 57 = .ok (.aload_n 0, 1) := by decide +kernel
theorem dX4_reckon_58 : decode cX4_reckon 58 = .ok (.getfield 32, 3) := by decide +kernel
theorem dX4_reckon_61 : decode cX4_reckon 61 = .ok (.iconst 1, 1) := by decide +kernel
theorem dX4_reckon_62 : decode cX4_reckon 62 = .ok (.aload_n 0, 1) := by decide +kernel
theorem dX4_reckon_63 : decode cX4_reckon 63 = .ok (.getfield 19, 3) := by decide +kernel
theorem dX4_reckon_66 : decode cX4_reckon 66 = .ok (.iconst 1, 1) := by decide +kernel
theorem dX4_reckon_67 : decode cX4_reckon 67 = .ok (.if_icmp .le 25, 3) := by decide +kernel
theorem dX4_reckon_70 : decode cX4_reckon 70 = .ok (.aload_n 0, 1) := by decide +kernel
theorem dX4_reckon_71 : decode cX4_reckon 71 = .ok (.getfield 19, 3) := by decide +kernel
theorem dX4_reckon_74 : decode cX4_reckon 74 = .ok (.iconst 3, 1) := by decide +kernel
theorem dX4_reckon_75 : decode cX4_reckon 75 = .ok (.if_icmp .gt 17, 3) := by decide +kernel
theorem dX4_reckon_78 : decode cX4_reckon 78 = .ok (.aload_n 0, 1) := by decide +kernel
theorem dX4_reckon_79 : decode cX4_reckon 79 = .ok (.getfield 26, 3) := by decide +kernel
theorem dX4_reckon_82 : decode cX4_reckon 82 = .ok (.aload_n 0, 1) := by decide +kernel
theorem dX4_reckon_83 : decode cX4_reckon 83 = .ok (.getfield 19, 3) := by decide +kernel
theorem dX4_reckon_86 : decode cX4_reckon 86 = .ok (.iconst 2, 1) := by decide +kernel
theorem dX4_reckon_87 : decode cX4_reckon 87 = .ok (.isub, 1) := by decide +kernel
theorem dX4_reckon_88 : decode cX4_reckon 88 = .ok (.iaload, 1) := by decide +kernel
theorem dX4_reckon_89 : decode cX4_reckon 89 = .ok (.goto 4, 3) := by decide +kernel
theorem dX4_reckon_92 : decode cX4_reckon 92 = .ok (.iconst 0, 1) := by decide +kernel
theorem dX4_reckon_93 : decode cX4_reckon 93 = .ok (.iastore, 1) := by decide +kernel
theorem dX4_reckon_94 : decode cX4_reckon 94 = .ok (.aload_n 0, 1) := by decide +kernel
theorem dX4_reckon_95 : decode cX4_reckon 95 = .ok (.dup, 1) := by decide +kernel
theorem dX4_reckon_96 : decode cX4_reckon 96 = .ok (.getfield 15, 3) := by decide +kernel
theorem dX4_reckon_99 : decode cX4_reckon 99 = .ok (.iconst 1, 1) := by decide +kernel
theorem dX4_reckon_100 : decode cX4_reckon 100 = .ok (.iadd, 1) := by decide +kernel
theorem dX4_reckon_101 : decode cX4_reckon 101 = .ok (.putfield 15, 3) := by decide +kernel
theorem dX4_reckon_104 : decode cX4_reckon 104 = .ok (.aload_n 0, 1) := by decide +kernel
theorem dX4_reckon_105 : decode cX4_reckon 105 = .ok (.getstatic 75, 3) := by decide +kernel
theorem dX4_reckon_108 : decode cX4_reckon 108 = .ok (.iload_n 1, 1) := by decide +kernel
theorem dX4_reckon_109 : decode cX4_reckon 109 = .ok (.iaload, 1) := by decide +kernel
theorem dX4_reckon_110 : decode cX4_reckon 110 = .ok (.ifCond .le 11, 3) := by decide +kernel
theorem dX4_reckon_113 : decode cX4_reckon 113 = .ok (.aload_n 0, 1) := by decide +kernel
theorem dX4_reckon_114 : decode cX4_reckon 114 = .ok (.iconst 0, 1) := by decide +kernel
theorem dX4_reckon_115 : decode cX4_reckon 115 = .ok (.invokevirtual 78, 3) := by decide +kernel
theorem dX4_reckon_118 : decode cX4_reckon 118 = .ok (.goto 4, 3) := by decide +kernel
theorem dX4_reckon_121 : decode cX4_reckon 121 = .ok (.iconst 0, 1) := by decide +kernel
theorem dX4_reckon_122 : decode cX4_reckon 122 = .ok (.putfield 38, 3) := by decide +kernel
theorem dX4_reckon_125 : decode cX4_reckon 125 = .ok (.aload_n 0, 1) := by decide +kernel
theorem dX4_reckon_126 : decode cX4_reckon 126 = .ok (.getstatic 75, 3) := by decide +kernel
theorem dX4_reckon_129 : decode cX4_reckon 129 = .ok (.iload_n 1, 1) := by decide +kernel
theorem dX4_reckon_130 : decode cX4_reckon 130 = .ok (.iaload, 1) := by decide +kernel
theorem dX4_reckon_131 : decode cX4_reckon 131 = .ok (.iconst 1, 1) := by decide +kernel
theorem dX4_reckon_132 : decode cX4_reckon 132 = .ok (.if_icmp .le 11, 3) := by decide +kernel
theorem dX4_reckon_135 : decode cX4_reckon 135 = .ok (.aload_n 0, 1) := by decide +kernel
theorem dX4_reckon_136 : decode cX4_reckon 136 = .ok (.iconst 0, 1) := by decide +kernel
theorem dX4_reckon_137 : decode cX4_reckon 137 = .ok (.invokevirtual 78, 3) := by decide +kernel
theorem dX4_reckon_140 : decode cX4_reckon 140 = .ok (.goto 4, 3) := by decide +kernel
theorem dX4_reckon_143 : decode cX4_reckon 143 = .ok (.iconst 0, 1) := by decide +kernel
theorem dX4_reckon_144 : decode cX4_reckon 144 = .ok (.putfield 41, 3) := by decide +kernel
theorem dX4_reckon_147 : decode cX4_reckon 147 = .ok (.aload_n 0, 1) := by decide +kernel
theorem dX4_reckon_148 : decode cX4_reckon 148 = .ok (.getstatic 75, 3) := by decide +kernel
theorem dX4_reckon_151 : decode cX4_reckon 151 = .ok (.iload_n 1, 1) := by decide +kernel
theorem dX4_reckon_152 : decode cX4_reckon 152 = .ok (.iaload, 1) := by decide +kernel
theorem dX4_reckon_153 : decode cX4_reckon 153 = .ok (.iconst 2, 1) := by decide +kernel
theorem dX4_reckon_154 : decode cX4_reckon 154 = .ok (.if_icmp .le 11, 3) := by decide +kernel
theorem dX4_reckon_157 : decode cX4_reckon 157 = .ok (.aload_n 0, 1) := by decide +kernel
theorem dX4_reckon_158 : decode cX4_reckon 158 = .ok (.iconst 0, 1) := by decide +kernel
theorem dX4_reckon_159 : decode cX4_reckon 159 = .ok (.invokevirtual 78, 3) := by decide +kernel
theorem dX4_reckon_162 : decode cX4_reckon 162 = .ok (.goto 4, 3) := by decide +kernel
theorem dX4_reckon_165 : decode cX4_reckon 165 = .ok (.iconst 0, 1) := by decide +kernel
theorem dX4_reckon_166 : decode cX4_reckon 166 = .ok (.putfield 44, 3) := by decide +kernel
theorem dX4_reckon_169 : decode cX4_reckon 169 = .ok (.aload_n 0, 1) := by decide +kernel
theorem dX4_reckon_170 : decode cX4_reckon 170 = .ok (.dup, 1) := by decide +kernel
theorem dX4_reckon_171 : decode cX4_reckon 171 = .ok (.getfield 15, 3) := by decide +kernel
theorem dX4_reckon_174 : decode cX4_reckon 174 = .ok (.iconst 1, 1) := by decide +kernel
theorem dX4_reckon_175 : decode cX4_reckon 175 = .ok (.iadd, 1) := by decide +kernel
theorem dX4_reckon_176 : decode cX4_reckon 176 = .ok (.putfield 15, 3) := by decide +kernel
theorem dX4_reckon_179 : decode cX4_reckon 179 = .ok (.iconst 1, 1) := by decide +kernel
theorem dX4_reckon_180 : decode cX4_reckon 180 = .ok (.ireturn, 1) := by decide +kernel
theorem dX4_sum_0 : decode cX4_sum 0 = .ok (.aload_n 0, 1) := by decide +kernel
theorem dX4_sum_1 : decode cX4_sum 1 = .ok (.iload_n 1, 1) := by decide +kernel
theorem dX4_sum_2 : decode cX4_sum 2 = .ok (.invokevirtual 81, 3) := by decide +kernel
theorem dX4_sum_5 : decode cX4_sum 5 = .ok (.istore_n 2, 1) := by decide +kernel
theorem dX4_sum_6 : decode cX4_sum 6 = .ok (.iconst 0, 1) := by decide +kernel
theorem dX4_sum_7 : decode cX4_sum 7 = .ok (.istore_n 3, 1) := by decide +kernel
theorem dX4_sum_8 : decode cX4_sum 8 = .ok (.iload_n 3, 1) := by decide +kernel
theorem dX4_sum_9 : decode cX4_sum 9 = .ok (.sipush 400, 3) := by decide +kernel
theorem dX4_sum_12 : decode cX4_sum 12 = .ok (.if_icmp .ge 75, 3) := by decide +kernel
theorem dX4_sum_15 : decode cX4_sum 15 = .ok (.aload_n 0, 1) := by decide +kernel
theorem dX4_sum_16 : decode cX4_sum 16 = .ok (.getfield 9, 3) := by decide +kernel
theorem dX4_sum_19 : decode cX4_sum 19 = .ok (.aload_n 0, 1) := by decide +kernel
theorem dX4_sum_20 : decode cX4_sum 20 = .ok (.getfield 15, 3) := by decide +kernel
theorem dX4_sum_23 : decode cX4_sum 23 = .ok (.invokevirtual 48, 3) := by decide +kernel
theorem dX4_sum_26 : decode cX4_sum 26 = .ok (.istore 4, 2) := by decide +kernel
theorem dX4_sum_28 : decode cX4_sum 28 = .ok (.iload 4, 2) := by decide +kernel
theorem dX4_sum_30 : decode cX4_sum 30 = .ok (.bipush 22, 2) := by decide +kernel
theorem dX4_sum_32 : decode cX4_sum 32 = .ok (.if_icmp .eq 13, 3) := by decide +kernel
theorem dX4_sum_35 : decode cX4_sum 35 = .ok (.iload 4, 2) := by decide +kernel
theorem dX4_sum_37 : decode cX4_sum 37 = .ok (.bipush 23, 2) := by decide +kernel
theorem dX4_sum_39 : decode cX4_sum 39 = .ok (.if_icmp .eq 6, 3) := by decide +kernel
theorem dX4_sum_42 : decode cX4_sum 42 = .ok (.goto 45, 3) := by decide +kernel
theorem dX4_sum_45 : decode cX4_sum 45 = .ok (.aload_n 0, 1) := by decide +kernel
theorem dX4_sum_46 : decode cX4_sum 46 = .ok (.dup, 1) := by decide +kernel
theorem dX4_sum_47 : decode cX4_sum 47 = .ok (.getfield 15, 3) := by decide +kernel
theorem dX4_sum_50 : decode cX4_sum 50 = .ok (.iconst 1, 1) := by decide +kernel
theorem dX4_sum_51 : decode cX4_sum 51 = .ok (.iadd, 1) := by decide +kernel
theorem dX4_sum_52 : decode cX4_sum 52 = .ok (.putfield 15, 3) := by decide +kernel
theorem dX4_sum_55 : decode cX4_sum 55 = .ok (.aload_n 0, 1) := by decide +kernel
theorem dX4_sum_56 : decode cX4_sum 56 = .ok (.iload_n 1, 1) := by decide +kernel
theorem dX4_sum_57 : decode cX4_sum 57 = .ok (.invokevirtual 81, 3) := by decide +kernel
theorem dX4_sum_60 : decode cX4_sum 60 = .ok (.istore 5, 2) := by decide +kernel
theorem dX4_sum_62 : decode cX4_sum 62 = .ok (.iload 4, 2) := by decide +kernel
theorem dX4_sum_64 : decode cX4_sum 64 = .ok (.bipush 22, 2) := by decide +kernel
theorem dX4_sum_66 : decode cX4_sum 66 = .ok (.if_icmp .ne 10, 3) := by decide +kernel
theorem dX4_sum_69 : decode cX4_sum 69 = .ok (.iload_n 2, 1) := by decide +kernel
theorem dX4_sum_70 : decode cX4_sum 70 = .ok (.iload 5, 2) := by decide +kernel
theorem dX4_sum_72 : decode cX4_sum 72 = .ok (.iadd, 1) := by decide +kernel
theorem dX4_sum_73 : decode cX4_sum 73 = .ok (.goto 7, 3) := by decide +kernel
theorem dX4_sum_76 : decode cX4_sum 76 = .ok (.iload_n 2, 1) := by decide +kernel
theorem dX4_sum_77 : decode cX4_sum 77 = .ok (.iload 5, 2) := by decide +kernel
theorem dX4_sum_79 : decode cX4_sum 79 = .ok (.isub, 1) := by decide +kernel
theorem dX4_sum_80 : decode cX4_sum 80 = .ok (.istore_n 2, 1) := by decide +kernel
theorem dX4_sum_81 : decode cX4_sum 81 = .ok (.iinc 3 1, 3) := by decide +kernel
theorem dX4_sum_84 : decode cX4_sum 84 = .ok (.goto (-76), 3) := by decide +kernel
theorem dX4_sum_87 : decode cX4_sum 87 = .ok (.iload_n 2, 1) := by decide +kernel
theorem dX4_sum_88 : decode cX4_sum 88 = .ok (.ireturn, 1) := by decide +kernel
theorem dX4_product_0 : decode cX4_product 0 = .ok (.aload_n 0, 1) := by decide +kernel
theorem dX4_product_1 : decode cX4_product 1 = .ok (.iload_n 1, 1) := by decide +kernel
theorem dX4_product_2 : decode cX4_product 2 = .ok (.invokevirtual 84, 3) := by decide +kernel
theorem dX4_product_5 : decode cX4_product 5 = .ok (.istore_n 2, 1) := by decide +kernel
theorem dX4_product_6 : decode cX4_product 6 = .ok (.iconst 0, 1) := by decide +kernel
theorem dX4_product_7 : decode cX4_product 7 = .ok (.istore_n 3, 1) := by decide +kernel
theorem dX4_product_8 : decode cX4_product 8 = .ok (.iload_n 3, 1) := by decide +kernel
theorem dX4_product_9 : decode cX4_product 9 = .ok (.sipush 400, 3) := by decide +kernel
theorem dX4_product_12 : decode cX4_product 12 = .ok (.if_icmp .ge 100, 3) := by decide +kernel
theorem dX4_product_15 : decode cX4_product 15 = .ok (.aload_n 0, 1) := by decide +kernel
theorem dX4_product_16 : decode cX4_product 16 = .ok (.getfield 9, 3) := by decide +kernel
theorem dX4_product_19 : decode cX4_product 19 = .ok (.aload_n 0, 1) := by decide +kernel
theorem dX4_product_20 : decode cX4_product 20 = .ok (.getfield 15, 3) := by decide +kernel
theorem dX4_product_23 : decode cX4_product 23 = .ok (.invokevirtual 48, 3) := by decide +kernel
theorem dX4_product_26 : decode cX4_product 26 = .ok (.istore 4, 2) := by decide +kernel
theorem dX4_product_28 : decode cX4_product 28 = .ok (.iload 4, 2) := by decide +kernel
theorem dX4_product_30 : decode cX4_product 30 = .ok (.bipush 24, 2) := by decide +kernel
theorem dX4_product_32 : decode cX4_product 32 = .ok (.if_icmp .lt 80, 3) := by decide +kernel
theorem dX4_product_35 : decode cX4_product 35 = .ok (.iload 4, 2) := by decide +kernel
theorem dX4_product_37 : decode cX4_product 37 = .ok (.bipush 26, 2) := by decide +kernel
theorem dX4_product_39 : decode cX4_product 39 = .ok (.if_icmp .le 6, 3) := by decide +kernel
theorem dX4_product_42 : decode cX4_product 42 = .ok (.goto 70, 3) := by decide +kernel
theorem dX4_product_45 : decode cX4_product 45 = .ok (.aload_n 0, 1) := by decide +kernel
theorem dX4_product_46 : decode cX4_product 46 = .ok (.dup, 1) := by decide +kernel
theorem dX4_product_47 : decode cX4_product 47 = .ok (.getfield 15, 3) := by decide +kernel
theorem dX4_product_50 : decode cX4_product 50 = .ok (.iconst 1, 1) := by decide +kernel
theorem dX4_product_51 : decode cX4_product 51 = .ok (.iadd, 1) := by decide +kernel
theorem dX4_product_52 : decode cX4_product 52 = .ok (.putfield 15, 3) := by decide +kernel
theorem dX4_product_55 : decode cX4_product 55 = .ok (.aload_n 0, 1) := by decide +kernel
theorem dX4_product_56 : decode cX4_product 56 = .ok (.iload_n 1, 1) := by decide +kernel
theorem dX4_product_57 : decode cX4_product 57 = .ok (.invokevirtual 84, 3) := by decide +kernel
theorem dX4_product_60 : decode cX4_product 60 = .ok (.istore 5, 2) := by decide +kernel
theorem dX4_product_62 : decode cX4_product 62 = .ok (.iload 4, 2) := by decide +kernel
theorem dX4_product_64 : decode cX4_product 64 = .ok (.bipush 24, 2) := by decide +kernel
theorem dX4_product_66 : decode cX4_product 66 = .ok (.if_icmp .ne 11, 3) := by decide +kernel
theorem dX4_product_69 : decode cX4_product 69 = .ok (.iload_n 2, 1) := by decide +kernel
theorem dX4_product_70 : decode cX4_product 70 = .ok (.iload 5, 2) := by decide +kernel
theorem dX4_product_72 : decode cX4_product 72 = .ok (.imul, 1) := by decide +kernel
theorem dX4_product_73 : decode cX4_product 73 = .ok (.istore_n 2, 1) := by decide +kernel
theorem dX4_product_74 : decode cX4_product 74 = .ok (.goto 32, 3) := by decide +kernel
theorem dX4_product_77 : decode cX4_product 77 = .ok (.iload 5, 2) := by decide +kernel
theorem dX4_product_79 : decode cX4_product 79 = .ok (.ifCond .ne 8, 3) := by decide +kernel
theorem dX4_product_82 : decode cX4_product 82 = .ok (.iconst 0, 1) := by decide +kernel
theorem dX4_product_83 : decode cX4_product 83 = .ok (.istore_n 2, 1) := by decide +kernel
theorem dX4_product_84 : decode cX4_product 84 = .ok (.goto 22, 3) := by decide +kernel
theorem dX4_product_87 : decode cX4_product 87 = .ok (.iload 4, 2) := by decide +kernel
theorem dX4_product_89 : decode cX4_product 89 = .ok (.bipush 25, 2) := by decide +kernel
theorem dX4_product_91 : decode cX4_product 91 = .ok (.if_icmp .ne 10, 3) := by decide +kernel
theorem dX4_product_94 : decode cX4_product 94 = .ok (.iload_n 2, 1) := by decide +kernel
theorem dX4_product_95 : decode cX4_product 95 = .ok (.iload 5, 2) := by decide +kernel
theorem dX4_product_97 : decode cX4_product 97 = .ok (.idiv, 1) := by decide +kernel
theorem dX4_product_98 : decode cX4_product 98 = .ok (.goto 7, 3) := by decide +kernel
theorem dX4_product_101 : decode cX4_product 101 = .ok (.iload_n 2, 1) := by decide +kernel
theorem dX4_product_102 : decode cX4_product 102 = .ok (.iload 5, 2) := by decide +kernel
theorem dX4_product_104 : decode cX4_product 104 = .ok (.irem, 1) := by decide +kernel
theorem dX4_product_105 : decode cX4_product 105 = .ok (.istore_n 2, 1) := by decide +kernel
theorem dX4_product_106 : decode cX4_product 106 = .ok (.iinc 3 1, 3) := by decide +kernel
theorem dX4_product_109 : decode cX4_product 109 = .ok (.goto (-101), 3) := by decide +kernel
theorem dX4_product_112 : decode cX4_product 112 = .ok (.iload_n 2, 1) := by decide +kernel
theorem dX4_product_113 : decode cX4_product 113 = .ok (.ireturn, 1) := by decide +kernel
theorem dX4_unit_0 : decode cX4_unit 0 = .ok (.aload_n 0, 1) := by decide +kernel
theorem dX4_unit_1 : decode cX4_unit 1 = .ok (.getfield 9, 3) := by decide +kernel
theorem dX4_unit_4 : decode cX4_unit 4 = .ok (.aload_n 0, 1) := by decide +kernel
theorem dX4_unit_5 : decode cX4_unit 5 = .ok (.getfield 15, 3) := by decide +kernel
theorem dX4_unit_8 : decode cX4_unit 8 = .ok (.invokevirtual 48, 3) := by decide +kernel
theorem dX4_unit_11 : decode cX4_unit 11 = .ok (.istore_n 2, 1) := by decide +kernel
theorem dX4_unit_12 : decode cX4_unit 12 = .ok (.iload_n 2, 1) := by decide +kernel
theorem dX4_unit_13 : decode cX4_unit 13 = .ok (.bipush 27, 2) := by decide +kernel
theorem dX4_unit_15 : decode cX4_unit 15 = .ok (.if_icmp .ne 39, 3) := by decide +kernel
theorem dX4_unit_18 : decode cX4_unit 18 = .ok (.iload_n 1, 1) := by decide +kernel
theorem dX4_unit_19 : decode cX4_unit 19 = .ok (.bipush 6, 2) := by decide +kernel
theorem dX4_unit_21 : decode cX4_unit 21 = .ok (.if_icmp .ge 33, 3) := by decide +kernel
theorem dX4_unit_24 : decode cX4_unit 24 = .ok (.aload_n 0, 1) := by decide +kernel
theorem dX4_unit_25 : decode cX4_unit 25 = .ok (.dup, 1) := by decide +kernel
theorem dX4_unit_26 : decode cX4_unit 26 = .ok (.getfield 15, 3) := by decide +kernel
theorem dX4_unit_29 : decode cX4_unit 29 = .ok (.iconst 1, 1) := by decide +kernel
theorem dX4_unit_30 : decode cX4_unit 30 = .ok (.iadd, 1) := by decide +kernel
theorem dX4_unit_31 : decode cX4_unit 31 = .ok (.putfield 15, 3) := by decide +kernel
theorem dX4_unit_34 : decode cX4_unit 34 = .ok (.aload_n 0, 1) := by decide +kernel
theorem dX4_unit_35 : decode cX4_unit 35 = .ok (.iload_n 1, 1) := by decide +kernel
theorem dX4_unit_36 : decode cX4_unit 36 = .ok (.iconst 1, 1) := by decide +kernel
theorem dX4_unit_37 : decode cX4_unit 37 = .ok (.iadd, 1) := by decide +kernel
theorem dX4_unit_38 : decode cX4_unit 38 = .ok (.invokevirtual 78, 3) := by decide +kernel
theorem dX4_unit_41 : decode cX4_unit 41 = .ok (.istore_n 3, 1) := by decide +kernel
theorem dX4_unit_42 : decode cX4_unit 42 = .ok (.aload_n 0, 1) := by decide +kernel
theorem dX4_unit_43 : decode cX4_unit 43 = .ok (.dup, 1) := by decide +kernel
theorem dX4_unit_44 : decode cX4_unit 44 = .ok (.getfield 15, 3) := by decide +kernel
theorem dX4_unit_47 : decode cX4_unit 47 = .ok (.iconst 1, 1) := by decide +kernel
theorem dX4_unit_48 : decode cX4_unit 48 = .ok (.iadd, 1) := by decide +kernel
theorem dX4_unit_49 : decode cX4_unit 49 = .ok (.putfield 15, 3) := by decide +kernel
theorem dX4_unit_52 : decode cX4_unit 52 = .ok (.iload_n 3, 1) := by decide +kernel
theorem dX4_unit_53 : decode cX4_unit 53 = .ok (.ireturn, 1) := by decide +kernel
theorem dX4_unit_54 : decode cX4_unit 54 = .ok (.aload_n 0, 1) := by decide +kernel
theorem dX4_unit_55 : decode cX4_unit 55 = .ok (.getfield 9, 3) := by decide +kernel
theorem dX4_unit_58 : decode cX4_unit 58 = .ok (.aload_n 0, 1) := by decide +kernel
theorem dX4_unit_59 : decode cX4_unit 59 = .ok (.getfield 15, 3) := by decide +kernel
theorem dX4_unit_62 : decode cX4_unit 62 = .ok (.invokevirtual 65, 3) := by decide +kernel
theorem dX4_unit_65 : decode cX4_unit 65 = .ok (.istore_n 3, 1) := by decide +kernel
theorem dX4_unit_66 : decode cX4_unit 66 = .ok (.aload_n 0, 1) := by decide +kernel
theorem dX4_unit_67 : decode cX4_unit 67 = .ok (.dup, 1) := by decide +kernel
theorem dX4_unit_68 : decode cX4_unit 68 = .ok (.getfield 15, 3) := by decide +kernel
theorem dX4_unit_71 : decode cX4_unit 71 = .ok (.iconst 1, 1) := by decide +kernel
theorem dX4_unit_72 : decode cX4_unit 72 = .ok (.iadd, 1) := by decide +kernel
theorem dX4_unit_73 : decode cX4_unit 73 = .ok (.putfield 15, 3) := by decide +kernel
theorem dX4_unit_76 : decode cX4_unit 76 = .ok (.iload_n 2, 1) := by decide +kernel
theorem dX4_unit_77 : decode cX4_unit 77 = .ok (.bipush 14, 2) := by decide +kernel
theorem dX4_unit_79 : decode cX4_unit 79 = .ok (.isub, 1) := by decide +kernel
theorem dX4_unit_80 : decode cX4_unit 80 = .ok (.istore 4, 2) := by decide +kernel
theorem dX4_unit_82 : decode cX4_unit 82 = .ok (.iload 4, 2) := by decide +kernel
theorem dX4_unit_84 : decode cX4_unit 84 = .ok (.ifCond .lt 23, 3) := by decide +kernel
theorem dX4_unit_87 : decode cX4_unit 87 = .ok (.iload 4, 2) := by decide +kernel
theorem dX4_unit_89 : decode cX4_unit 89 = .ok (.aload_n 0, 1) := by decide +kernel
theorem dX4_unit_90 : decode cX4_unit 90 = .ok (.getfield 32, 3) := by decide +kernel
theorem dX4_unit_93 : decode cX4_unit 93 = .ok (.arraylength, 1) := by decide +kernel
theorem dX4_unit_94 : decode cX4_unit 94 = .ok (.if_icmp .ge 13, 3) := by decide +kernel
theorem dX4_unit_97 : decode cX4_unit 97 = .ok (.aload_n 0, 1) := by decide +kernel
theorem dX4_unit_98 : decode cX4_unit 98 = .ok (.getfield 32, 3) := by decide +kernel
theorem dX4_unit_101 : decode cX4_unit 101 = .ok (.iload 4, 2) := by decide +kernel
theorem dX4_unit_103 : decode cX4_unit 103 = .ok (.iaload, 1) := by decide +kernel
theorem dX4_unit_104 : decode cX4_unit 104 = .ok (.goto 4, 3) := by decide +kernel
theorem dX4_unit_107 : decode cX4_unit 107 = .ok (.iload_n 3, 1) := by decide +kernel
theorem dX4_unit_108 : decode cX4_unit 108 = .ok (.ireturn, 1) := by decide +kernel
