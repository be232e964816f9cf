theorem dX0_init_0 : decode cX0_init 0 = .ok (.aload_n 0, 1) := by decide +kernel
theorem dX0_init_1 : decode cX0_init 1 = .ok (.invokespecial 3, 3) := by decide +kernel
theorem dX0_init_4 : decode cX0_init 4 = .ok (.aload_n 0, 1) := by decide +kernel
theorem dX0_init_5 : decode cX0_init 5 = .ok (.iconst 0, 1) := by decide +kernel
theorem dX0_init_6 : decode cX0_init 6 = .ok (.putfield 9, 3) := by decide +kernel
theorem dX0_init_9 : decode cX0_init 9 = .ok (.aload_n 0, 1) := by decide +kernel
theorem dX0_init_10 : decode cX0_init 10 = .ok (.iconst 0, 1) := by decide +kernel
theorem dX0_init_11 : decode cX0_init 11 = .ok (.putfield 15, 3) := by decide +kernel
theorem dX0_init_14 : decode cX0_init 14 = .ok (.aload_n 0, 1) := by decide +kernel
theorem dX0_init_15 : decode cX0_init 15 = .ok (.iconst 0, 1) := by decide +kernel
theorem dX0_init_16 : decode cX0_init 16 = .ok (.putfield 18, 3) := by decide +kernel
theorem dX0_init_19 : decode cX0_init 19 = .ok (.aload_n 0, 1) := by decide +kernel
theorem dX0_init_20 : decode cX0_init 20 = .ok (.bipush 10, 2) := by decide +kernel
theorem dX0_init_22 : decode cX0_init 22 = .ok (.newarray .int, 2) := by decide +kernel
theorem dX0_init_24 : decode cX0_init 24 = .ok (.putfield 21, 3) := by decide +kernel
theorem dX0_init_27 : decode cX0_init 27 = .ok (.aload_n 0, 1) := by decide +kernel
theorem dX0_init_28 : decode cX0_init 28 = .ok (.bipush 10, 2) := by decide +kernel
theorem dX0_init_30 : decode cX0_init 30 = .ok (.newarray .int, 2) := by decide +kernel
theorem dX0_init_32 : decode cX0_init 32 = .ok (.putfield 25, 3) := by decide +kernel
theorem dX0_init_35 : decode cX0_init 35 = .ok (.aload_n 0, 1) := by decide +kernel
theorem dX0_init_36 : decode cX0_init 36 = .ok (.bipush 10, 2) := by decide +kernel
theorem dX0_init_38 : decode cX0_init 38 = .ok (.newarray .int, 2) := by decide +kernel
theorem dX0_init_40 : decode cX0_init 40 = .ok (.putfield 28, 3) := by decide +kernel
theorem dX0_init_43 : decode cX0_init 43 = .ok (.aload_n 0, 1) := by decide +kernel
theorem dX0_init_44 : decode cX0_init 44 = .ok (.bipush 80, 2) := by decide +kernel
theorem dX0_init_46 : decode cX0_init 46 = .ok (.newarray .int, 2) := by decide +kernel
theorem dX0_init_48 : decode cX0_init 48 = .ok (.putfield 31, 3) := by decide +kernel
theorem dX0_init_51 : decode cX0_init 51 = .ok (.aload_n 0, 1) := by decide +kernel
theorem dX0_init_52 : decode cX0_init 52 = .ok (.bipush 80, 2) := by decide +kernel
theorem dX0_init_54 : decode cX0_init 54 = .ok (.newarray .int, 2) := by decide +kernel
theorem dX0_init_56 : decode cX0_init 56 = .ok (.putfield 34, 3) := by decide +kernel
theorem dX0_init_59 : decode cX0_init 59 = .ok (.aload_n 0, 1) := by decide +kernel
theorem dX0_init_60 : decode cX0_init 60 = .ok (.bipush 80, 2) := by decide +kernel
theorem dX0_init_62 : decode cX0_init 62 = .ok (.newarray .int, 2) := by decide +kernel
theorem dX0_init_64 : decode cX0_init 64 = .ok (.putfield 37, 3) := by decide +kernel
theorem dX0_init_67 : decode cX0_init 67 = .ok (.return_, 1) := by decide +kernel
theorem dX0_forget_0 : decode cX0_forget 0 = .ok (.aload_n 0, 1) := by decide +kernel
theorem dX0_forget_1 : decode cX0_forget 1 = .ok (.iconst 0, 1) := by decide +kernel
theorem dX0_forget_2 : decode cX0_forget 2 = .ok (.putfield 9, 3) := by decide +kernel
theorem dX0_forget_5 : decode cX0_forget 5 = .ok (.aload_n 0, 1) := by decide +kernel
theorem dX0_forget_6 : decode cX0_forget 6 = .ok (.iconst 0, 1) := by decide +kernel
theorem dX0_forget_7 : decode cX0_forget 7 = .ok (.putfield 15, 3) := by decide +kernel
theorem dX0_forget_10 : decode cX0_forget 10 = .ok (.aload_n 0, 1) := by decide +kernel
theorem dX0_forget_11 : decode cX0_forget 11 = .ok (.iconst 0, 1) := by decide +kernel
theorem dX0_forget_12 : decode cX0_forget 12 = .ok (.putfield 18, 3) := by decide +kernel
theorem dX0_forget_15 : decode cX0_forget 15 = .ok (.return_, 1) := by decide +kernel
theorem dX0_become_0 : decode cX0_become 0 = .ok (.aload_n 0, 1) := by decide +kernel
theorem dX0_become_1 : decode cX0_become 1 = .ok (.aload_n 1, 1) := by decide +kernel
theorem dX0_become_2 : decode cX0_become 2 = .ok (.getfield 9, 3) := by decide +kernel
theorem dX0_become_5 : decode cX0_become 5 = .ok (.putfield 9, 3) := by decide +kernel
theorem dX0_become_8 : decode cX0_become 8 = .ok (.aload_n 0, 1) := by decide +kernel
theorem dX0_become_9 : decode cX0_become 9 = .ok (.aload_n 1, 1) := by decide +kernel
theorem dX0_become_10 : decode cX0_become 10 = .ok (.getfield 15, 3) := by decide +kernel
theorem dX0_become_13 : decode cX0_become 13 = .ok (.putfield 15, 3) := by decide +kernel
theorem dX0_become_16 : decode cX0_become 16 = .ok (.aload_n 0, 1) := by decide +kernel
theorem dX0_become_17 : decode cX0_become 17 = .ok (.aload_n 1, 1) := by decide +kernel
theorem dX0_become_18 : decode cX0_become 18 = .ok (.getfield 18, 3) := by decide +kernel
theorem dX0_become_21 : decode cX0_become 21 = .ok (.putfield 18, 3) := by decide +kernel
theorem dX0_become_24 : decode cX0_become 24 = .ok (.aload_n 1, 1) := by decide +kernel
theorem dX0_become_25 : decode cX0_become 25 = .ok (.getfield 21, 3) := by decide +kernel
theorem dX0_become_28 : decode cX0_become 28 = .ok (.iconst 0, 1) := by decide +kernel
theorem dX0_become_29 : decode cX0_become 29 = .ok (.aload_n 0, 1) := by decide +kernel
theorem dX0_become_30 : decode cX0_become 30 = .ok (.getfield 21, 3) := by decide +kernel
theorem dX0_become_33 : decode cX0_become 33 = .ok (.iconst 0, 1) := by decide +kernel
theorem dX0_become_34 : decode cX0_become 34 = .ok (.bipush 10, 2) := by decide +kernel
theorem dX0_become_36 : decode cX0_become 36 = .ok (.invokestatic 40, 3) := by decide +kernel
theorem dX0_become_39 : decode cX0_become 39 = .ok (.aload_n 1, 1) := by decide +kernel
theorem dX0_become_40 : decode cX0_become 40 = .ok (.getfield 25, 3) := by decide +kernel
theorem dX0_become_43 : decode cX0_become 43 = .ok (.iconst 0, 1) := by decide +kernel
theorem dX0_become_44 : decode cX0_become 44 = .ok (.aload_n 0, 1) := by decide +kernel
theorem dX0_become_45 : decode cX0_become 45 = .ok (.getfield 25, 3) := by decide +kernel
theorem dX0_become_48 : decode cX0_become 48 = .ok (.iconst 0, 1) := by decide +kernel
theorem dX0_become_49 : decode cX0_become 49 = .ok (.bipush 10, 2) := by decide +kernel
theorem dX0_become_51 : decode cX0_become 51 = .ok (.invokestatic 40, 3) := by decide +kernel
theorem dX0_become_54 : decode cX0_become 54 = .ok (.aload_n 1, 1) := by decide +kernel
theorem dX0_become_55 : decode cX0_become 55 = .ok (.getfield 28, 3) := by decide +kernel
theorem dX0_become_58 : decode cX0_become 58 = .ok (.iconst 0, 1) := by decide +kernel
theorem dX0_become_59 : decode cX0_become 59 = .ok (.aload_n 0, 1) := by decide +kernel
theorem dX0_become_60 : decode cX0_become 60 = .ok (.getfield 28, 3) := by decide +kernel
theorem dX0_become_63 : decode cX0_become 63 = .ok (.iconst 0, 1) := by decide +kernel
theorem dX0_become_64 : decode cX0_become 64 = .ok (.bipush 10, 2) := by decide +kernel
theorem dX0_become_66 : decode cX0_become 66 = .ok (.invokestatic 40, 3) := by decide +kernel
theorem dX0_become_69 : decode cX0_become 69 = .ok (.aload_n 1, 1) := by decide +kernel
theorem dX0_become_70 : decode cX0_become 70 = .ok (.getfield 31, 3) := by decide +kernel
theorem dX0_become_73 : decode cX0_become 73 = .ok (.iconst 0, 1) := by decide +kernel
theorem dX0_become_74 : decode cX0_become 74 = .ok (.aload_n 0, 1) := by decide +kernel
theorem dX0_become_75 : decode cX0_become 75 = .ok (.getfield 31, 3) := by decide +kernel
theorem dX0_become_78 : decode cX0_become 78 = .ok (.iconst 0, 1) := by decide +kernel
theorem dX0_become_79 : decode cX0_become 79 = .ok (.bipush 80, 2) := by decide +kernel
theorem dX0_become_81 : decode cX0_become 81 = .ok (.invokestatic 40, 3) := by decide +kernel
theorem dX0_become_84 : decode cX0_become 84 = .ok (.aload_n 1, 1) := by decide +kernel
theorem dX0_become_85 : decode cX0_become 85 = .ok (.getfield 34, 3) := by decide +kernel
theorem dX0_become_88 : decode cX0_become 88 = .ok (.iconst 0, 1) := by decide +kernel
theorem dX0_become_89 : decode cX0_become 89 = .ok (.aload_n 0, 1) := by decide +kernel
theorem dX0_become_90 : decode cX0_become 90 = .ok (.getfield 34, 3) := by decide +kernel
theorem dX0_become_93 : decode cX0_become 93 = .ok (.iconst 0, 1) := by decide +kernel
theorem dX0_become_94 : decode cX0_become 94 = .ok (.bipush 80, 2) := by decide +kernel
theorem dX0_become_96 : decode cX0_become 96 = .ok (.invokestatic 40, 3) := by decide +kernel
theorem dX0_become_99 : decode cX0_become 99 = .ok (.aload_n 1, 1) := by decide +kernel
theorem dX0_become_100 : decode cX0_become 100 = .ok (.getfield 37, 3) := by decide +kernel
theorem dX0_become_103 : decode cX0_become 103 = .ok (.iconst 0, 1) := by decide +kernel
theorem dX0_become_104 : decode cX0_become 104 = .ok (.aload_n 0, 1) := by decide +kernel
theorem dX0_become_105 : decode cX0_become 105 = .ok (.getfield 37, 3) := by decide +kernel
theorem dX0_become_108 : decode cX0_become 108 = .ok (.iconst 0, 1) := by decide +kernel
theorem dX0_become_109 : decode cX0_become 109 = .ok (.bipush 80, 2) := by decide +kernel
theorem dX0_become_111 : decode cX0_become 111 = .ok (.invokestatic 40, 3) := by decide +kernel
theorem dX0_become_114 : decode cX0_become 114 = .ok (.return_, 1) := by decide +kernel
theorem dX0_begin_0 : decode cX0_begin 0 = .ok (.aload_n 0, 1) := by decide +kernel
theorem dX0_begin_1 : decode cX0_begin 1 = .ok (.getfield 9, 3) := by decide +kernel
theorem dX0_begin_4 : decode cX0_begin 4 = .ok (.ifCond .lt 12, 3) := by decide +kernel
theorem dX0_begin_7 : decode cX0_begin 7 = .ok (.aload_n 0, 1) := by decide +kernel
theorem dX0_begin_8 : decode cX0_begin 8 = .ok (.getfield 9, 3) := by decide +kernel
theorem dX0_begin_11 : decode cX0_begin 11 = .ok (.bipush 10, 2) := by decide +kernel
theorem dX0_begin_13 : decode cX0_begin 13 = .ok (.if_icmp .lt 5, 3) := by decide +kernel
theorem dX0_begin_16 : decode cX0_begin 16 = .ok (.iconst (-1), 1) := by decide +kernel
theorem dX0_begin_17 : decode cX0_begin 17 = .ok (.ireturn, 1) := by decide +kernel
theorem dX0_begin_18 : decode cX0_begin 18 = .ok (.aload_n 0, 1) := by decide +kernel
theorem dX0_begin_19 : decode cX0_begin 19 = .ok (.getfield 9, 3) := by decide +kernel
theorem dX0_begin_22 : decode cX0_begin 22 = .ok (.istore_n 3, 1) := by decide +kernel
theorem dX0_begin_23 : decode cX0_begin 23 = .ok (.aload_n 0, 1) := by decide +kernel
theorem dX0_begin_24 : decode cX0_begin 24 = .ok (.dup, 1) := by decide +kernel
theorem dX0_begin_25 : decode cX0_begin 25 = .ok (.getfield 9, 3) := by decide +kernel
theorem dX0_begin_28 : decode cX0_begin 28 = .ok (.iconst 1, 1) := by decide +kernel
theorem dX0_begin_29 : decode cX0_begin 29 = .ok (.iadd, 1) := by decide +kernel
theorem dX0_begin_30 : decode cX0_begin 30 = .ok (.putfield 9, 3) := by decide +kernel
theorem dX0_begin_33 : decode cX0_begin 33 = .ok (.aload_n 0, 1) := by decide +kernel
theorem dX0_begin_34 : decode cX0_begin 34 = .ok (.getfield 21, 3) := by decide +kernel
theorem dX0_begin_37 : decode cX0_begin 37 = .ok (.iload_n 3, 1) := by decide +kernel
theorem dX0_begin_38 : decode cX0_begin 38 = .ok (.iload_n 1, 1) := by decide +kernel
theorem dX0_begin_39 : decode cX0_begin 39 = .ok (.iastore, 1) := by decide +kernel
theorem dX0_begin_40 : decode cX0_begin 40 = .ok (.aload_n 0, 1) := by decide +kernel
theorem dX0_begin_41 : decode cX0_begin 41 = .ok (.getfield 25, 3) := by decide +kernel
theorem dX0_begin_44 : decode cX0_begin 44 = .ok (.iload_n 3, 1) := by decide +kernel
theorem dX0_begin_45 : decode cX0_begin 45 = .ok (.iload_n 2, 1) := by decide +kernel
theorem dX0_begin_46 : decode cX0_begin 46 = .ok (.iastore, 1) := by decide +kernel
theorem dX0_begin_47 : decode cX0_begin 47 = .ok (.aload_n 0, 1) := by decide +kernel
theorem dX0_begin_48 : decode cX0_begin 48 = .ok (.getfield 28, 3) := by decide +kernel
theorem dX0_begin_51 : decode cX0_begin 51 = .ok (.iload_n 3, 1) := by decide +kernel
theorem dX0_begin_52 : decode cX0_begin 52 = .ok (.iconst 0, 1) := by decide +kernel
theorem dX0_begin_53 : decode cX0_begin 53 = .ok (.iastore, 1) := by decide +kernel
theorem dX0_begin_54 : decode cX0_begin 54 = .ok (.aload_n 0, 1) := by decide +kernel
theorem dX0_begin_55 : decode cX0_begin 55 = .ok (.dup, 1) := by decide +kernel
theorem dX0_begin_56 : decode cX0_begin 56 = .ok (.getfield 15, 3) := by decide +kernel
theorem dX0_begin_59 : decode cX0_begin 59 = .ok (.iconst 1, 1) := by decide +kernel
theorem dX0_begin_60 : decode cX0_begin 60 = .ok (.iload_n 3, 1) := by decide +kernel
theorem dX0_begin_61 : decode cX0_begin 61 = .ok (.ishl, 1) := by decide +kernel
theorem dX0_begin_62 : decode cX0_begin 62 = .ok (.ior, 1) := by decide +kernel
theorem dX0_begin_63 : decode cX0_begin 63 = .ok (.putfield 15, 3) := by decide +kernel
theorem dX0_begin_66 : decode cX0_begin 66 = .ok (.iload_n 3, 1) := by decide +kernel
theorem dX0_begin_67 : decode cX0_begin 67 = .ok (.ireturn, 1) := by decide +kernel
theorem dX0_put_0 : decode cX0_put 0 = .ok (.aload_n 0, 1) := by decide +kernel
theorem dX0_put_1 : decode cX0_put 1 = .ok (.iload_n 1, 1) := by decide +kernel
theorem dX0_put_2 : decode cX0_put 2 = .ok (.invokevirtual 46, 3) := by decide +kernel
theorem dX0_put_5 : decode cX0_put 5 = .ok (.ifCond .eq 13, 3) := by decide +kernel
theorem dX0_put_8 : decode cX0_put 8 = .ok (.iload_n 2, 1) := by decide +kernel
theorem dX0_put_9 : decode cX0_put 9 = .ok (.ifCond .lt 9, 3) := by decide +kernel
theorem dX0_put_12 : decode cX0_put 12 = .ok (.iload_n 2, 1) := by decide +kernel
theorem dX0_put_13 : decode cX0_put 13 = .ok (.bipush 8, 2) := by decide +kernel
theorem dX0_put_15 : decode cX0_put 15 = .ok (.if_icmp .lt 4, 3) := by decide +kernel
theorem dX0_put_18 : decode cX0_put 18 = .ok (.return_, 1) := by decide +kernel
theorem dX0_put_19 : decode cX0_put 19 = .ok (.iload_n 1, 1) := by decide +kernel
theorem dX0_put_20 : decode cX0_put 20 = .ok (.bipush 8, 2) := by decide +kernel
theorem dX0_put_22 : decode cX0_put 22 = .ok (.imul, 1) := by decide +kernel
theorem dX0_put_23 : decode cX0_put 23 = .ok (.iload_n 2, 1) := by decide +kernel
theorem dX0_put_24 : decode cX0_put 24 = .ok (.iadd, 1) := by decide +kernel
theorem dX0_put_25 : decode cX0_put 25 = .ok (.istore 6, 2) := by decide +kernel
theorem dX0_put_27 : decode cX0_put 27 = .ok (.aload_n 0, 1) := by decide +kernel
theorem dX0_put_28 : decode cX0_put 28 = .ok (.getfield 28, 3) := by decide +kernel
theorem dX0_put_31 : decode cX0_put 31 = .ok (.iload_n 1, 1) := by decide +kernel
theorem dX0_put_32 : decode cX0_put 32 = .ok (.dup2, 1) := by decide +kernel
theorem dX0_put_33 : decode cX0_put 33 = .ok (.iaload, 1) := by decide +kernel
theorem dX0_put_34 : decode cX0_put 34 = .ok (.iconst 1, 1) := by decide +kernel
theorem dX0_put_35 : decode cX0_put 35 = .ok (.iload_n 2, 1) := by decide +kernel
theorem dX0_put_36 : decode cX0_put 36 = .ok (.ishl, 1) := by decide +kernel
theorem dX0_put_37 : decode cX0_put 37 = .ok (.ior, 1) := by decide +kernel
theorem dX0_put_38 : decode cX0_put 38 = .ok (.iastore, 1) := by decide +kernel
theorem dX0_put_39 : decode cX0_put 39 = .ok (.aload_n 0, 1) := by decide +kernel
theorem dX0_put_40 : decode cX0_put 40 = .ok (.getfield 31, 3) := by decide +kernel
theorem dX0_put_43 : decode cX0_put 43 = .ok (.iload 6, 2) := by decide +kernel
theorem dX0_put_45 : decode cX0_put 45 = .ok (.iload_n 3, 1) := by decide +kernel
theorem dX0_put_46 : decode cX0_put 46 = .ok (.iastore, 1) := by decide +kernel
theorem dX0_put_47 : decode cX0_put 47 = .ok (.aload_n 0, 1) := by decide +kernel
theorem dX0_put_48 : decode cX0_put 48 = .ok (.getfield 34, 3) := by decide +kernel
theorem dX0_put_51 : decode cX0_put 51 = .ok (.iload 6, 2) := by decide +kernel
theorem dX0_put_53 : decode cX0_put 53 = .ok (.iload 4, 2) := by decide +kernel
theorem dX0_put_55 : decode cX0_put 55 = .ok (.iastore, 1) := by decide +kernel
theorem dX0_put_56 : decode cX0_put 56 = .ok (.aload_n 0, 1) := by decide +kernel
theorem dX0_put_57 : decode cX0_put 57 = .ok (.getfield 37, 3) := by decide +kernel
theorem dX0_put_60 : decode cX0_put 60 = .ok (.iload 6, 2) := by decide +kernel
theorem dX0_put_62 : decode cX0_put 62 = .ok (.iload 5, 2) := by decide +kernel
theorem dX0_put_64 : decode cX0_put 64 = .ok (.iastore, 1) := by decide +kernel
theorem dX0_put_65 : decode cX0_put 65 = .ok (.return_, 1) := by decide +kernel
theorem dX0_shut_0 : decode cX0_shut 0 = .ok (.aload_n 0, 1) := by decide +kernel
theorem dX0_shut_1 : decode cX0_shut 1 = .ok (.iload_n 1, 1) := by decide +kernel
theorem dX0_shut_2 : decode cX0_shut 2 = .ok (.invokevirtual 50, 3) := by decide +kernel
theorem dX0_shut_5 : decode cX0_shut 5 = .ok (.ifCond .ne 5, 3) := by decide +kernel
theorem dX0_shut_8 : decode cX0_shut 8 = .ok (.iconst 0, 1) := by decide +kernel
theorem dX0_shut_9 : decode cX0_shut 9 = .ok (.ireturn, 1) := by decide +kernel
theorem dX0_shut_10 : decode cX0_shut 10 = .ok (.aload_n 0, 1) := by decide +kernel
theorem dX0_shut_11 : decode cX0_shut 11 = .ok (.dup, 1) := by decide +kernel
theorem dX0_shut_12 : decode cX0_shut 12 = .ok (.getfield 15, 3) := by decide +kernel
theorem dX0_shut_15 : decode cX0_shut 15 = .ok (.iconst 1, 1) := by decide +kernel
theorem dX0_shut_16 : decode cX0_shut 16 = .ok (.iload_n 1, 1) := by decide +kernel
theorem dX0_shut_17 : decode cX0_shut 17 = .ok (.ishl, 1) := by decide +kernel
theorem dX0_shut_18 : decode cX0_shut 18 = .ok (.iconst (-1), 1) := by decide +kernel
theorem dX0_shut_19 : decode cX0_shut 19 = .ok (.ixor, 1) := by decide +kernel
theorem dX0_shut_20 : decode cX0_shut 20 = .ok (.iand, 1) := by decide +kernel
theorem dX0_shut_21 : decode cX0_shut 21 = .ok (.putfield 15, 3) := by decide +kernel
theorem dX0_shut_24 : decode cX0_shut 24 = .ok (.iconst 1, 1) := by decide +kernel
theorem dX0_shut_25 : decode cX0_shut 25 = .ok (.ireturn, 1) := by decide +kernel
theorem dX0_letGo_0 : decode cX0_letGo 0 = .ok (.aload_n 0, 1) := by decide +kernel
theorem dX0_letGo_1 : decode cX0_letGo 1 = .ok (.iload_n 1, 1) := by decide +kernel
theorem dX0_letGo_2 : decode cX0_letGo 2 = .ok (.invokevirtual 46, 3) := by decide +kernel
theorem dX0_letGo_5 : decode cX0_letGo 5 = .ok (.ifCond .eq 27, 3) := by decide +kernel
theorem dX0_letGo_8 : decode cX0_letGo 8 = .ok (.aload_n 0, 1) := by decide +kernel
theorem dX0_letGo_9 : decode cX0_letGo 9 = .ok (.iload_n 1, 1) := by decide +kernel
theorem dX0_letGo_10 : decode cX0_letGo 10 = .ok (.invokevirtual 50, 3) := by decide +kernel
theorem dX0_letGo_13 : decode cX0_letGo 13 = .ok (.ifCond .ne 19, 3) := by decide +kernel
theorem dX0_letGo_16 : decode cX0_letGo 16 = .ok (.aload_n 0, 1) := by decide +kernel
theorem dX0_letGo_17 : decode cX0_letGo 17 = .ok (.iload_n 1, 1) := by decide +kernel
theorem dX0_letGo_18 : decode cX0_letGo 18 = .ok (.invokevirtual 53, 3) := by decide +kernel
theorem dX0_letGo_21 : decode cX0_letGo 21 = .ok (.ifCond .ne 11, 3) := by decide +kernel
theorem dX0_letGo_24 : decode cX0_letGo 24 = .ok (.aload_n 0, 1) := by decide +kernel
theorem dX0_letGo_25 : decode cX0_letGo 25 = .ok (.iload_n 1, 1) := by decide +kernel
theorem dX0_letGo_26 : decode cX0_letGo 26 = .ok (.invokevirtual 56, 3) := by decide +kernel
theorem dX0_letGo_29 : decode cX0_letGo 29 = .ok (.ifCond .eq 5, 3) := by decide +kernel
theorem dX0_letGo_32 : decode cX0_letGo 32 = .ok (.iconst 0, 1) := by decide +kernel
theorem dX0_letGo_33 : decode cX0_letGo 33 = .ok (.ireturn, 1) := by decide +kernel
theorem dX0_letGo_34 : decode cX0_letGo 34 = .ok (.aload_n 0, 1) := by decide +kernel
theorem dX0_letGo_35 : decode cX0_letGo 35 = .ok (.dup, 1) := by decide +kernel
theorem dX0_letGo_36 : decode cX0_letGo 36 = .ok (.getfield 18, 3) := by decide +kernel
theorem dX0_letGo_39 : decode cX0_letGo 39 = .ok (.iconst 1, 1) := by decide +kernel
theorem dX0_letGo_40 : decode cX0_letGo 40 = .ok (.iload_n 1, 1) := by decide +kernel
theorem dX0_letGo_41 : decode cX0_letGo 41 = .ok (.ishl, 1) := by decide +kernel
theorem dX0_letGo_42 : decode cX0_letGo 42 = .ok (.ior, 1) := by decide +kernel
theorem dX0_letGo_43 : decode cX0_letGo 43 = .ok (.putfield 18, 3) := by decide +kernel
theorem dX0_letGo_46 : decode cX0_letGo 46 = .ok (.iconst 1, 1) := by decide +kernel
theorem dX0_letGo_47 : decode cX0_letGo 47 = .ok (.ireturn, 1) := by decide +kernel
theorem dX0_carriesOne_0 : decode cX0_carriesOne 0 = .ok (.iconst 0, 1) := by decide +kernel
theorem dX0_carriesOne_1 : decode cX0_carriesOne 1 = .ok (.istore_n 2, 1) := by decide +kernel
theorem dX0_carriesOne_2 : decode cX0_carriesOne 2 = .ok (.iload_n 2, 1) := by decide +kernel
theorem dX0_carriesOne_3 : decode cX0_carriesOne 3 = .ok (.aload_n 0, 1) := by decide +kernel
theorem dX0_carriesOne_4 : decode cX0_carriesOne 4 = .ok (.getfield 9, 3) := by decide +kernel
theorem dX0_carriesOne_7 : decode cX0_carriesOne 7 = .ok (.if_icmp .ge 29, 3) := by decide +kernel
theorem dX0_carriesOne_10 : decode cX0_carriesOne 10 = .ok (.aload_n 0, 1) := by decide +kernel
theorem dX0_carriesOne_11 : decode cX0_carriesOne 11 = .ok (.getfield 25, 3) := by decide +kernel
theorem dX0_carriesOne_14 : decode cX0_carriesOne 14 = .ok (.iload_n 2, 1) := by decide +kernel
theorem dX0_carriesOne_15 : decode cX0_carriesOne 15 = .ok (.iaload, 1) := by decide +kernel
theorem dX0_carriesOne_16 : decode cX0_carriesOne 16 = .ok (.iload_n 1, 1) := by decide +kernel
theorem dX0_carriesOne_17 : decode cX0_carriesOne 17 = .ok (.if_icmp .ne 13, 3) := by decide +kernel
theorem dX0_carriesOne_20 : decode cX0_carriesOne 20 = .ok (.aload_n 0, 1) := by decide +kernel
theorem dX0_carriesOne_21 : decode cX0_carriesOne 21 = .ok (.iload_n 2, 1) := by decide +kernel
theorem dX0_carriesOne_22 : decode cX0_carriesOne 22 = .ok (.invokevirtual 53, 3) := by decide +kernel
theorem dX0_carriesOne_25 : decode cX0_carriesOne 25 = .ok (.ifCond .ne 5, 3) := by decide +kernel
theorem dX0_carriesOne_28 : decode cX0_carriesOne 28 = .ok (.iconst 1, 1) := by decide +kernel
theorem dX0_carriesOne_29 : decode cX0_carriesOne 29 = .ok (.ireturn, 1) := by decide +kernel
theorem dX0_carriesOne_30 : decode cX0_carriesOne 30 = .ok (.iinc 2 1, 3) := by decide +kernel
theorem dX0_carriesOne_33 : decode cX0_carriesOne 33 = .ok (.goto (-31), 3) := by decide +kernel
theorem dX0_carriesOne_36 : decode cX0_carriesOne 36 = .ok (.iconst 0, 1) := by decide +kernel
theorem dX0_carriesOne_37 : decode cX0_carriesOne 37 = .ok (.ireturn, 1) := by decide +kernel
theorem dX0_hasCopy_0 : decode cX0_hasCopy 0 = .ok (.iload_n 1, 1) := by decide +kernel
theorem dX0_hasCopy_1 : decode cX0_hasCopy 1 = .ok (.ifCond .lt 15, 3) := by decide +kernel
theorem dX0_hasCopy_4 : decode cX0_hasCopy 4 = .ok (.iload_n 1, 1) := by decide +kernel
theorem dX0_hasCopy_5 : decode cX0_hasCopy 5 = .ok (.aload_n 0, 1) := by decide +kernel
theorem dX0_hasCopy_6 : decode cX0_hasCopy 6 = .ok (.getfield 9, 3) := by decide +kernel
theorem dX0_hasCopy_9 : decode cX0_hasCopy 9 = .ok (.if_icmp .ge 7, 3) := by decide +kernel
theorem dX0_hasCopy_12 : decode cX0_hasCopy 12 = .ok (.iconst 1, 1) := by decide +kernel
theorem dX0_hasCopy_13 : decode cX0_hasCopy 13 = .ok (.goto 4, 3) := by decide +kernel
theorem dX0_hasCopy_16 : decode cX0_hasCopy 16 = .ok (.iconst 0, 1) := by decide +kernel
theorem dX0_hasCopy_17 : decode cX0_hasCopy 17 = .ok (.ireturn, 1) := by decide +kernel
theorem dX0_isOpen_0 : decode cX0_isOpen 0 = .ok (.aload_n 0, 1) := by decide +kernel
theorem dX0_isOpen_1 : decode cX0_isOpen 1 = .ok (.iload_n 1, 1) := by decide +kernel
theorem dX0_isOpen_2 : decode cX0_isOpen 2 = .ok (.invokevirtual 46, 3) := by decide +kernel
theorem dX0_isOpen_5 : decode cX0_isOpen 5 = .ok (.ifCond .eq 18, 3) := by decide +kernel
theorem dX0_isOpen_8 : decode cX0_isOpen 8 = .ok (.aload_n 0, 1) := by decide +kernel
theorem dX0_isOpen_9 : decode cX0_isOpen 9 = .ok (.getfield 15, 3) := by decide +kernel
theorem dX0_isOpen_12 : decode cX0_isOpen 12 = .ok (.iload_n 1, 1) := by decide +kernel
theorem dX0_isOpen_13 : decode cX0_isOpen 13 = .ok (.ishr, 1) := by decide +kernel
theorem dX0_isOpen_14 : decode cX0_isOpen 14 = .ok (.iconst 1, 1) := by decide +kernel
theorem dX0_isOpen_15 : decode cX0_isOpen 15 = .ok (.iand, 1) := by decide +kernel
theorem dX0_isOpen_16 : decode cX0_isOpen 16 = .ok (.ifCond .eq 7, 3) := by decide +kernel
theorem dX0_isOpen_19 : decode cX0_isOpen 19 = .ok (.iconst 1, 1) := by decide +kernel
theorem dX0_isOpen_20 : decode cX0_isOpen 20 = .ok (.goto 4, 3) := by decide +kernel
theorem dX0_isOpen_23 : decode cX0_isOpen 23 = .ok (.iconst 0, 1) := by decide +kernel
theorem dX0_isOpen_24 : decode cX0_isOpen 24 = .ok (.ireturn, 1) := by decide +kernel
theorem dX0_isDropped_0 : decode cX0_isDropped 0 = .ok (.aload_n 0, 1) := by decide +kernel
theorem dX0_isDropped_1 : decode cX0_isDropped 1 = .ok (.iload_n 1, 1) := by decide +kernel
theorem dX0_isDropped_2 : decode cX0_isDropped 2 = .ok (.invokevirtual 46, 3) := by decide +kernel
theorem dX0_isDropped_5 : decode cX0_isDropped 5 = .ok (.ifCond .eq 18, 3) := by decide +kernel
theorem dX0_isDropped_8 : decode cX0_isDropped 8 = .ok (.aload_n 0, 1) := by decide +kernel
theorem dX0_isDropped_9 : decode cX0_isDropped 9 = .ok (.getfield 18, 3) := by decide +kernel
theorem dX0_isDropped_12 : decode cX0_isDropped 12 = .ok (.iload_n 1, 1) := by decide +kernel
theorem dX0_isDropped_13 : decode cX0_isDropped 13 = .ok (.ishr, 1) := by decide +kernel
theorem dX0_isDropped_14 : decode cX0_isDropped 14 = .ok (.iconst 1, 1) := by decide +kernel
theorem dX0_isDropped_15 : decode cX0_isDropped 15 = .ok (.iand, 1) := by decide +kernel
theorem dX0_isDropped_16 : decode cX0_isDropped 16 = .ok (.ifCond .eq 7, 3) := by decide +kernel
theorem dX0_isDropped_19 : decode cX0_isDropped 19 = .ok (.iconst 1, 1) := by decide +kernel
theorem dX0_isDropped_20 : decode cX0_isDropped 20 = .ok (.goto 4, 3) := by decide +kernel
theorem dX0_isDropped_23 : decode cX0_isDropped 23 = .ok (.iconst 0, 1) := by decide +kernel
theorem dX0_isDropped_24 : decode cX0_isDropped 24 = .ok (.ireturn, 1) := by decide +kernel
theorem dX0_lineOf_0 : decode cX0_lineOf 0 = .ok (.aload_n 0, 1) := by decide +kernel
theorem dX0_lineOf_1 : decode cX0_lineOf 1 = .ok (.iload_n 1, 1) := by decide +kernel
theorem dX0_lineOf_2 : decode cX0_lineOf 2 = .ok (.invokevirtual 46, 3) := by decide +kernel
theorem dX0_lineOf_5 : decode cX0_lineOf 5 = .ok (.ifCond .eq 12, 3) := by decide +kernel
theorem dX0_lineOf_8 : decode cX0_lineOf 8 = .ok (.aload_n 0, 1) := by decide +kernel
theorem dX0_lineOf_9 : decode cX0_lineOf 9 = .ok (.getfield 21, 3) := by decide +kernel
theorem dX0_lineOf_12 : decode cX0_lineOf 12 = .ok (.iload_n 1, 1) := by decide +kernel
theorem dX0_lineOf_13 : decode cX0_lineOf 13 = .ok (.iaload, 1) := by decide +kernel
theorem dX0_lineOf_14 : decode cX0_lineOf 14 = .ok (.goto 4, 3) := by decide +kernel
theorem dX0_lineOf_17 : decode cX0_lineOf 17 = .ok (.iconst (-1), 1) := by decide +kernel
theorem dX0_lineOf_18 : decode cX0_lineOf 18 = .ok (.ireturn, 1) := by decide +kernel
theorem dX0_uponOf_0 : decode cX0_uponOf 0 = .ok (.aload_n 0, 1) := by decide +kernel
theorem dX0_uponOf_1 : decode cX0_uponOf 1 = .ok (.iload_n 1, 1) := by decide +kernel
theorem dX0_uponOf_2 : decode cX0_uponOf 2 = .ok (.invokevirtual 46, 3) := by decide +kernel
theorem dX0_uponOf_5 : decode cX0_uponOf 5 = .ok (.ifCond .eq 12, 3) := by decide +kernel
theorem dX0_uponOf_8 : decode cX0_uponOf 8 = .ok (.aload_n 0, 1) := by decide +kernel
theorem dX0_uponOf_9 : decode cX0_uponOf 9 = .ok (.getfield 25, 3) := by decide +kernel
theorem dX0_uponOf_12 : decode cX0_uponOf 12 = .ok (.iload_n 1, 1) := by decide +kernel
theorem dX0_uponOf_13 : decode cX0_uponOf 13 = .ok (.iaload, 1) := by decide +kernel
theorem dX0_uponOf_14 : decode cX0_uponOf 14 = .ok (.goto 5, 3) := by decide +kernel
theorem dX0_uponOf_17 : decode cX0_uponOf 17 = .ok (.bipush (-2), 2) := by decide +kernel
theorem dX0_uponOf_19 : decode cX0_uponOf 19 = .ok (.ireturn, 1) := by decide +kernel
theorem dX0_ownPages_0 : decode cX0_ownPages 0 = .ok (.aload_n 0, 1) := by decide +kernel
theorem dX0_ownPages_1 : decode cX0_ownPages 1 = .ok (.iload_n 1, 1) := by decide +kernel
theorem dX0_ownPages_2 : decode cX0_ownPages 2 = .ok (.invokevirtual 46, 3) := by decide +kernel
theorem dX0_ownPages_5 : decode cX0_ownPages 5 = .ok (.ifCond .eq 12, 3) := by decide +kernel
theorem dX0_ownPages_8 : decode cX0_ownPages 8 = .ok (.aload_n 0, 1) := by decide +kernel
theorem dX0_ownPages_9 : decode cX0_ownPages 9 = .ok (.getfield 28, 3) := by decide +kernel
theorem dX0_ownPages_12 : decode cX0_ownPages 12 = .ok (.iload_n 1, 1) := by decide +kernel
theorem dX0_ownPages_13 : decode cX0_ownPages 13 = .ok (.iaload, 1) := by decide +kernel
theorem dX0_ownPages_14 : decode cX0_ownPages 14 = .ok (.goto 4, 3) := by decide +kernel
theorem dX0_ownPages_17 : decode cX0_ownPages 17 = .ok (.iconst 0, 1) := by decide +kernel
theorem dX0_ownPages_18 : decode cX0_ownPages 18 = .ok (.ireturn, 1) := by decide +kernel
theorem dX0_allPages_0 : decode cX0_allPages 0 = .ok (.iconst 0, 1) := by decide +kernel
theorem dX0_allPages_1 : decode cX0_allPages 1 = .ok (.istore_n 2, 1) := by decide +kernel
theorem dX0_allPages_2 : decode cX0_allPages 2 = .ok (.iload_n 1, 1) := by decide +kernel
theorem dX0_allPages_3 : decode cX0_allPages 3 = .ok (.istore_n 3, 1) := by decide +kernel
theorem dX0_allPages_4 : decode cX0_allPages 4 = .ok (.iconst 0, 1) := by decide +kernel
theorem dX0_allPages_5 : decode cX0_allPages 5 = .ok (.istore 4, 2) := by decide +kernel
theorem dX0_allPages_7 : decode cX0_allPages 7 = .ok (.iload 4, 2) := by decide +kernel
theorem dX0_allPages_9 : decode cX0_allPages 9 = .ok (.bipush 10, 2) := by decide +kernel
theorem dX0_allPages_11 : decode cX0_allPages 11 = .ok (.if_icmp .ge 33, 3) := by decide +kernel
theorem dX0_allPages_14 : decode cX0_allPages 14 = .ok (.aload_n 0, 1) := by decide +kernel
theorem dX0_allPages_15 : decode cX0_allPages 15 = .ok (.iload_n 3, 1) := by decide +kernel
theorem dX0_allPages_16 : decode cX0_allPages 16 = .ok (.invokevirtual 46, 3) := by decide +kernel
theorem dX0_allPages_19 : decode cX0_allPages 19 = .ok (.ifCond .eq 25, 3) := by decide +kernel
theorem dX0_allPages_22 : decode cX0_allPages 22 = .ok (.iload_n 2, 1) := by decide +kernel
theorem dX0_allPages_23 : decode cX0_allPages 23 = .ok (.aload_n 0, 1) := by decide +kernel
theorem dX0_allPages_24 : decode cX0_allPages 24 = .ok (.getfield 28, 3) := by decide +kernel
theorem dX0_allPages_27 : decode cX0_allPages 27 = .ok (.iload_n 3, 1) := by decide +kernel
theorem dX0_allPages_28 : decode cX0_allPages 28 = .ok (.iaload, 1) := by decide +kernel
theorem dX0_allPages_29 : decode cX0_allPages 29 = .ok (.ior, 1) := by decide +kernel
theorem dX0_allPages_30 : decode cX0_allPages 30 = .ok (.istore_n 2, 1) := by decide +kernel
theorem dX0_allPages_31 : decode cX0_allPages 31 = .ok (.aload_n 0, 1) := by decide +kernel
theorem dX0_allPages_32 : decode cX0_allPages 32 = .ok (.getfield 25, 3) := by decide +kernel
theorem dX0_allPages_35 : decode cX0_allPages 35 = .ok (.iload_n 3, 1) := by decide +kernel
theorem dX0_allPages_36 : decode cX0_allPages 36 = .ok (.iaload, 1) := by decide +kernel
theorem dX0_allPages_37 : decode cX0_allPages 37 = .ok (.istore_n 3, 1) := by decide +kernel
theorem dX0_allPages_38 : decode cX0_allPages 38 = .ok (.iinc 4 1, 3) := by decide +kernel
theorem dX0_allPages_41 : decode cX0_allPages 41 = .ok (.goto (-34), 3) := by decide +kernel
theorem dX0_allPages_44 : decode cX0_allPages 44 = .ok (.iload_n 2, 1) := by decide +kernel
theorem dX0_allPages_45 : decode cX0_allPages 45 = .ok (.ireturn, 1) := by decide +kernel
theorem dX0_chainOf_0 : decode cX0_chainOf 0 = .ok (.iconst 0, 1) := by decide +kernel
theorem dX0_chainOf_1 : decode cX0_chainOf 1 = .ok (.istore_n 2, 1) := by decide +kernel
theorem dX0_chainOf_2 : decode cX0_chainOf 2 = .ok (.iload_n 1, 1) := by decide +kernel
theorem dX0_chainOf_3 : decode cX0_chainOf 3 = .ok (.istore_n 3, 1) := by decide +kernel
theorem dX0_chainOf_4 : decode cX0_chainOf 4 = .ok (.iload_n 2, 1) := by decide +kernel
theorem dX0_chainOf_5 : decode cX0_chainOf 5 = .ok (.bipush 10, 2) := by decide +kernel
theorem dX0_chainOf_7 : decode cX0_chainOf 7 = .ok (.if_icmp .ge 24, 3) := by decide +kernel
theorem dX0_chainOf_10 : decode cX0_chainOf 10 = .ok (.aload_n 0, 1) := by decide +kernel
theorem dX0_chainOf_11 : decode cX0_chainOf 11 = .ok (.iload_n 3, 1) := by decide +kernel
theorem dX0_chainOf_12 : decode cX0_chainOf 12 = .ok (.invokevirtual 46, 3) := by decide +kernel
theorem dX0_chainOf_15 : decode cX0_chainOf 15 = .ok (.ifCond .eq 16, 3) := by decide +kernel
theorem dX0_chainOf_18 : decode cX0_chainOf 18 = .ok (.iinc 2 1, 3) := by decide +kernel
theorem dX0_chainOf_21 : decode cX0_chainOf 21 = .ok (.aload_n 0, 1) := by decide +kernel
theorem dX0_chainOf_22 : decode cX0_chainOf 22 = .ok (.getfield 25, 3) := by decide +kernel
theorem dX0_chainOf_25 : decode cX0_chainOf 25 = .ok (.iload_n 3, 1) := by decide +kernel
theorem dX0_chainOf_26 : decode cX0_chainOf 26 = .ok (.iaload, 1) := by decide +kernel
theorem dX0_chainOf_27 : decode cX0_chainOf 27 = .ok (.istore_n 3, 1) := by decide +kernel
theorem dX0_chainOf_28 : decode cX0_chainOf 28 = .ok (.goto (-24), 3) := by decide +kernel
theorem dX0_chainOf_31 : decode cX0_chainOf 31 = .ok (.iload_n 2, 1) := by decide +kernel
theorem dX0_chainOf_32 : decode cX0_chainOf 32 = .ok (.ireturn, 1) := by decide +kernel
theorem dX0_isFit_0 : decode cX0_isFit 0 = .ok (.aload_n 0, 1) := by decide +kernel
theorem dX0_isFit_1 : decode cX0_isFit 1 = .ok (.iload_n 1, 1) := by decide +kernel
theorem dX0_isFit_2 : decode cX0_isFit 2 = .ok (.invokevirtual 46, 3) := by decide +kernel
theorem dX0_isFit_5 : decode cX0_isFit 5 = .ok (.ifCond .eq 16, 3) := by decide +kernel
theorem dX0_isFit_8 : decode cX0_isFit 8 = .ok (.aload_n 0, 1) := by decide +kernel
theorem dX0_isFit_9 : decode cX0_isFit 9 = .ok (.iload_n 1, 1) := by decide +kernel
theorem dX0_isFit_10 : decode cX0_isFit 10 = .ok (.invokevirtual 59, 3) := by decide +kernel
theorem dX0_isFit_13 : decode cX0_isFit 13 = .ok (.iconst 1, 1) := by decide +kernel
theorem dX0_isFit_14 : decode cX0_isFit 14 = .ok (.iload_n 2, 1) := by decide +kernel
theorem dX0_isFit_15 : decode cX0_isFit 15 = .ok (.ishl, 1) := by decide +kernel
theorem dX0_isFit_16 : decode cX0_isFit 16 = .ok (.iconst 1, 1) := by decide +kernel
theorem dX0_isFit_17 : decode cX0_isFit 17 = .ok (.isub, 1) := by decide +kernel
theorem dX0_isFit_18 : decode cX0_isFit 18 = .ok (.if_icmp .eq 5, 3) := by decide +kernel
theorem dX0_isFit_21 : decode cX0_isFit 21 = .ok (.iconst 0, 1) := by decide +kernel
theorem dX0_isFit_22 : decode cX0_isFit 22 = .ok (.ireturn, 1) := by decide +kernel
theorem dX0_isFit_23 : decode cX0_isFit 23 = .ok (.iload_n 1, 1) := by decide +kernel
theorem dX0_isFit_24 : decode cX0_isFit 24 = .ok (.istore_n 3, 1) := by decide +kernel
theorem dX0_isFit_25 : decode cX0_isFit 25 = .ok (.iconst 0, 1) := by decide +kernel
theorem dX0_isFit_26 : decode cX0_isFit 26 = .ok (.istore 4, 2) := by decide +kernel
theorem dX0_isFit_28 : decode cX0_isFit 28 = .ok (.iload 4, 2) := by decide +kernel
theorem dX0_isFit_30 : decode cX0_isFit 30 = .ok (.bipush 10, 2) := by decide +kernel
theorem dX0_isFit_32 : decode cX0_isFit 32 = .ok (.if_icmp .ge 42, 3) := by decide +kernel
theorem dX0_isFit_35 : decode cX0_isFit 35 = .ok (.aload_n 0, 1) := by decide +kernel
theorem dX0_isFit_36 : decode cX0_isFit 36 = .ok (.iload_n 3, 1) := by decide +kernel
theorem dX0_isFit_37 : decode cX0_isFit 37 = .ok (.invokevirtual 46, 3) := by decide +kernel
theorem dX0_isFit_40 : decode cX0_isFit 40 = .ok (.ifCond .eq 34, 3) := by decide +kernel
theorem dX0_isFit_43 : decode cX0_isFit 43 = .ok (.aload_n 0, 1) := by decide +kernel
theorem dX0_isFit_44 : decode cX0_isFit 44 = .ok (.getfield 15, 3) := by decide +kernel
theorem dX0_isFit_47 : decode cX0_isFit 47 = .ok (.aload_n 0, 1) := by decide +kernel
theorem dX0_isFit_48 : decode cX0_isFit 48 = .ok (.getfield 18, 3) := by decide +kernel
theorem dX0_isFit_51 : decode cX0_isFit 51 = .ok (.ior, 1) := by decide +kernel
theorem dX0_isFit_52 : decode cX0_isFit 52 = .ok (.iload_n 3, 1) := by decide +kernel
theorem dX0_isFit_53 : decode cX0_isFit 53 = .ok (.ishr, 1) := by decide +kernel
theorem dX0_isFit_54 : decode cX0_isFit 54 = .ok (.iconst 1, 1) := by decide +kernel
theorem dX0_isFit_55 : decode cX0_isFit 55 = .ok (.iand, 1) := by decide +kernel
theorem dX0_isFit_56 : decode cX0_isFit 56 = .ok (.ifCond .eq 5, 3) := by decide +kernel
theorem dX0_isFit_59 : decode cX0_isFit 59 = .ok (.iconst 0, 1) := by decide +kernel
theorem dX0_isFit_60 : decode cX0_isFit 60 = .ok (.ireturn, 1) := by decide +kernel
theorem dX0_isFit_61 : decode cX0_isFit 61 = .ok (.aload_n 0, 1) := by decide +kernel
theorem dX0_isFit_62 : decode cX0_isFit 62 = .ok (.getfield 25, 3) := by decide +kernel
theorem dX0_isFit_65 : decode cX0_isFit 65 = .ok (.iload_n 3, 1) := by decide +kernel
theorem dX0_isFit_66 : decode cX0_isFit 66 = .ok (.iaload, 1) := by decide +kernel
theorem dX0_isFit_67 : decode cX0_isFit 67 = .ok (.istore_n 3, 1) := by decide +kernel
theorem dX0_isFit_68 : decode cX0_isFit 68 = .ok (.iinc 4 1, 3) := by decide +kernel
theorem dX0_isFit_71 : decode cX0_isFit 71 = .ok (.goto (-43), 3) := by decide +kernel
theorem dX0_isFit_74 : decode cX0_isFit 74 = .ok (.iconst 1, 1) := by decide +kernel
theorem dX0_isFit_75 : decode cX0_isFit 75 = .ok (.ireturn, 1) := by decide +kernel
theorem dX0_fitOnes_0 : decode cX0_fitOnes 0 = .ok (.iconst 0, 1) := by decide +kernel
theorem dX0_fitOnes_1 : decode cX0_fitOnes 1 = .ok (.istore_n 2, 1) := by decide +kernel
theorem dX0_fitOnes_2 : decode cX0_fitOnes 2 = .ok (.iconst 0, 1) := by decide +kernel
theorem dX0_fitOnes_3 : decode cX0_fitOnes 3 = .ok (.istore_n 3, 1) := by decide +kernel
theorem dX0_fitOnes_4 : decode cX0_fitOnes 4 = .ok (.iload_n 3, 1) := by decide +kernel
theorem dX0_fitOnes_5 : decode cX0_fitOnes 5 = .ok (.aload_n 0, 1) := by decide +kernel
theorem dX0_fitOnes_6 : decode cX0_fitOnes 6 = .ok (.getfield 9, 3) := by decide +kernel
theorem dX0_fitOnes_9 : decode cX0_fitOnes 9 = .ok (.if_icmp .ge 28, 3) := by decide +kernel
theorem dX0_fitOnes_12 : decode cX0_fitOnes 12 = .ok (.iload_n 2, 1) := by decide +kernel
theorem dX0_fitOnes_13 : decode cX0_fitOnes 13 = .ok (.aload_n 0, 1) := by decide +kernel
theorem dX0_fitOnes_14 : decode cX0_fitOnes 14 = .ok (.iload_n 3, 1) := by decide +kernel
theorem dX0_fitOnes_15 : decode cX0_fitOnes 15 = .ok (.iload_n 1, 1) := by decide +kernel
theorem dX0_fitOnes_16 : decode cX0_fitOnes 16 = .ok (.invokevirtual 63, 3) := by decide +kernel
theorem dX0_fitOnes_19 : decode cX0_fitOnes 19 = .ok (.ifCond .eq 9, 3) := by decide +kernel
theorem dX0_fitOnes_22 : decode cX0_fitOnes 22 = .ok (.iconst 1, 1) := by decide +kernel
theorem dX0_fitOnes_23 : decode cX0_fitOnes 23 = .ok (.iload_n 3, 1) := by decide +kernel
theorem dX0_fitOnes_24 : decode cX0_fitOnes 24 = .ok (.ishl, 1) := by decide +kernel
theorem dX0_fitOnes_25 : decode cX0_fitOnes 25 = .ok (.goto 4, 3) := by decide +kernel
theorem dX0_fitOnes_28 : decode cX0_fitOnes 28 = .ok (.iconst 0, 1) := by decide +kernel
theorem dX0_fitOnes_29 : decode cX0_fitOnes 29 = .ok (.ior, 1) := by decide +kernel
theorem dX0_fitOnes_30 : decode cX0_fitOnes 30 = .ok (.istore_n 2, 1) := by decide +kernel
theorem dX0_fitOnes_31 : decode cX0_fitOnes 31 = .ok (.iinc 3 1, 3) := by decide +kernel
theorem dX0_fitOnes_34 : decode cX0_fitOnes 34 = .ok (.goto (-30), 3) := by decide +kernel
theorem dX0_fitOnes_37 : decode cX0_fitOnes 37 = .ok (.iload_n 2, 1) := by decide +kernel
theorem dX0_fitOnes_38 : decode cX0_fitOnes 38 = .ok (.ireturn, 1) := by decide +kernel
theorem dX0_cellOf_0 : decode cX0_cellOf 0 = .ok (.iload_n 2, 1) := by decide +kernel
theorem dX0_cellOf_1 : decode cX0_cellOf 1 = .ok (.ifCond .lt 9, 3) := by decide +kernel
theorem dX0_cellOf_4 : decode cX0_cellOf 4 = .ok (.iload_n 2, 1) := by decide +kernel
theorem dX0_cellOf_5 : decode cX0_cellOf 5 = .ok (.bipush 8, 2) := by decide +kernel
theorem dX0_cellOf_7 : decode cX0_cellOf 7 = .ok (.if_icmp .lt 5, 3) := by decide +kernel
theorem dX0_cellOf_10 : decode cX0_cellOf 10 = .ok (.iconst (-1), 1) := by decide +kernel
theorem dX0_cellOf_11 : decode cX0_cellOf 11 = .ok (.ireturn, 1) := by decide +kernel
theorem dX0_cellOf_12 : decode cX0_cellOf 12 = .ok (.iload_n 1, 1) := by decide +kernel
theorem dX0_cellOf_13 : decode cX0_cellOf 13 = .ok (.istore_n 3, 1) := by decide +kernel
theorem dX0_cellOf_14 : decode cX0_cellOf 14 = .ok (.iconst 0, 1) := by decide +kernel
theorem dX0_cellOf_15 : decode cX0_cellOf 15 = .ok (.istore 4, 2) := by decide +kernel
theorem dX0_cellOf_17 : decode cX0_cellOf 17 = .ok (.iload 4, 2) := by decide +kernel
theorem dX0_cellOf_19 : decode cX0_cellOf 19 = .ok (.bipush 10, 2) := by decide +kernel
theorem dX0_cellOf_21 : decode cX0_cellOf 21 = .ok (.if_icmp .ge 44, 3) := by decide +kernel
theorem dX0_cellOf_24 : decode cX0_cellOf 24 = .ok (.aload_n 0, 1) := by decide +kernel
theorem dX0_cellOf_25 : decode cX0_cellOf 25 = .ok (.iload_n 3, 1) := by decide +kernel
theorem dX0_cellOf_26 : decode cX0_cellOf 26 = .ok (.invokevirtual 46, 3) := by decide +kernel
theorem dX0_cellOf_29 : decode cX0_cellOf 29 = .ok (.ifCond .eq 36, 3) := by decide +kernel
theorem dX0_cellOf_32 : decode cX0_cellOf 32 = .ok (.aload_n 0, 1) := by decide +kernel
theorem dX0_cellOf_33 : decode cX0_cellOf 33 = .ok (.getfield 28, 3) := by decide +kernel
theorem dX0_cellOf_36 : decode cX0_cellOf 36 = .ok (.iload_n 3, 1) := by decide +kernel
theorem dX0_cellOf_37 : decode cX0_cellOf 37 = .ok (.iaload, 1) := by decide +kernel
theorem dX0_cellOf_38 : decode cX0_cellOf 38 = .ok (.iload_n 2, 1) := by decide +kernel
theorem dX0_cellOf_39 : decode cX0_cellOf 39 = .ok (.ishr, 1) := by decide +kernel
theorem dX0_cellOf_40 : decode cX0_cellOf 40 = .ok (.iconst 1, 1) := by decide +kernel
theorem dX0_cellOf_41 : decode cX0_cellOf 41 = .ok (.iand, 1) := by decide +kernel
theorem dX0_cellOf_42 : decode cX0_cellOf 42 = .ok (.ifCond .eq 10, 3) := by decide +kernel
theorem dX0_cellOf_45 : decode cX0_cellOf 45 = .ok (.iload_n 3, 1) := by decide +kernel
theorem dX0_cellOf_46 : decode cX0_cellOf 46 = .ok (.bipush 8, 2) := by decide +kernel
theorem dX0_cellOf_48 : decode cX0_cellOf 48 = .ok (.imul, 1) := by decide +kernel
theorem dX0_cellOf_49 : decode cX0_cellOf 49 = .ok (.iload_n 2, 1) := by decide +kernel
theorem dX0_cellOf_50 : decode cX0_cellOf 50 = .ok (.iadd, 1) := by decide +kernel
theorem dX0_cellOf_51 : decode cX0_cellOf 51 = .ok (.ireturn, 1) := by decide +kernel
theorem dX0_cellOf_52 : decode cX0_cellOf 52 = .ok (.aload_n 0, 1) := by decide +kernel
theorem dX0_cellOf_53 : decode cX0_cellOf 53 = .ok (.getfield 25, 3) := by decide +kernel
theorem dX0_cellOf_56 : decode cX0_cellOf 56 = .ok (.iload_n 3, 1) := by decide +kernel
theorem dX0_cellOf_57 : decode cX0_cellOf 57 = .ok (.iaload, 1) := by decide +kernel
theorem dX0_cellOf_58 : decode cX0_cellOf 58 = .ok (.istore_n 3, 1) := by decide +kernel
theorem dX0_cellOf_59 : decode cX0_cellOf 59 = .ok (.iinc 4 1, 3) := by decide +kernel
theorem dX0_cellOf_62 : decode cX0_cellOf 62 = .ok (.goto (-45), 3) := by decide +kernel
theorem dX0_cellOf_65 : decode cX0_cellOf 65 = .ok (.iconst (-1), 1) := by decide +kernel
theorem dX0_cellOf_66 : decode cX0_cellOf 66 = .ok (.ireturn, 1) := by decide +kernel
theorem dX0_sourceIn_0 : decode cX0_sourceIn 0 = .ok (.iload_n 1, 1) := by decide +kernel
theorem dX0_sourceIn_1 : decode cX0_sourceIn 1 = .ok (.ifCond .lt 21, 3) := by decide +kernel
theorem dX0_sourceIn_4 : decode cX0_sourceIn 4 = .ok (.iload_n 1, 1) := by decide +kernel
theorem dX0_sourceIn_5 : decode cX0_sourceIn 5 = .ok (.aload_n 0, 1) := by decide +kernel
theorem dX0_sourceIn_6 : decode cX0_sourceIn 6 = .ok (.getfield 31, 3) := by decide +kernel
theorem dX0_sourceIn_9 : decode cX0_sourceIn 9 = .ok (.arraylength, 1) := by decide +kernel
theorem dX0_sourceIn_10 : decode cX0_sourceIn 10 = .ok (.if_icmp .ge 12, 3) := by decide +kernel
theorem dX0_sourceIn_13 : decode cX0_sourceIn 13 = .ok (.aload_n 0, 1) := by decide +kernel
theorem dX0_sourceIn_14 : decode cX0_sourceIn 14 = .ok (.getfield 31, 3) := by decide +kernel
theorem dX0_sourceIn_17 : decode cX0_sourceIn 17 = .ok (.iload_n 1, 1) := by decide +kernel
theorem dX0_sourceIn_18 : decode cX0_sourceIn 18 = .ok (.iaload, 1) := by decide +kernel
theorem dX0_sourceIn_19 : decode cX0_sourceIn 19 = .ok (.goto 5, 3) := by decide +kernel
theorem dX0_sourceIn_22 : decode cX0_sourceIn 22 = .ok (.bipush (-2), 2) := by decide +kernel
theorem dX0_sourceIn_24 : decode cX0_sourceIn 24 = .ok (.ireturn, 1) := by decide +kernel
theorem dX0_placeIn_0 : decode cX0_placeIn 0 = .ok (.iload_n 1, 1) := by decide +kernel
theorem dX0_placeIn_1 : decode cX0_placeIn 1 = .ok (.ifCond .lt 21, 3) := by decide +kernel
theorem dX0_placeIn_4 : decode cX0_placeIn 4 = .ok (.iload_n 1, 1) := by decide +kernel
theorem dX0_placeIn_5 : decode cX0_placeIn 5 = .ok (.aload_n 0, 1) := by decide +kernel
theorem dX0_placeIn_6 : decode cX0_placeIn 6 = .ok (.getfield 34, 3) := by decide +kernel
theorem dX0_placeIn_9 : decode cX0_placeIn 9 = .ok (.arraylength, 1) := by decide +kernel
theorem dX0_placeIn_10 : decode cX0_placeIn 10 = .ok (.if_icmp .ge 12, 3) := by decide +kernel
theorem dX0_placeIn_13 : decode cX0_placeIn 13 = .ok (.aload_n 0, 1) := by decide +kernel
theorem dX0_placeIn_14 : decode cX0_placeIn 14 = .ok (.getfield 34, 3) := by decide +kernel
theorem dX0_placeIn_17 : decode cX0_placeIn 17 = .ok (.iload_n 1, 1) := by decide +kernel
theorem dX0_placeIn_18 : decode cX0_placeIn 18 = .ok (.iaload, 1) := by decide +kernel
theorem dX0_placeIn_19 : decode cX0_placeIn 19 = .ok (.goto 5, 3) := by decide +kernel
theorem dX0_placeIn_22 : decode cX0_placeIn 22 = .ok (.bipush (-2), 2) := by decide +kernel
theorem dX0_placeIn_24 : decode cX0_placeIn 24 = .ok (.ireturn, 1) := by decide +kernel
theorem dX0_valueIn_0 : decode cX0_valueIn 0 = .ok (.iload_n 1, 1) := by decide +kernel
theorem dX0_valueIn_1 : decode cX0_valueIn 1 = .ok (.ifCond .lt 21, 3) := by decide +kernel
theorem dX0_valueIn_4 : decode cX0_valueIn 4 = .ok (.iload_n 1, 1) := by decide +kernel
theorem dX0_valueIn_5 : decode cX0_valueIn 5 = .ok (.aload_n 0, 1) := by decide +kernel
theorem dX0_valueIn_6 : decode cX0_valueIn 6 = .ok (.getfield 37, 3) := by decide +kernel
theorem dX0_valueIn_9 : decode cX0_valueIn 9 = .ok (.arraylength, 1) := by decide +kernel
theorem dX0_valueIn_10 : decode cX0_valueIn 10 = .ok (.if_icmp .ge 12, 3) := by decide +kernel
theorem dX0_valueIn_13 : decode cX0_valueIn 13 = .ok (.aload_n 0, 1) := by decide +kernel
theorem dX0_valueIn_14 : decode cX0_valueIn 14 = .ok (.getfield 37, 3) := by decide +kernel
theorem dX0_valueIn_17 : decode cX0_valueIn 17 = .ok (.iload_n 1, 1) := by decide +kernel
theorem dX0_valueIn_18 : decode cX0_valueIn 18 = .ok (.iaload, 1) := by decide +kernel
theorem dX0_valueIn_19 : decode cX0_valueIn 19 = .ok (.goto 4, 3) := by decide +kernel
theorem dX0_valueIn_22 : decode cX0_valueIn 22 = .ok (.iconst 0, 1) := by decide +kernel
theorem dX0_valueIn_23 : decode cX0_valueIn 23 = .ok (.ireturn, 1) := by decide +kernel
theorem dX1_init_0 : decode cX1_init 0 = .ok (.aload_n 0, 1) := by decide +kernel
theorem dX1_init_1 : decode cX1_init 1 = .ok (.invokespecial 3, 3) := by decide +kernel
theorem dX1_init_4 : decode cX1_init 4 = .ok (.aload_n 0, 1) := by decide +kernel
theorem dX1_init_5 : decode cX1_init 5 = .ok (.aload_n 1, 1) := by decide +kernel
theorem dX1_init_6 : decode cX1_init 6 = .ok (.putfield 9, 3) := by decide +kernel
theorem dX1_init_9 : decode cX1_init 9 = .ok (.aload_n 0, 1) := by decide +kernel
theorem dX1_init_10 : decode cX1_init 10 = .ok (.iconst 0, 1) := by decide +kernel
theorem dX1_init_11 : decode cX1_init 11 = .ok (.putfield 15, 3) := by decide +kernel
theorem dX1_init_14 : decode cX1_init 14 = .ok (.aload_n 0, 1) := by decide +kernel
theorem dX1_init_15 : decode cX1_init 15 = .ok (.iconst 0, 1) := by decide +kernel
theorem dX1_init_16 : decode cX1_init 16 = .ok (.putfield 19, 3) := by decide +kernel
theorem dX1_init_19 : decode cX1_init 19 = .ok (.aload_n 0, 1) := by decide +kernel
theorem dX1_init_20 : decode cX1_init 20 = .ok (.iconst (-1), 1) := by decide +kernel
theorem dX1_init_21 : decode cX1_init 21 = .ok (.putfield 22, 3) := by decide +kernel
theorem dX1_init_24 : decode cX1_init 24 = .ok (.aload_n 0, 1) := by decide +kernel
theorem dX1_init_25 : decode cX1_init 25 = .ok (.iconst 4, 1) := by decide +kernel
theorem dX1_init_26 : decode cX1_init 26 = .ok (.putfield 25, 3) := by decide +kernel
theorem dX1_init_29 : decode cX1_init 29 = .ok (.aload_n 0, 1) := by decide +kernel
theorem dX1_init_30 : decode cX1_init 30 = .ok (.iconst 4, 1) := by decide +kernel
theorem dX1_init_31 : decode cX1_init 31 = .ok (.putfield 28, 3) := by decide +kernel
theorem dX1_init_34 : decode cX1_init 34 = .ok (.aload_n 0, 1) := by decide +kernel
theorem dX1_init_35 : decode cX1_init 35 = .ok (.iconst 0, 1) := by decide +kernel
theorem dX1_init_36 : decode cX1_init 36 = .ok (.putfield 31, 3) := by decide +kernel
theorem dX1_init_39 : decode cX1_init 39 = .ok (.return_, 1) := by decide +kernel
theorem dX1_check_0 : decode cX1_check 0 = .ok (.aload_n 0, 1) := by decide +kernel
theorem dX1_check_1 : decode cX1_check 1 = .ok (.iconst 0, 1) := by decide +kernel
theorem dX1_check_2 : decode cX1_check 2 = .ok (.putfield 15, 3) := by decide +kernel
theorem dX1_check_5 : decode cX1_check 5 = .ok (.aload_n 0, 1) := by decide +kernel
theorem dX1_check_6 : decode cX1_check 6 = .ok (.iconst 0, 1) := by decide +kernel
theorem dX1_check_7 : decode cX1_check 7 = .ok (.putfield 19, 3) := by decide +kernel
theorem dX1_check_10 : decode cX1_check 10 = .ok (.aload_n 0, 1) := by decide +kernel
theorem dX1_check_11 : decode cX1_check 11 = .ok (.iconst (-1), 1) := by decide +kernel
theorem dX1_check_12 : decode cX1_check 12 = .ok (.putfield 22, 3) := by decide +kernel
theorem dX1_check_15 : decode cX1_check 15 = .ok (.aload_n 0, 1) := by decide +kernel
theorem dX1_check_16 : decode cX1_check 16 = .ok (.iconst 4, 1) := by decide +kernel
theorem dX1_check_17 : decode cX1_check 17 = .ok (.putfield 25, 3) := by decide +kernel
theorem dX1_check_20 : decode cX1_check 20 = .ok (.aload_n 0, 1) := by decide +kernel
theorem dX1_check_21 : decode cX1_check 21 = .ok (.iconst 4, 1) := by decide +kernel
theorem dX1_check_22 : decode cX1_check 22 = .ok (.putfield 28, 3) := by decide +kernel
theorem dX1_check_25 : decode cX1_check 25 = .ok (.aload_n 0, 1) := by decide +kernel
theorem dX1_check_26 : decode cX1_check 26 = .ok (.invokevirtual 34, 3) := by decide +kernel
theorem dX1_check_29 : decode cX1_check 29 = .ok (.ifCond .eq 14, 3) := by decide +kernel
theorem dX1_check_32 : decode cX1_check 32 = .ok (.aload_n 0, 1) := by decide +kernel
theorem dX1_check_33 : decode cX1_check 33 = .ok (.invokevirtual 38, 3) := by decide +kernel
theorem dX1_check_36 : decode cX1_check 36 = .ok (.ifCond .eq 7, 3) := by decide +kernel
theorem dX1_check_39 : decode cX1_check 39 = .ok (.aload_n 0, 1) := by decide +kernel
theorem dX1_check_40 : decode cX1_check 40 = .ok (.invokevirtual 41, 3) := by decide +kernel
theorem dX1_check_43 : decode cX1_check 43 = .ok (.return_, 1) := by decide +kernel
theorem dX1_fail_0 : decode cX1_fail 0 = .ok (.aload_n 0, 1) := by decide +kernel
theorem dX1_fail_1 : decode cX1_fail 1 = .ok (.iload_n 1, 1) := by decide +kernel
theorem dX1_fail_2 : decode cX1_fail 2 = .ok (.putfield 19, 3) := by decide +kernel
theorem dX1_fail_5 : decode cX1_fail 5 = .ok (.aload_n 0, 1) := by decide +kernel
theorem dX1_fail_6 : decode cX1_fail 6 = .ok (.aload_n 0, 1) := by decide +kernel
theorem dX1_fail_7 : decode cX1_fail 7 = .ok (.getfield 9, 3) := by decide +kernel
theorem dX1_fail_10 : decode cX1_fail 10 = .ok (.iload_n 2, 1) := by decide +kernel
theorem dX1_fail_11 : decode cX1_fail 11 = .ok (.invokevirtual 44, 3) := by decide +kernel
theorem dX1_fail_14 : decode cX1_fail 14 = .ok (.putfield 22, 3) := by decide +kernel
theorem dX1_fail_17 : decode cX1_fail 17 = .ok (.iconst 0, 1) := by decide +kernel
theorem dX1_fail_18 : decode cX1_fail 18 = .ok (.ireturn, 1) := by decide +kernel
theorem dX1_goOver_0 : decode cX1_goOver 0 = .ok (.aload_n 0, 1) := by decide +kernel
theorem dX1_goOver_1 : decode cX1_goOver 1 = .ok (.getfield 15, 3) := by decide +kernel
theorem dX1_goOver_4 : decode cX1_goOver 4 = .ok (.sipush 400, 3) := by decide +kernel
theorem dX1_goOver_7 : decode cX1_goOver 7 = .ok (.if_icmp .lt 13, 3) := by decide +kernel
theorem dX1_goOver_10 : decode cX1_goOver 10 = .ok (.aload_n 0, 1) := by decide +kernel
theorem dX1_goOver_11 : decode cX1_goOver 11 = .ok (.iconst 2, 1) := by decide +kernel
theorem dX1_goOver_12 : decode cX1_goOver 12 = .ok (.aload_n 0, 1) := by decide +kernel
theorem dX1_goOver_13 : decode cX1_goOver 13 = .ok (.getfield 15, 3) := by decide +kernel
theorem dX1_goOver_16 : decode cX1_goOver 16 = .ok (.invokevirtual 50, 3) := by decide +kernel
theorem dX1_goOver_19 : decode cX1_goOver 19 = .ok (.ireturn, 1) := by decide +kernel
theorem dX1_goOver_20 : decode cX1_goOver 20 = .ok (.aload_n 0, 1) := by decide +kernel
theorem dX1_goOver_21 : decode cX1_goOver 21 = .ok (.dup, 1) := by decide +kernel
theorem dX1_goOver_22 : decode cX1_goOver 22 = .ok (.getfield 15, 3) := by decide +kernel
theorem dX1_goOver_25 : decode cX1_goOver 25 = .ok (.iconst 1, 1) := by decide +kernel
theorem dX1_goOver_26 : decode cX1_goOver 26 = .ok (.iadd, 1) := by decide +kernel
theorem dX1_goOver_27 : decode cX1_goOver 27 = .ok (.putfield 15, 3) := by decide +kernel
theorem dX1_goOver_30 : decode cX1_goOver 30 = .ok (.iconst 1, 1) := by decide +kernel
theorem dX1_goOver_31 : decode cX1_goOver 31 = .ok (.ireturn, 1) := by decide +kernel
theorem dX1_expect_0 : decode cX1_expect 0 = .ok (.aload_n 0, 1) := by decide +kernel
theorem dX1_expect_1 : decode cX1_expect 1 = .ok (.getfield 9, 3) := by decide +kernel
theorem dX1_expect_4 : decode cX1_expect 4 = .ok (.aload_n 0, 1) := by decide +kernel
theorem dX1_expect_5 : decode cX1_expect 5 = .ok (.getfield 15, 3) := by decide +kernel
theorem dX1_expect_8 : decode cX1_expect 8 = .ok (.invokevirtual 54, 3) := by decide +kernel
theorem dX1_expect_11 : decode cX1_expect 11 = .ok (.iload_n 1, 1) := by decide +kernel
theorem dX1_expect_12 : decode cX1_expect 12 = .ok (.if_icmp .ne 10, 3) := by decide +kernel
theorem dX1_expect_15 : decode cX1_expect 15 = .ok (.aload_n 0, 1) := by decide +kernel
theorem dX1_expect_16 : decode cX1_expect 16 = .ok (.invokevirtual 57, 3) := by decide +kernel
theorem dX1_expect_19 : decode cX1_expect 19 = .ok (.goto 12, 3) := by decide +kernel
theorem dX1_expect_22 : decode cX1_expect 22 = .ok (.aload_n 0, 1) := by decide +kernel
theorem dX1_expect_23 : decode cX1_expect 23 = .ok (.iconst 1, 1) := by decide +kernel
theorem dX1_expect_24 : decode cX1_expect 24 = .ok (.aload_n 0, 1) := by decide +kernel
theorem dX1_expect_25 : decode cX1_expect 25 = .ok (.getfield 15, 3) := by decide +kernel
theorem dX1_expect_28 : decode cX1_expect 28 = .ok (.invokevirtual 50, 3) := by decide +kernel
theorem dX1_expect_31 : decode cX1_expect 31 = .ok (.ireturn, 1) := by decide +kernel
theorem dX1_checkHead_0 : decode cX1_checkHead 0 = .ok (.aload_n 0, 1) := by decide +kernel
theorem dX1_checkHead_1 : decode cX1_checkHead 1 = .ok (.getfield 9, 3) := by decide +kernel
theorem dX1_checkHead_4 : decode cX1_checkHead 4 = .ok (.aload_n 0, 1) := by decide +kernel
theorem dX1_checkHead_5 : decode cX1_checkHead 5 = .ok (.getfield 15, 3) := by decide +kernel
theorem dX1_checkHead_8 : decode cX1_checkHead 8 = .ok (.invokevirtual 54, 3) := by decide +kernel
theorem dX1_checkHead_11 : decode cX1_checkHead 11 = .ok (.ifCond .ne 47, 3) := by decide +kernel
theorem dX1_checkHead_14 : decode cX1_checkHead 14 = .ok (.aload_n 0, 1) := by decide +kernel
theorem dX1_checkHead_15 : decode cX1_checkHead 15 = .ok (.aload_n 0, 1) := by decide +kernel
theorem dX1_checkHead_16 : decode cX1_checkHead 16 = .ok (.getfield 9, 3) := by decide +kernel
theorem dX1_checkHead_19 : decode cX1_checkHead 19 = .ok (.aload_n 0, 1) := by decide +kernel
theorem dX1_checkHead_20 : decode cX1_checkHead 20 = .ok (.getfield 15, 3) := by decide +kernel
theorem dX1_checkHead_23 : decode cX1_checkHead 23 = .ok (.iconst 1, 1) := by decide +kernel
theorem dX1_checkHead_24 : decode cX1_checkHead 24 = .ok (.iadd, 1) := by decide +kernel
theorem dX1_checkHead_25 : decode cX1_checkHead 25 = .ok (.invokevirtual 60, 3) := by decide +kernel
theorem dX1_checkHead_28 : decode cX1_checkHead 28 = .ok (.putfield 25, 3) := by decide +kernel
theorem dX1_checkHead_31 : decode cX1_checkHead 31 = .ok (.aload_n 0, 1) := by decide +kernel
theorem dX1_checkHead_32 : decode cX1_checkHead 32 = .ok (.invokevirtual 57, 3) := by decide +kernel
theorem dX1_checkHead_35 : decode cX1_checkHead 35 = .ok (.ifCond .eq 21, 3) := by decide +kernel
theorem dX1_checkHead_38 : decode cX1_checkHead 38 = .ok (.aload_n 0, 1) := by decide +kernel
theorem dX1_checkHead_39 : decode cX1_checkHead 39 = .ok (.bipush 20, 2) := by decide +kernel
theorem dX1_checkHead_41 : decode cX1_checkHead 41 = .ok (.invokevirtual 63, 3) := by decide +kernel
theorem dX1_checkHead_44 : decode cX1_checkHead 44 = .ok (.ifCond .eq 12, 3) := by decide +kernel
theorem dX1_checkHead_47 : decode cX1_checkHead 47 = .ok (.aload_n 0, 1) := by decide +kernel
theorem dX1_checkHead_48 : decode cX1_checkHead 48 = .ok (.bipush 21, 2) := by decide +kernel
theorem dX1_checkHead_50 : decode cX1_checkHead 50 = .ok (.invokevirtual 63, 3) := by decide +kernel
theorem dX1_checkHead_53 : decode cX1_checkHead 53 = .ok (.ifCond .ne 5, 3) := by decide +kernel
theorem dX1_checkHead_56 : decode cX1_checkHead 56 = .ok (.iconst 0, 1) := by decide +kernel
theorem dX1_checkHead_57 : decode cX1_checkHead 57 = .ok (.ireturn, 1) := by decide +kernel
theorem dX1_checkHead_58 : decode cX1_checkHead 58 = .ok (.aload_n 0, 1) := by decide +kernel
theorem dX1_checkHead_59 : decode cX1_checkHead 59 = .ok (.getfield 9, 3) := by decide +kernel
theorem dX1_checkHead_62 : decode cX1_checkHead 62 = .ok (.aload_n 0, 1) := by decide +kernel
theorem dX1_checkHead_63 : decode cX1_checkHead 63 = .ok (.getfield 15, 3) := by decide +kernel
theorem dX1_checkHead_66 : decode cX1_checkHead 66 = .ok (.invokevirtual 54, 3) := by decide +kernel
theorem dX1_checkHead_69 : decode cX1_checkHead 69 = .ok (.iconst 1, 1) := by decide +kernel
theorem dX1_checkHead_70 : decode cX1_checkHead 70 = .ok (.if_icmp .ne 47, 3) := by decide +kernel
theorem dX1_checkHead_73 : decode cX1_checkHead 73 = .ok (.aload_n 0, 1) := by decide +kernel
theorem dX1_checkHead_74 : decode cX1_checkHead 74 = .ok (.aload_n 0, 1) := by decide +kernel
theorem dX1_checkHead_75 : decode cX1_checkHead 75 = .ok (.getfield 9, 3) := by decide +kernel
theorem dX1_checkHead_78 : decode cX1_checkHead 78 = .ok (.aload_n 0, 1) := by decide +kernel
theorem dX1_checkHead_79 : decode cX1_checkHead 79 = .ok (.getfield 15, 3) := by decide +kernel
theorem dX1_checkHead_82 : decode cX1_checkHead 82 = .ok (.iconst 1, 1) := by decide +kernel
theorem dX1_checkHead_83 : decode cX1_checkHead 83 = .ok (.iadd, 1) := by decide +kernel
theorem dX1_checkHead_84 : decode cX1_checkHead 84 = .ok (.invokevirtual 60, 3) := by decide +kernel
theorem dX1_checkHead_87 : decode cX1_checkHead 87 = .ok (.putfield 28, 3) := by decide +kernel
theorem dX1_checkHead_90 : decode cX1_checkHead 90 = .ok (.aload_n 0, 1) := by decide +kernel
theorem dX1_checkHead_91 : decode cX1_checkHead 91 = .ok (.invokevirtual 57, 3) := by decide +kernel
theorem dX1_checkHead_94 : decode cX1_checkHead 94 = .ok (.ifCond .eq 21, 3) := by decide +kernel
theorem dX1_checkHead_97 : decode cX1_checkHead 97 = .ok (.aload_n 0, 1) := by decide +kernel
theorem dX1_checkHead_98 : decode cX1_checkHead 98 = .ok (.bipush 20, 2) := by decide +kernel
theorem dX1_checkHead_100 : decode cX1_checkHead 100 = .ok (.invokevirtual 63, 3) := by decide +kernel
theorem dX1_checkHead_103 : decode cX1_checkHead 103 = .ok (.ifCond .eq 12, 3) := by decide +kernel
theorem dX1_checkHead_106 : decode cX1_checkHead 106 = .ok (.aload_n 0, 1) := by decide +kernel
theorem dX1_checkHead_107 : decode cX1_checkHead 107 = .ok (.bipush 21, 2) := by decide +kernel
theorem dX1_checkHead_109 : decode cX1_checkHead 109 = .ok (.invokevirtual 63, 3) := by decide +kernel
theorem dX1_checkHead_112 : decode cX1_checkHead 112 = .ok (.ifCond .ne 5, 3) := by decide +kernel
theorem dX1_checkHead_115 : decode cX1_checkHead 115 = .ok (.iconst 0, 1) := by decide +kernel
theorem dX1_checkHead_116 : decode cX1_checkHead 116 = .ok (.ireturn, 1) := by decide +kernel
theorem dX1_checkHead_117 : decode cX1_checkHead 117 = .ok (.aload_n 0, 1) := by decide +kernel
theorem dX1_checkHead_118 : decode cX1_checkHead 118 = .ok (.aload_n 0, 1) := by decide +kernel
theorem dX1_checkHead_119 : decode cX1_checkHead 119 = .ok (.getfield 15, 3) := by decide +kernel
theorem dX1_checkHead_122 : decode cX1_checkHead 122 = .ok (.putfield 31, 3) := by decide +kernel
theorem dX1_checkHead_125 : decode cX1_checkHead 125 = .ok (.iconst 1, 1) := by decide +kernel
theorem dX1_checkHead_126 : decode cX1_checkHead 126 = .ok (.ireturn, 1) := by decide +kernel
theorem dX1_checkTells_0 : decode cX1_checkTells 0 = .ok (.iconst 0, 1) := by decide +kernel
theorem dX1_checkTells_1 : decode cX1_checkTells 1 = .ok (.istore_n 1, 1) := by decide +kernel
theorem dX1_checkTells_2 : decode cX1_checkTells 2 = .ok (.iconst 1, 1) := by decide +kernel
theorem dX1_checkTells_3 : decode cX1_checkTells 3 = .ok (.istore_n 2, 1) := by decide +kernel
theorem dX1_checkTells_4 : decode cX1_checkTells 4 = .ok (.iconst 0, 1) := by decide +kernel
theorem dX1_checkTells_5 : decode cX1_checkTells 5 = .ok (.istore_n 3, 1) := by decide +kernel
theorem dX1_checkTells_6 : decode cX1_checkTells 6 = .ok (.iload_n 3, 1) := by decide +kernel
theorem dX1_checkTells_7 : decode cX1_checkTells 7 = .ok (.sipush 400, 3) := by decide +kernel
theorem dX1_checkTells_10 : decode cX1_checkTells 10 = .ok (.if_icmp .gt 146, 3) := by decide +kernel
theorem dX1_checkTells_13 : decode cX1_checkTells 13 = .ok (.iload_n 2, 1) := by decide +kernel
theorem dX1_checkTells_14 : decode cX1_checkTells 14 = .ok (.ifCond .eq 142, 3) := by decide +kernel
theorem dX1_checkTells_17 : decode cX1_checkTells 17 = .ok (.aload_n 0, 1) := by decide +kernel
theorem dX1_checkTells_18 : decode cX1_checkTells 18 = .ok (.getfield 9, 3) := by decide +kernel
theorem dX1_checkTells_21 : decode cX1_checkTells 21 = .ok (.aload_n 0, 1) := by decide +kernel
theorem dX1_checkTells_22 : decode cX1_checkTells 22 = .ok (.getfield 15, 3) := by decide +kernel
theorem dX1_checkTells_25 : decode cX1_checkTells 25 = .ok (.invokevirtual 54, 3) := by decide +kernel
theorem dX1_checkTells_28 : decode cX1_checkTells 28 = .ok (.istore 4, 2) := by decide +kernel
theorem dX1_checkTells_30 : decode cX1_checkTells 30 = .ok (.iload 4, 2) := by decide +kernel
theorem dX1_checkTells_32 : decode cX1_checkTells 32 = .ok (.bipush 29, 2) := by decide +kernel
theorem dX1_checkTells_34 : decode cX1_checkTells 34 = .ok (.if_icmp .ne 9, 3) := by decide +kernel
theorem dX1_checkTells_37 : decode cX1_checkTells 37 = .ok (.iload_n 1, 1) := by decide +kernel
theorem dX1_checkTells_38 : decode cX1_checkTells 38 = .ok (.ifCond .ne 5, 3) := by decide +kernel
theorem dX1_checkTells_41 : decode cX1_checkTells 41 = .ok (.iconst 1, 1) := by decide +kernel
theorem dX1_checkTells_42 : decode cX1_checkTells 42 = .ok (.ireturn, 1) := by decide +kernel
theorem dX1_checkTells_43 : decode cX1_checkTells 43 = .ok (.iload 4, 2) := by decide +kernel
theorem dX1_checkTells_45 : decode cX1_checkTells 45 = .ok (.bipush 12, 2) := by decide +kernel
theorem dX1_checkTells_47 : decode cX1_checkTells 47 = .ok (.if_icmp .ne 57, 3) := by decide +kernel
theorem dX1_checkTells_50 : decode cX1_checkTells 50 = .ok (.iinc 1 1, 3) := by decide +kernel
theorem dX1_checkTells_53 : decode cX1_checkTells 53 = .ok (.iload_n 1, 1) := by decide +kernel
theorem dX1_checkTells_54 : decode cX1_checkTells 54 = .ok (.iconst 3, 1) := by decide +kernel
theorem dX1_checkTells_55 : decode cX1_checkTells 55 = .ok (.if_icmp .le 15, 3) := by decide +kernel
theorem dX1_checkTells_58 : decode cX1_checkTells 58 = .ok (.aload_n 0, 1) := by decide +kernel
theorem dX1_checkTells_59 : decode cX1_checkTells 59 = .ok (.iconst 2, 1) := by decide +kernel
theorem dX1_checkTells_60 : decode cX1_checkTells 60 = .ok (.aload_n 0, 1) := by decide +kernel
theorem dX1_checkTells_61 : decode cX1_checkTells 61 = .ok (.getfield 15, 3) := by decide +kernel
theorem dX1_checkTells_64 : decode cX1_checkTells 64 = .ok (.invokevirtual 50, 3) := by decide +kernel
theorem dX1_checkTells_67 : decode cX1_checkTells 67 = .ok (.goto 33, 3) := by decide +kernel
theorem dX1_checkTells_70 : decode cX1_checkTells 70 = .ok (.aload_n 0, 1) := by decide +kernel
theorem dX1_checkTells_71 : decode cX1_checkTells 71 = .ok (.invokevirtual 57, 3) := by decide +kernel
theorem dX1_checkTells_74 : decode cX1_checkTells 74 = .ok (.ifCond .eq 25, 3) := by decide +kernel
theorem dX1_checkTells_77 : decode cX1_checkTells 77 = .ok (.aload_n 0, 1) := by decide +kernel
theorem dX1_checkTells_78 : decode cX1_checkTells 78 = .ok (.bipush 20, 2) := by decide +kernel
theorem dX1_checkTells_80 : decode cX1_checkTells 80 = .ok (.invokevirtual 63, 3) := by decide +kernel
theorem dX1_checkTells_83 : decode cX1_checkTells 83 = .ok (.ifCond .eq 16, 3) := by decide +kernel
theorem dX1_checkTells_86 : decode cX1_checkTells 86 = .ok (.aload_n 0, 1) := by decide +kernel
theorem dX1_checkTells_87 : decode cX1_checkTells 87 = .ok (.bipush 21, 2) := by decide +kernel
theorem dX1_checkTells_89 : decode cX1_checkTells 89 = .ok (.invokevirtual 63, 3) := by decide +kernel
theorem dX1_checkTells_92 : decode cX1_checkTells 92 = .ok (.ifCond .eq 7, 3) := by decide +kernel
theorem dX1_checkTells_95 : decode cX1_checkTells 95 = .ok (.iconst 1, 1) := by decide +kernel
theorem dX1_checkTells_96 : decode cX1_checkTells 96 = .ok (.goto 4, 3) := by decide +kernel
theorem dX1_checkTells_99 : decode cX1_checkTells 99 = .ok (.iconst 0, 1) := by decide +kernel
theorem dX1_checkTells_100 : decode cX1_checkTells 100 = .ok (.istore_n 2, 1) := by decide +kernel
theorem dX1_checkTells_101 : decode cX1_checkTells 101 = .ok (.goto 49, 3) := by decide +kernel
theorem dX1_checkTells_104 : decode cX1_checkTells 104 = .ok (.iload 4, 2) := by decide +kernel
theorem dX1_checkTells_106 : decode cX1_checkTells 106 = .ok (.bipush 13, 2) := by decide +kernel
theorem dX1_checkTells_108 : decode cX1_checkTells 108 = .ok (.if_icmp .ne 35, 3) := by decide +kernel
theorem dX1_checkTells_111 : decode cX1_checkTells 111 = .ok (.iload_n 1, 1) := by decide +kernel
theorem dX1_checkTells_112 : decode cX1_checkTells 112 = .ok (.ifCond .le 31, 3) := by decide +kernel
theorem dX1_checkTells_115 : decode cX1_checkTells 115 = .ok (.iinc 1 (-1), 3) := by decide +kernel
theorem dX1_checkTells_118 : decode cX1_checkTells 118 = .ok (.aload_n 0, 1) := by decide +kernel
theorem dX1_checkTells_119 : decode cX1_checkTells 119 = .ok (.invokevirtual 57, 3) := by decide +kernel
theorem dX1_checkTells_122 : decode cX1_checkTells 122 = .ok (.ifCond .eq 16, 3) := by decide +kernel
theorem dX1_checkTells_125 : decode cX1_checkTells 125 = .ok (.aload_n 0, 1) := by decide +kernel
theorem dX1_checkTells_126 : decode cX1_checkTells 126 = .ok (.bipush 21, 2) := by decide +kernel
theorem dX1_checkTells_128 : decode cX1_checkTells 128 = .ok (.invokevirtual 63, 3) := by decide +kernel
theorem dX1_checkTells_131 : decode cX1_checkTells 131 = .ok (.ifCond .eq 7, 3) := by decide +kernel
theorem dX1_checkTells_134 : decode cX1_checkTells 134 = .ok (.iconst 1, 1) := by decide +kernel
theorem dX1_checkTells_135 : decode cX1_checkTells 135 = .ok (.goto 4, 3) := by decide +kernel
theorem dX1_checkTells_138 : decode cX1_checkTells 138 = .ok (.iconst 0, 1) := by decide +kernel
theorem dX1_checkTells_139 : decode cX1_checkTells 139 = .ok (.istore_n 2, 1) := by decide +kernel
theorem dX1_checkTells_140 : decode cX1_checkTells 140 = .ok (.goto 10, 3) := by decide +kernel
theorem dX1_checkTells_143 : decode cX1_checkTells 143 = .ok (.aload_n 0, 1) := by decide +kernel
theorem dX1_checkTells_144 : decode cX1_checkTells 144 = .ok (.iload 4, 2) := by decide +kernel
theorem dX1_checkTells_146 : decode cX1_checkTells 146 = .ok (.invokevirtual 67, 3) := by decide +kernel
theorem dX1_checkTells_149 : decode cX1_checkTells 149 = .ok (.istore_n 2, 1) := by decide +kernel
theorem dX1_checkTells_150 : decode cX1_checkTells 150 = .ok (.iinc 3 1, 3) := by decide +kernel
theorem dX1_checkTells_153 : decode cX1_checkTells 153 = .ok (.goto (-147), 3) := by decide +kernel
theorem dX1_checkTells_156 : decode cX1_checkTells 156 = .ok (.iconst 0, 1) := by decide +kernel
theorem dX1_checkTells_157 : decode cX1_checkTells 157 = .ok (.ireturn, 1) := by decide +kernel
theorem dX1_checkTell_0 : decode cX1_checkTell 0 = .ok (.iload_n 1, 1) := by decide +kernel
theorem dX1_checkTell_1 : decode cX1_checkTell 1 = .ok (.iconst 2, 1) := by decide +kernel
theorem dX1_checkTell_2 : decode cX1_checkTell 2 = .ok (.isub, 1) := by decide +kernel
theorem dX1_checkTell_3 : decode cX1_checkTell 3 = .ok (.istore_n 2, 1) := by decide +kernel
theorem dX1_checkTell_4 : decode cX1_checkTell 4 = .ok (.iload_n 2, 1) := by decide +kernel
theorem dX1_checkTell_5 : decode cX1_checkTell 5 = .ok (.ifCond .lt 11, 3) := by decide +kernel
theorem dX1_checkTell_8 : decode cX1_checkTell 8 = .ok (.iload_n 2, 1) := by decide +kernel
theorem dX1_checkTell_9 : decode cX1_checkTell 9 = .ok (.getstatic 70, 3) := by decide +kernel
theorem dX1_checkTell_12 : decode cX1_checkTell 12 = .ok (.arraylength, 1) := by decide +kernel
theorem dX1_checkTell_13 : decode cX1_checkTell 13 = .ok (.if_icmp .lt 13, 3) := by decide +kernel
theorem dX1_checkTell_16 : decode cX1_checkTell 16 = .ok (.aload_n 0, 1) := by decide +kernel
theorem dX1_checkTell_17 : decode cX1_checkTell 17 = .ok (.iconst 1, 1) := by decide +kernel
theorem dX1_checkTell_18 : decode cX1_checkTell 18 = .ok (.aload_n 0, 1) := by decide +kernel
theorem dX1_checkTell_19 : decode cX1_checkTell 19 = .ok (.getfield 15, 3) := by decide +kernel
theorem dX1_checkTell_22 : decode cX1_checkTell 22 = .ok (.invokevirtual 50, 3) := by decide +kernel
theorem dX1_checkTell_25 : decode cX1_checkTell 25 = .ok (.ireturn, 1) := by decide +kernel
theorem dX1_checkTell_26 : decode cX1_checkTell 26 = .ok (.aload_n 0, 1) := by decide +kernel
theorem dX1_checkTell_27 : decode cX1_checkTell 27 = .ok (.invokevirtual 57, 3) := by decide +kernel
theorem dX1_checkTell_30 : decode cX1_checkTell 30 = .ok (.istore_n 3, 1) := by decide +kernel
theorem dX1_checkTell_31 : decode cX1_checkTell 31 = .ok (.iconst 0, 1) := by decide +kernel
theorem dX1_checkTell_32 : decode cX1_checkTell 32 = .ok (.istore 4, 2) := by decide +kernel
theorem dX1_checkTell_34 : decode cX1_checkTell 34 = .ok (.iload 4, 2) := by decide +kernel
theorem dX1_checkTell_36 : decode cX1_checkTell 36 = .ok (.getstatic 70, 3) := by decide +kernel
theorem dX1_checkTell_39 : decode cX1_checkTell 39 = .ok (.iload_n 2, 1) := by decide +kernel
theorem dX1_checkTell_40 : decode cX1_checkTell 40 = .ok (.iaload, 1) := by decide +kernel
theorem dX1_checkTell_41 : decode cX1_checkTell 41 = .ok (.if_icmp .ge 18, 3) := by decide +kernel
theorem dX1_checkTell_44 : decode cX1_checkTell 44 = .ok (.iload_n 3, 1) := by decide +kernel
theorem dX1_checkTell_45 : decode cX1_checkTell 45 = .ok (.ifCond .eq 14, 3) := by decide +kernel
theorem dX1_checkTell_48 : decode cX1_checkTell 48 = .ok (.aload_n 0, 1) := by decide +kernel
theorem dX1_checkTell_49 : decode cX1_checkTell 49 = .ok (.invokevirtual 74, 3) := by decide +kernel
theorem dX1_checkTell_52 : decode cX1_checkTell 52 = .ok (.istore_n 3, 1) := by decide +kernel
theorem dX1_checkTell_53 : decode cX1_checkTell 53 = .ok (.iinc 4 1, 3) := by decide +kernel
theorem dX1_checkTell_56 : decode cX1_checkTell 56 = .ok (.goto (-22), 3) := by decide +kernel
theorem dX1_checkTell_59 : decode cX1_checkTell 59 = .ok (.iload_n 3, 1) := by decide +kernel
theorem dX1_checkTell_60 : decode cX1_checkTell 60 = .ok (.ifCond .eq 16, 3) := by decide +kernel
theorem dX1_checkTell_63 : decode cX1_checkTell 63 = .ok (.aload_n 0, 1) := by decide +kernel
theorem dX1_checkTell_64 : decode cX1_checkTell 64 = .ok (.bipush 21, 2) := by decide +kernel
theorem dX1_checkTell_66 : decode cX1_checkTell 66 = .ok (.invokevirtual 63, 3) := by decide +kernel
theorem dX1_checkTell_69 : decode cX1_checkTell 69 = .ok (.ifCond .eq 7, 3) := by decide +kernel
theorem dX1_checkTell_72 : decode cX1_checkTell 72 = .ok (.iconst 1, 1) := by decide +kernel
theorem dX1_checkTell_73 : decode cX1_checkTell 73 = .ok (.goto 4, 3) := by decide +kernel
theorem dX1_checkTell_76 : decode cX1_checkTell 76 = .ok (.iconst 0, 1) := by decide +kernel
theorem dX1_checkTell_77 : decode cX1_checkTell 77 = .ok (.ireturn, 1) := by decide +kernel
theorem dX1_checkExpression_0 : decode cX1_checkExpression 0 = .ok (.iconst 0, 1) := by decide +kernel
theorem dX1_checkExpression_1 : decode cX1_checkExpression 1 = .ok (.istore_n 1, 1) := by decide +kernel
theorem dX1_checkExpression_2 : decode cX1_checkExpression 2 = .ok (.iconst 0, 1) := by decide +kernel
theorem dX1_checkExpression_3 : decode cX1_checkExpression 3 = .ok (.istore_n 2, 1) := by decide +kernel
theorem dX1_checkExpression_4 : decode cX1_checkExpression 4 = .ok (.iconst 0, 1) := by decide +kernel
theorem dX1_checkExpression_5 : decode cX1_checkExpression 5 = .ok (.istore_n 3, 1) := by decide +kernel
theorem dX1_checkExpression_6 : decode cX1_checkExpression 6 = .ok (.iload_n 3, 1) := by decide +kernel
theorem dX1_checkExpression_7 : decode cX1_checkExpression 7 = .ok (.sipush 400, 3) := by decide +kernel
theorem dX1_checkExpression_10 : decode cX1_checkExpression 10 = .ok (.if_icmp .gt 148, 3) := by decide +kernel
theorem dX1_checkExpression_13 : decode cX1_checkExpression 13 = .ok (.aload_n 0, 1) := by decide +kernel
theorem dX1_checkExpression_14 : decode cX1_checkExpression 14 = .ok (.getfield 9, 3) := by decide +kernel
theorem dX1_checkExpression_17 : decode cX1_checkExpression 17 = .ok (.aload_n 0, 1) := by decide +kernel
theorem dX1_checkExpression_18 : decode cX1_checkExpression 18 = .ok (.getfield 15, 3) := by decide +kernel
theorem dX1_checkExpression_21 : decode cX1_checkExpression 21 = .ok (.invokevirtual 54, 3) := by decide +kernel
theorem dX1_checkExpression_24 : decode cX1_checkExpression 24 = .ok (.istore 4, 2) := by decide +kernel
theorem dX1_checkExpression_26 : decode cX1_checkExpression 26 = .ok (.iload_n 2, 1) := by decide +kernel
theorem dX1_checkExpression_27 : decode cX1_checkExpression 27 = .ok (.ifCond .ne 29, 3) := by decide +kernel
theorem dX1_checkExpression_30 : decode cX1_checkExpression 30 = .ok (.iload 4, 2) := by decide +kernel
theorem dX1_checkExpression_32 : decode cX1_checkExpression 32 = .ok (.bipush 27, 2) := by decide +kernel
theorem dX1_checkExpression_34 : decode cX1_checkExpression 34 = .ok (.if_icmp .ne 22, 3) := by decide +kernel
theorem dX1_checkExpression_37 : decode cX1_checkExpression 37 = .ok (.iinc 1 1, 3) := by decide +kernel
theorem dX1_checkExpression_40 : decode cX1_checkExpression 40 = .ok (.iload_n 1, 1) := by decide +kernel
theorem dX1_checkExpression_41 : decode cX1_checkExpression 41 = .ok (.bipush 6, 2) := by decide +kernel
theorem dX1_checkExpression_43 : decode cX1_checkExpression 43 = .ok (.if_icmp .le 100, 3) := by decide +kernel
theorem dX1_checkExpression_46 : decode cX1_checkExpression 46 = .ok (.aload_n 0, 1) := by decide +kernel
theorem dX1_checkExpression_47 : decode cX1_checkExpression 47 = .ok (.iconst 2, 1) := by decide +kernel
theorem dX1_checkExpression_48 : decode cX1_checkExpression 48 = .ok (.aload_n 0, 1) := by decide +kernel
theorem dX1_checkExpression_49 : decode cX1_checkExpression 49 = .ok (.getfield 15, 3) := by decide +kernel
theorem dX1_checkExpression_52 : decode cX1_checkExpression 52 = .ok (.invokevirtual 50, 3) := by decide +kernel
theorem dX1_checkExpression_55 : decode cX1_checkExpression 55 = .ok (.ireturn, 1) := by decide +kernel
theorem dX1_checkExpression_56 : decode cX1_checkExpression 56 = .ok (.iload_n 2, 1) := by decide +kernel
theorem dX1_checkExpression_57 : decode cX1_checkExpression 57 = .ok (.ifCond .ne 22, 3) := by decide +kernel
theorem dX1_checkExpression_60 : decode cX1_checkExpression 60 = .ok (.iload 4, 2) := by decide +kernel
theorem dX1_checkExpression_62 : decode cX1_checkExpression 62 = .ok (.bipush 14, 2) := by decide +kernel
theorem dX1_checkExpression_64 : decode cX1_checkExpression 64 = .ok (.if_icmp .lt 15, 3) := by decide +kernel
theorem dX1_checkExpression_67 : decode cX1_checkExpression 67 = .ok (.iload 4, 2) := by decide +kernel
theorem dX1_checkExpression_69 : decode cX1_checkExpression 69 = .ok (.bipush 20, 2) := by decide +kernel
theorem dX1_checkExpression_71 : decode cX1_checkExpression 71 = .ok (.if_icmp .gt 8, 3) := by decide +kernel
theorem dX1_checkExpression_74 : decode cX1_checkExpression 74 = .ok (.iconst 1, 1) := by decide +kernel
theorem dX1_checkExpression_75 : decode cX1_checkExpression 75 = .ok (.istore_n 2, 1) := by decide +kernel
theorem dX1_checkExpression_76 : decode cX1_checkExpression 76 = .ok (.goto 67, 3) := by decide +kernel
theorem dX1_checkExpression_79 : decode cX1_checkExpression 79 = .ok (.iload_n 2, 1) := by decide +kernel
theorem dX1_checkExpression_80 : decode cX1_checkExpression 80 = .ok (.ifCond .eq 22, 3) := by decide +kernel
theorem dX1_checkExpression_83 : decode cX1_checkExpression 83 = .ok (.iload 4, 2) := by decide +kernel
theorem dX1_checkExpression_85 : decode cX1_checkExpression 85 = .ok (.bipush 22, 2) := by decide +kernel
theorem dX1_checkExpression_87 : decode cX1_checkExpression 87 = .ok (.if_icmp .lt 15, 3) := by decide +kernel
theorem dX1_checkExpression_90 : decode cX1_checkExpression 90 = .ok (.iload 4, 2) := by decide +kernel
theorem dX1_checkExpression_92 : decode cX1_checkExpression 92 = .ok (.bipush 26, 2) := by decide +kernel
theorem dX1_checkExpression_94 : decode cX1_checkExpression 94 = .ok (.if_icmp .gt 8, 3) := by decide +kernel
theorem dX1_checkExpression_97 : decode cX1_checkExpression 97 = .ok (.iconst 0, 1) := by decide +kernel
theorem dX1_checkExpression_98 : decode cX1_checkExpression 98 = .ok (.istore_n 2, 1) := by decide +kernel
theorem dX1_checkExpression_99 : decode cX1_checkExpression 99 = .ok (.goto 44, 3) := by decide +kernel
theorem dX1_checkExpression_102 : decode cX1_checkExpression 102 = .ok (.iload_n 2, 1) := by decide +kernel
theorem dX1_checkExpression_103 : decode cX1_checkExpression 103 = .ok (.ifCond .eq 20, 3) := by decide +kernel
theorem dX1_checkExpression_106 : decode cX1_checkExpression 106 = .ok (.iload 4, 2) := by decide +kernel
theorem dX1_checkExpression_108 : decode cX1_checkExpression 108 = .ok (.bipush 28, 2) := by decide +kernel
theorem dX1_checkExpression_110 : decode cX1_checkExpression 110 = .ok (.if_icmp .ne 13, 3) := by decide +kernel
theorem dX1_checkExpression_113 : decode cX1_checkExpression 113 = .ok (.iload_n 1, 1) := by decide +kernel
theorem dX1_checkExpression_114 : decode cX1_checkExpression 114 = .ok (.ifCond .le 9, 3) := by decide +kernel
theorem dX1_checkExpression_117 : decode cX1_checkExpression 117 = .ok (.iinc 1 (-1), 3) := by decide +kernel
theorem dX1_checkExpression_120 : decode cX1_checkExpression 120 = .ok (.goto 23, 3) := by decide +kernel
theorem dX1_checkExpression_123 : decode cX1_checkExpression 123 = .ok (.iload_n 2, 1) := by decide +kernel
theorem dX1_checkExpression_124 : decode cX1_checkExpression 124 = .ok (.ifCond .eq 9, 3) := by decide +kernel
theorem dX1_checkExpression_127 : decode cX1_checkExpression 127 = .ok (.iload_n 1, 1) := by decide +kernel
theorem dX1_checkExpression_128 : decode cX1_checkExpression 128 = .ok (.ifCond .ne 5, 3) := by decide +kernel
theorem dX1_checkExpression_131 : decode cX1_checkExpression 131 = .ok (.iconst 1, 1) := by decide +kernel
theorem dX1_checkExpression_132 : decode cX1_checkExpression 132 = .ok (.ireturn, 1) := by decide +kernel
theorem dX1_checkExpression_133 : decode cX1_checkExpression 133 = .ok (.aload_n 0, 1) := by decide +kernel
theorem dX1_checkExpression_134 : decode cX1_checkExpression 134 = .ok (.iconst 1, 1) := by decide +kernel
theorem dX1_checkExpression_135 : decode cX1_checkExpression 135 = .ok (.aload_n 0, 1) := by decide +kernel
theorem dX1_checkExpression_136 : decode cX1_checkExpression 136 = .ok (.getfield 15, 3) := by decide +kernel
theorem dX1_checkExpression_139 : decode cX1_checkExpression 139 = .ok (.invokevirtual 50, 3) := by decide +kernel
theorem dX1_checkExpression_142 : decode cX1_checkExpression 142 = .ok (.ireturn, 1) := by decide +kernel
theorem dX1_checkExpression_143 : decode cX1_checkExpression 143 = .ok (.aload_n 0, 1) := by decide +kernel
theorem dX1_checkExpression_144 : decode cX1_checkExpression 144 = .ok (.invokevirtual 57, 3) := by decide +kernel
theorem dX1_checkExpression_147 : decode cX1_checkExpression 147 = .ok (.ifCond .ne 5, 3) := by decide +kernel
theorem dX1_checkExpression_150 : decode cX1_checkExpression 150 = .ok (.iconst 0, 1) := by decide +kernel
theorem dX1_checkExpression_151 : decode cX1_checkExpression 151 = .ok (.ireturn, 1) := by decide +kernel
theorem dX1_checkExpression_152 : decode cX1_checkExpression 152 = .ok (.iinc 3 1, 3) := by decide +kernel
theorem dX1_checkExpression_155 : decode cX1_checkExpression 155 = .ok (.goto (-149), 3) := by decide +kernel
theorem dX1_checkExpression_158 : decode cX1_checkExpression 158 = .ok (.iconst 0, 1) := by decide +kernel
theorem dX1_checkExpression_159 : decode cX1_checkExpression 159 = .ok (.ireturn, 1) := by decide +kernel
theorem dX1_checkNumbers_0 : decode cX1_checkNumbers 0 = .ok (.iconst 0, 1) := by decide +kernel
theorem dX1_checkNumbers_1 : decode cX1_checkNumbers 1 = .ok (.istore_n 1, 1) := by decide +kernel
theorem dX1_checkNumbers_2 : decode cX1_checkNumbers 2 = .ok (.iload_n 1, 1) := by decide +kernel
theorem dX1_checkNumbers_3 : decode cX1_checkNumbers 3 = .ok (.aload_n 0, 1) := by decide +kernel
theorem dX1_checkNumbers_4 : decode cX1_checkNumbers 4 = .ok (.getfield 15, 3) := by decide +kernel
theorem dX1_checkNumbers_7 : decode cX1_checkNumbers 7 = .ok (.if_icmp .ge 100, 3) := by decide +kernel
theorem dX1_checkNumbers_10 : decode cX1_checkNumbers 10 = .ok (.aload_n 0, 1) := by decide +kernel
theorem dX1_checkNumbers_11 : decode cX1_checkNumbers 11 = .ok (.getfield 19, 3) := by decide +kernel
theorem dX1_checkNumbers_14 : decode cX1_checkNumbers 14 = .ok (.ifCond .ne 93, 3) := by decide +kernel
theorem dX1_checkNumbers_17 : decode cX1_checkNumbers 17 = .ok (.aload_n 0, 1) := by decide +kernel
theorem dX1_checkNumbers_18 : decode cX1_checkNumbers 18 = .ok (.getfield 9, 3) := by decide +kernel
theorem dX1_checkNumbers_21 : decode cX1_checkNumbers 21 = .ok (.iload_n 1, 1) := by decide +kernel
theorem dX1_checkNumbers_22 : decode cX1_checkNumbers 22 = .ok (.invokevirtual 54, 3) := by decide +kernel
theorem dX1_checkNumbers_25 : decode cX1_checkNumbers 25 = .ok (.istore_n 2, 1) := by decide +kernel
theorem dX1_checkNumbers_26 : decode cX1_checkNumbers 26 = .ok (.aload_n 0, 1) := by decide +kernel
theorem dX1_checkNumbers_27 : decode cX1_checkNumbers 27 = .ok (.getfield 9, 3) := by decide +kernel
theorem dX1_checkNumbers_30 : decode cX1_checkNumbers 30 = .ok (.iload_n 1, 1) := by decide +kernel
theorem dX1_checkNumbers_31 : decode cX1_checkNumbers 31 = .ok (.iconst 1, 1) := by decide +kernel
theorem dX1_checkNumbers_32 : decode cX1_checkNumbers 32 = .ok (.iadd, 1) := by decide +kernel
theorem dX1_checkNumbers_33 : decode cX1_checkNumbers 33 = .ok (.invokevirtual 60, 3) := by decide +kernel
theorem dX1_checkNumbers_36 : decode cX1_checkNumbers 36 = .ok (.istore_n 3, 1) := by decide +kernel
theorem dX1_checkNumbers_37 : decode cX1_checkNumbers 37 = .ok (.iload_n 2, 1) := by decide +kernel
theorem dX1_checkNumbers_38 : decode cX1_checkNumbers 38 = .ok (.ifCond .ne 14, 3) := by decide +kernel
theorem dX1_checkNumbers_41 : decode cX1_checkNumbers 41 = .ok (.iload_n 3, 1) := by decide +kernel
theorem dX1_checkNumbers_42 : decode cX1_checkNumbers 42 = .ok (.iconst 1, 1) := by decide +kernel
theorem dX1_checkNumbers_43 : decode cX1_checkNumbers 43 = .ok (.if_icmp .lt 37, 3) := by decide +kernel
theorem dX1_checkNumbers_46 : decode cX1_checkNumbers 46 = .ok (.iload_n 3, 1) := by decide +kernel
theorem dX1_checkNumbers_47 : decode cX1_checkNumbers 47 = .ok (.bipush 8, 2) := by decide +kernel
theorem dX1_checkNumbers_49 : decode cX1_checkNumbers 49 = .ok (.if_icmp .gt 31, 3) := by decide +kernel
theorem dX1_checkNumbers_52 : decode cX1_checkNumbers 52 = .ok (.iload_n 2, 1) := by decide +kernel
theorem dX1_checkNumbers_53 : decode cX1_checkNumbers 53 = .ok (.iconst 1, 1) := by decide +kernel
theorem dX1_checkNumbers_54 : decode cX1_checkNumbers 54 = .ok (.if_icmp .ne 14, 3) := by decide +kernel
theorem dX1_checkNumbers_57 : decode cX1_checkNumbers 57 = .ok (.iload_n 3, 1) := by decide +kernel
theorem dX1_checkNumbers_58 : decode cX1_checkNumbers 58 = .ok (.iconst 2, 1) := by decide +kernel
theorem dX1_checkNumbers_59 : decode cX1_checkNumbers 59 = .ok (.if_icmp .lt 21, 3) := by decide +kernel
theorem dX1_checkNumbers_62 : decode cX1_checkNumbers 62 = .ok (.iload_n 3, 1) := by decide +kernel
theorem dX1_checkNumbers_63 : decode cX1_checkNumbers 63 = .ok (.bipush 8, 2) := by decide +kernel
theorem dX1_checkNumbers_65 : decode cX1_checkNumbers 65 = .ok (.if_icmp .gt 15, 3) := by decide +kernel
theorem dX1_checkNumbers_68 : decode cX1_checkNumbers 68 = .ok (.iload_n 2, 1) := by decide +kernel
theorem dX1_checkNumbers_69 : decode cX1_checkNumbers 69 = .ok (.bipush 12, 2) := by decide +kernel
theorem dX1_checkNumbers_71 : decode cX1_checkNumbers 71 = .ok (.if_icmp .ne 13, 3) := by decide +kernel
theorem dX1_checkNumbers_74 : decode cX1_checkNumbers 74 = .ok (.iload_n 3, 1) := by decide +kernel
theorem dX1_checkNumbers_75 : decode cX1_checkNumbers 75 = .ok (.bipush 99, 2) := by decide +kernel
theorem dX1_checkNumbers_77 : decode cX1_checkNumbers 77 = .ok (.if_icmp .le 7, 3) := by decide +kernel
theorem dX1_checkNumbers_80 : decode cX1_checkNumbers 80 = .ok (.iconst 1, 1) := by decide +kernel
theorem dX1_checkNumbers_81 : decode cX1_checkNumbers 81 = .ok (.goto 4, 3) := by decide +kernel
theorem dX1_checkNumbers_84 : decode cX1_checkNumbers 84 = .ok (.iconst 0, 1) := by decide +kernel
theorem dX1_checkNumbers_85 : decode cX1_checkNumbers 85 = .ok (.istore 4, 2) := by decide +kernel
theorem dX1_checkNumbers_87 : decode cX1_checkNumbers 87 = .ok (.iload 4, 2) := by decide +kernel
theorem dX1_checkNumbers_89 : decode cX1_checkNumbers 89 = .ok (.ifCond .eq 12, 3) := by decide +kernel
theorem dX1_checkNumbers_92 : decode cX1_checkNumbers 92 = .ok (.aload_n 0, 1) := by decide +kernel
theorem dX1_checkNumbers_93 : decode cX1_checkNumbers 93 = .ok (.iconst 5, 1) := by decide +kernel
theorem dX1_checkNumbers_94 : decode cX1_checkNumbers 94 = .ok (.iload_n 1, 1) := by decide +kernel
theorem dX1_checkNumbers_95 : decode cX1_checkNumbers 95 = .ok (.iconst 1, 1) := by decide +kernel
theorem dX1_checkNumbers_96 : decode cX1_checkNumbers 96 = .ok (.iadd, 1) := by decide +kernel
theorem dX1_checkNumbers_97 : decode cX1_checkNumbers 97 = .ok (.invokevirtual 50, 3) := by decide +kernel
theorem dX1_checkNumbers_100 : decode cX1_checkNumbers 100 = .ok (.pop, 1) := by decide +kernel
theorem dX1_checkNumbers_101 : decode cX1_checkNumbers 101 = .ok (.iinc 1 1, 3) := by decide +kernel
theorem dX1_checkNumbers_104 : decode cX1_checkNumbers 104 = .ok (.goto (-102), 3) := by decide +kernel
theorem dX1_checkNumbers_107 : decode cX1_checkNumbers 107 = .ok (.return_, 1) := by decide +kernel
theorem dX3_init_0 : decode cX3_init 0 = .ok (.aload_n 0, 1) := by decide +kernel
theorem dX3_init_1 : decode cX3_init 1 = .ok (.invokespecial 3, 3) := by decide +kernel
theorem dX3_init_4 : decode cX3_init 4 = .ok (.aload_n 0, 1) := by decide +kernel
theorem dX3_init_5 : decode cX3_init 5 = .ok (.aload_n 1, 1) := by decide +kernel
theorem dX3_init_6 : decode cX3_init 6 = .ok (.putfield 9, 3) := by decide +kernel
theorem dX3_init_9 : decode cX3_init 9 = .ok (.aload_n 0, 1) := by decide +kernel
theorem dX3_init_10 : decode cX3_init 10 = .ok (.aload_n 1, 1) := by decide +kernel
theorem dX3_init_11 : decode cX3_init 11 = .ok (.getfield 15, 3) := by decide +kernel
theorem dX3_init_14 : decode cX3_init 14 = .ok (.putfield 21, 3) := by decide +kernel
theorem dX3_init_17 : decode cX3_init 17 = .ok (.aload_n 0, 1) := by decide +kernel
theorem dX3_init_18 : decode cX3_init 18 = .ok (.aload_n 1, 1) := by decide +kernel
theorem dX3_init_19 : decode cX3_init 19 = .ok (.getfield 22, 3) := by decide +kernel
theorem dX3_init_22 : decode cX3_init 22 = .ok (.putfield 26, 3) := by decide +kernel
theorem dX3_init_25 : decode cX3_init 25 = .ok (.aload_n 0, 1) := by decide +kernel
theorem dX3_init_26 : decode cX3_init 26 = .ok (.bipush 8, 2) := by decide +kernel
theorem dX3_init_28 : decode cX3_init 28 = .ok (.newarray .int, 2) := by decide +kernel
theorem dX3_init_30 : decode cX3_init 30 = .ok (.putfield 27, 3) := by decide +kernel
theorem dX3_init_33 : decode cX3_init 33 = .ok (.aload_n 0, 1) := by decide +kernel
theorem dX3_init_34 : decode cX3_init 34 = .ok (.iconst (-1), 1) := by decide +kernel
theorem dX3_init_35 : decode cX3_init 35 = .ok (.putfield 31, 3) := by decide +kernel
theorem dX3_init_38 : decode cX3_init 38 = .ok (.aload_n 0, 1) := by decide +kernel
theorem dX3_init_39 : decode cX3_init 39 = .ok (.iconst 1, 1) := by decide +kernel
theorem dX3_init_40 : decode cX3_init 40 = .ok (.putfield 35, 3) := by decide +kernel
theorem dX3_init_43 : decode cX3_init 43 = .ok (.aload_n 0, 1) := by decide +kernel
theorem dX3_init_44 : decode cX3_init 44 = .ok (.bipush (-2), 2) := by decide +kernel
theorem dX3_init_46 : decode cX3_init 46 = .ok (.putfield 38, 3) := by decide +kernel
theorem dX3_init_49 : decode cX3_init 49 = .ok (.aload_n 0, 1) := by decide +kernel
theorem dX3_init_50 : decode cX3_init 50 = .ok (.iconst 0, 1) := by decide +kernel
theorem dX3_init_51 : decode cX3_init 51 = .ok (.putfield 41, 3) := by decide +kernel
theorem dX3_init_54 : decode cX3_init 54 = .ok (.aload_n 0, 1) := by decide +kernel
theorem dX3_init_55 : decode cX3_init 55 = .ok (.iconst (-1), 1) := by decide +kernel
theorem dX3_init_56 : decode cX3_init 56 = .ok (.putfield 44, 3) := by decide +kernel
theorem dX3_init_59 : decode cX3_init 59 = .ok (.aload_n 0, 1) := by decide +kernel
theorem dX3_init_60 : decode cX3_init 60 = .ok (.iconst (-1), 1) := by decide +kernel
theorem dX3_init_61 : decode cX3_init 61 = .ok (.putfield 47, 3) := by decide +kernel
theorem dX3_init_64 : decode cX3_init 64 = .ok (.aload_n 0, 1) := by decide +kernel
theorem dX3_init_65 : decode cX3_init 65 = .ok (.iconst (-1), 1) := by decide +kernel
theorem dX3_init_66 : decode cX3_init 66 = .ok (.putfield 50, 3) := by decide +kernel
theorem dX3_init_69 : decode cX3_init 69 = .ok (.aload_n 0, 1) := by decide +kernel
theorem dX3_init_70 : decode cX3_init 70 = .ok (.iconst 1, 1) := by decide +kernel
theorem dX3_init_71 : decode cX3_init 71 = .ok (.putfield 53, 3) := by decide +kernel
theorem dX3_init_74 : decode cX3_init 74 = .ok (.return_, 1) := by decide +kernel
theorem dX3_aim_0 : decode cX3_aim 0 = .ok (.aload_n 0, 1) := by decide +kernel
theorem dX3_aim_1 : decode cX3_aim 1 = .ok (.iload_n 2, 1) := by decide +kernel
theorem dX3_aim_2 : decode cX3_aim 2 = .ok (.putfield 31, 3) := by decide +kernel
theorem dX3_aim_5 : decode cX3_aim 5 = .ok (.aload_n 0, 1) := by decide +kernel
theorem dX3_aim_6 : decode cX3_aim 6 = .ok (.bipush (-2), 2) := by decide +kernel
theorem dX3_aim_8 : decode cX3_aim 8 = .ok (.putfield 38, 3) := by decide +kernel
theorem dX3_aim_11 : decode cX3_aim 11 = .ok (.aload_n 0, 1) := by decide +kernel
theorem dX3_aim_12 : decode cX3_aim 12 = .ok (.iconst 0, 1) := by decide +kernel
theorem dX3_aim_13 : decode cX3_aim 13 = .ok (.putfield 41, 3) := by decide +kernel
theorem dX3_aim_16 : decode cX3_aim 16 = .ok (.aload_n 0, 1) := by decide +kernel
theorem dX3_aim_17 : decode cX3_aim 17 = .ok (.iconst (-1), 1) := by decide +kernel
theorem dX3_aim_18 : decode cX3_aim 18 = .ok (.putfield 44, 3) := by decide +kernel
theorem dX3_aim_21 : decode cX3_aim 21 = .ok (.aload_n 0, 1) := by decide +kernel
theorem dX3_aim_22 : decode cX3_aim 22 = .ok (.iconst 1, 1) := by decide +kernel
theorem dX3_aim_23 : decode cX3_aim 23 = .ok (.putfield 35, 3) := by decide +kernel
theorem dX3_aim_26 : decode cX3_aim 26 = .ok (.aload_n 0, 1) := by decide +kernel
theorem dX3_aim_27 : decode cX3_aim 27 = .ok (.getfield 21, 3) := by decide +kernel
theorem dX3_aim_30 : decode cX3_aim 30 = .ok (.aload_n 0, 1) := by decide +kernel
theorem dX3_aim_31 : decode cX3_aim 31 = .ok (.getfield 31, 3) := by decide +kernel
theorem dX3_aim_34 : decode cX3_aim 34 = .ok (.invokevirtual 56, 3) := by decide +kernel
theorem dX3_aim_37 : decode cX3_aim 37 = .ok (.ifCond .eq 21, 3) := by decide +kernel
theorem dX3_aim_40 : decode cX3_aim 40 = .ok (.aload_n 0, 1) := by decide +kernel
theorem dX3_aim_41 : decode cX3_aim 41 = .ok (.getfield 26, 3) := by decide +kernel
theorem dX3_aim_44 : decode cX3_aim 44 = .ok (.iload_n 1, 1) := by decide +kernel
theorem dX3_aim_45 : decode cX3_aim 45 = .ok (.aload_n 0, 1) := by decide +kernel
theorem dX3_aim_46 : decode cX3_aim 46 = .ok (.getfield 9, 3) := by decide +kernel
theorem dX3_aim_49 : decode cX3_aim 49 = .ok (.getfield 62, 3) := by decide +kernel
theorem dX3_aim_52 : decode cX3_aim 52 = .ok (.invokevirtual 65, 3) := by decide +kernel
theorem dX3_aim_55 : decode cX3_aim 55 = .ok (.ifCond .ne 4, 3) := by decide +kernel
theorem dX3_aim_58 : decode cX3_aim 58 = .ok (.return_, 1) := by decide +kernel
theorem dX3_aim_59 : decode cX3_aim 59 = .ok (.aload_n 0, 1) := by decide +kernel
theorem dX3_aim_60 : decode cX3_aim 60 = .ok (.aload_n 0, 1) := by decide +kernel
theorem dX3_aim_61 : decode cX3_aim 61 = .ok (.iload_n 1, 1) := by decide +kernel
theorem dX3_aim_62 : decode cX3_aim 62 = .ok (.invokevirtual 71, 3) := by decide +kernel
theorem dX3_aim_65 : decode cX3_aim 65 = .ok (.putfield 35, 3) := by decide +kernel
theorem dX3_aim_68 : decode cX3_aim 68 = .ok (.aload_n 0, 1) := by decide +kernel
theorem dX3_aim_69 : decode cX3_aim 69 = .ok (.getfield 35, 3) := by decide +kernel
theorem dX3_aim_72 : decode cX3_aim 72 = .ok (.ifCond .ne 30, 3) := by decide +kernel
theorem dX3_aim_75 : decode cX3_aim 75 = .ok (.aload_n 0, 1) := by decide +kernel
theorem dX3_aim_76 : decode cX3_aim 76 = .ok (.aload_n 0, 1) := by decide +kernel
theorem dX3_aim_77 : decode cX3_aim 77 = .ok (.invokevirtual 75, 3) := by decide +kernel
theorem dX3_aim_80 : decode cX3_aim 80 = .ok (.putfield 38, 3) := by decide +kernel
theorem dX3_aim_83 : decode cX3_aim 83 = .ok (.aload_n 0, 1) := by decide +kernel
theorem dX3_aim_84 : decode cX3_aim 84 = .ok (.aload_n 0, 1) := by decide +kernel
theorem dX3_aim_85 : decode cX3_aim 85 = .ok (.getfield 21, 3) := by decide +kernel
theorem dX3_aim_88 : decode cX3_aim 88 = .ok (.aload_n 0, 1) := by decide +kernel
theorem dX3_aim_89 : decode cX3_aim 89 = .ok (.getfield 31, 3) := by decide +kernel
theorem dX3_aim_92 : decode cX3_aim 92 = .ok (.invokevirtual 79, 3) := by decide +kernel
theorem dX3_aim_95 : decode cX3_aim 95 = .ok (.putfield 44, 3) := by decide +kernel
theorem dX3_aim_98 : decode cX3_aim 98 = .ok (.aload_n 0, 1) := by decide +kernel
theorem dX3_aim_99 : decode cX3_aim 99 = .ok (.invokevirtual 82, 3) := by decide +kernel
theorem dX3_aim_102 : decode cX3_aim 102 = .ok (.return_, 1) := by decide +kernel
theorem dX3_lookAtPages_0 : decode cX3_lookAtPages 0 = .ok (.iconst 0, 1) := by decide +kernel
theorem dX3_lookAtPages_1 : decode cX3_lookAtPages 1 = .ok (.istore_n 2, 1) := by decide +kernel
theorem dX3_lookAtPages_2 : decode cX3_lookAtPages 2 = .ok (.iconst 0, 1) := by decide +kernel
theorem dX3_lookAtPages_3 : decode cX3_lookAtPages 3 = .ok (.istore_n 3, 1) := by decide +kernel
theorem dX3_lookAtPages_4 : decode cX3_lookAtPages 4 = .ok (.iload_n 3, 1) := by decide +kernel
theorem dX3_lookAtPages_5 : decode cX3_lookAtPages 5 = .ok (.aload_n 0, 1) := by decide +kernel
theorem dX3_lookAtPages_6 : decode cX3_lookAtPages 6 = .ok (.getfield 9, 3) := by decide +kernel
theorem dX3_lookAtPages_9 : decode cX3_lookAtPages 9 = .ok (.getfield 62, 3) := by decide +kernel
theorem dX3_lookAtPages_12 : decode cX3_lookAtPages 12 = .ok (.if_icmp .ge 92, 3) := by decide +kernel
theorem dX3_lookAtPages_15 : decode cX3_lookAtPages 15 = .ok (.iload_n 3, 1) := by decide +kernel
theorem dX3_lookAtPages_16 : decode cX3_lookAtPages 16 = .ok (.aload_n 0, 1) := by decide +kernel
theorem dX3_lookAtPages_17 : decode cX3_lookAtPages 17 = .ok (.getfield 27, 3) := by decide +kernel
theorem dX3_lookAtPages_20 : decode cX3_lookAtPages 20 = .ok (.arraylength, 1) := by decide +kernel
theorem dX3_lookAtPages_21 : decode cX3_lookAtPages 21 = .ok (.if_icmp .ge 83, 3) := by decide +kernel
theorem dX3_lookAtPages_24 : decode cX3_lookAtPages 24 = .ok (.aload_n 0, 1) := by decide +kernel
theorem dX3_lookAtPages_25 : decode cX3_lookAtPages 25 = .ok (.getfield 26, 3) := by decide +kernel
theorem dX3_lookAtPages_28 : decode cX3_lookAtPages 28 = .ok (.iload_n 1, 1) := by decide +kernel
theorem dX3_lookAtPages_29 : decode cX3_lookAtPages 29 = .ok (.iload_n 3, 1) := by decide +kernel
theorem dX3_lookAtPages_30 : decode cX3_lookAtPages 30 = .ok (.invokevirtual 85, 3) := by decide +kernel
theorem dX3_lookAtPages_33 : decode cX3_lookAtPages 33 = .ok (.istore 4, 2) := by decide +kernel
theorem dX3_lookAtPages_35 : decode cX3_lookAtPages 35 = .ok (.aload_n 0, 1) := by decide +kernel
theorem dX3_lookAtPages_36 : decode cX3_lookAtPages 36 = .ok (.getfield 27, 3) := by decide +kernel
theorem dX3_lookAtPages_39 : decode cX3_lookAtPages 39 = .ok (.iload_n 3, 1) := by decide +kernel
theorem dX3_lookAtPages_40 : decode cX3_lookAtPages 40 = .ok (.aload_n 0, 1) := by decide +kernel
theorem dX3_lookAtPages_41 : decode cX3_lookAtPages 41 = .ok (.getfield 26, 3) := by decide +kernel
theorem dX3_lookAtPages_44 : decode cX3_lookAtPages 44 = .ok (.iload 4, 2) := by decide +kernel
theorem dX3_lookAtPages_46 : decode cX3_lookAtPages 46 = .ok (.invokevirtual 89, 3) := by decide +kernel
theorem dX3_lookAtPages_49 : decode cX3_lookAtPages 49 = .ok (.iastore, 1) := by decide +kernel
theorem dX3_lookAtPages_50 : decode cX3_lookAtPages 50 = .ok (.aload_n 0, 1) := by decide +kernel
theorem dX3_lookAtPages_51 : decode cX3_lookAtPages 51 = .ok (.aload_n 0, 1) := by decide +kernel
theorem dX3_lookAtPages_52 : decode cX3_lookAtPages 52 = .ok (.getfield 41, 3) := by decide +kernel
theorem dX3_lookAtPages_55 : decode cX3_lookAtPages 55 = .ok (.aload_n 0, 1) := by decide +kernel
theorem dX3_lookAtPages_56 : decode cX3_lookAtPages 56 = .ok (.getfield 27, 3) := by decide +kernel
theorem dX3_lookAtPages_59 : decode cX3_lookAtPages 59 = .ok (.iload_n 3, 1) := by decide +kernel
theorem dX3_lookAtPages_60 : decode cX3_lookAtPages 60 = .ok (.iaload, 1) := by decide +kernel
theorem dX3_lookAtPages_61 : decode cX3_lookAtPages 61 = .ok (.invokestatic 92, 3) := by decide +kernel
theorem dX3_lookAtPages_64 : decode cX3_lookAtPages 64 = .ok (.putfield 41, 3) := by decide +kernel
theorem dX3_lookAtPages_67 : decode cX3_lookAtPages 67 = .ok (.aload_n 0, 1) := by decide +kernel
theorem dX3_lookAtPages_68 : decode cX3_lookAtPages 68 = .ok (.getfield 21, 3) := by decide +kernel
theorem dX3_lookAtPages_71 : decode cX3_lookAtPages 71 = .ok (.aload_n 0, 1) := by decide +kernel
theorem dX3_lookAtPages_72 : decode cX3_lookAtPages 72 = .ok (.getfield 31, 3) := by decide +kernel
theorem dX3_lookAtPages_75 : decode cX3_lookAtPages 75 = .ok (.aload_n 0, 1) := by decide +kernel
theorem dX3_lookAtPages_76 : decode cX3_lookAtPages 76 = .ok (.getfield 26, 3) := by decide +kernel
theorem dX3_lookAtPages_79 : decode cX3_lookAtPages 79 = .ok (.iload 4, 2) := by decide +kernel
theorem dX3_lookAtPages_81 : decode cX3_lookAtPages 81 = .ok (.invokevirtual 97, 3) := by decide +kernel
theorem dX3_lookAtPages_84 : decode cX3_lookAtPages 84 = .ok (.aload_n 0, 1) := by decide +kernel
theorem dX3_lookAtPages_85 : decode cX3_lookAtPages 85 = .ok (.getfield 27, 3) := by decide +kernel
theorem dX3_lookAtPages_88 : decode cX3_lookAtPages 88 = .ok (.iload_n 3, 1) := by decide +kernel
theorem dX3_lookAtPages_89 : decode cX3_lookAtPages 89 = .ok (.iaload, 1) := by decide +kernel
theorem dX3_lookAtPages_90 : decode cX3_lookAtPages 90 = .ok (.invokevirtual 100, 3) := by decide +kernel
theorem dX3_lookAtPages_93 : decode cX3_lookAtPages 93 = .ok (.ifCond .ne 5, 3) := by decide +kernel
theorem dX3_lookAtPages_96 : decode cX3_lookAtPages 96 = .ok (.iconst 2, 1) := by decide +kernel
theorem dX3_lookAtPages_97 : decode cX3_lookAtPages 97 = .ok (.istore_n 2, 1) := by decide +kernel
theorem dX3_lookAtPages_98 : decode cX3_lookAtPages 98 = .ok (.iinc 3 1, 3) := by decide +kernel
theorem dX3_lookAtPages_101 : decode cX3_lookAtPages 101 = .ok (.goto (-97), 3) := by decide +kernel
theorem dX3_lookAtPages_104 : decode cX3_lookAtPages 104 = .ok (.iload_n 2, 1) := by decide +kernel
theorem dX3_lookAtPages_105 : decode cX3_lookAtPages 105 = .ok (.ireturn, 1) := by decide +kernel
theorem dX3_isBehind_0 : decode cX3_isBehind 0 = .ok (.iload_n 1, 1) := by decide +kernel
theorem dX3_isBehind_1 : decode cX3_isBehind 1 = .ok (.ifCond .lt 26, 3) := by decide +kernel
theorem dX3_isBehind_4 : decode cX3_isBehind 4 = .ok (.iload_n 1, 1) := by decide +kernel
theorem dX3_isBehind_5 : decode cX3_isBehind 5 = .ok (.aload_n 0, 1) := by decide +kernel
theorem dX3_isBehind_6 : decode cX3_isBehind 6 = .ok (.getfield 27, 3) := by decide +kernel
theorem dX3_isBehind_9 : decode cX3_isBehind 9 = .ok (.arraylength, 1) := by decide +kernel
theorem dX3_isBehind_10 : decode cX3_isBehind 10 = .ok (.if_icmp .ge 17, 3) := by decide +kernel
theorem dX3_isBehind_13 : decode cX3_isBehind 13 = .ok (.iload_n 2, 1) := by decide +kernel
theorem dX3_isBehind_14 : decode cX3_isBehind 14 = .ok (.aload_n 0, 1) := by decide +kernel
theorem dX3_isBehind_15 : decode cX3_isBehind 15 = .ok (.getfield 27, 3) := by decide +kernel
theorem dX3_isBehind_18 : decode cX3_isBehind 18 = .ok (.iload_n 1, 1) := by decide +kernel
theorem dX3_isBehind_19 : decode cX3_isBehind 19 = .ok (.iaload, 1) := by decide +kernel
theorem dX3_isBehind_20 : decode cX3_isBehind 20 = .ok (.if_icmp .le 7, 3) := by decide +kernel
theorem dX3_isBehind_23 : decode cX3_isBehind 23 = .ok (.iconst 1, 1) := by decide +kernel
theorem dX3_isBehind_24 : decode cX3_isBehind 24 = .ok (.goto 4, 3) := by decide +kernel
theorem dX3_isBehind_27 : decode cX3_isBehind 27 = .ok (.iconst 0, 1) := by decide +kernel
theorem dX3_isBehind_28 : decode cX3_isBehind 28 = .ok (.ireturn, 1) := by decide +kernel
theorem dX3_firstChange_0 : decode cX3_firstChange 0 = .ok (.aload_n 0, 1) := by decide +kernel
theorem dX3_firstChange_1 : decode cX3_firstChange 1 = .ok (.getfield 21, 3) := by decide +kernel
theorem dX3_firstChange_4 : decode cX3_firstChange 4 = .ok (.aload_n 0, 1) := by decide +kernel
theorem dX3_firstChange_5 : decode cX3_firstChange 5 = .ok (.getfield 31, 3) := by decide +kernel
theorem dX3_firstChange_8 : decode cX3_firstChange 8 = .ok (.invokevirtual 79, 3) := by decide +kernel
theorem dX3_firstChange_11 : decode cX3_firstChange 11 = .ok (.istore_n 1, 1) := by decide +kernel
theorem dX3_firstChange_12 : decode cX3_firstChange 12 = .ok (.iconst 1, 1) := by decide +kernel
theorem dX3_firstChange_13 : decode cX3_firstChange 13 = .ok (.istore_n 2, 1) := by decide +kernel
theorem dX3_firstChange_14 : decode cX3_firstChange 14 = .ok (.iload_n 2, 1) := by decide +kernel
theorem dX3_firstChange_15 : decode cX3_firstChange 15 = .ok (.iload_n 1, 1) := by decide +kernel
theorem dX3_firstChange_16 : decode cX3_firstChange 16 = .ok (.if_icmp .gt 31, 3) := by decide +kernel
theorem dX3_firstChange_19 : decode cX3_firstChange 19 = .ok (.aload_n 0, 1) := by decide +kernel
theorem dX3_firstChange_20 : decode cX3_firstChange 20 = .ok (.aload_n 0, 1) := by decide +kernel
theorem dX3_firstChange_21 : decode cX3_firstChange 21 = .ok (.getfield 21, 3) := by decide +kernel
theorem dX3_firstChange_24 : decode cX3_firstChange 24 = .ok (.aload_n 0, 1) := by decide +kernel
theorem dX3_firstChange_25 : decode cX3_firstChange 25 = .ok (.getfield 31, 3) := by decide +kernel
theorem dX3_firstChange_28 : decode cX3_firstChange 28 = .ok (.iload_n 2, 1) := by decide +kernel
theorem dX3_firstChange_29 : decode cX3_firstChange 29 = .ok (.invokevirtual 104, 3) := by decide +kernel
theorem dX3_firstChange_32 : decode cX3_firstChange 32 = .ok (.iload_n 2, 1) := by decide +kernel
theorem dX3_firstChange_33 : decode cX3_firstChange 33 = .ok (.invokevirtual 107, 3) := by decide +kernel
theorem dX3_firstChange_36 : decode cX3_firstChange 36 = .ok (.ifCond .eq 5, 3) := by decide +kernel
theorem dX3_firstChange_39 : decode cX3_firstChange 39 = .ok (.iload_n 2, 1) := by decide +kernel
theorem dX3_firstChange_40 : decode cX3_firstChange 40 = .ok (.ireturn, 1) := by decide +kernel
theorem dX3_firstChange_41 : decode cX3_firstChange 41 = .ok (.iinc 2 1, 3) := by decide +kernel
theorem dX3_firstChange_44 : decode cX3_firstChange 44 = .ok (.goto (-30), 3) := by decide +kernel
theorem dX3_firstChange_47 : decode cX3_firstChange 47 = .ok (.bipush (-2), 2) := by decide +kernel
theorem dX3_firstChange_49 : decode cX3_firstChange 49 = .ok (.ireturn, 1) := by decide +kernel
theorem dX3_lookAtPieces_0 : decode cX3_lookAtPieces 0 = .ok (.aload_n 0, 1) := by decide +kernel
theorem dX3_lookAtPieces_1 : decode cX3_lookAtPieces 1 = .ok (.getfield 38, 3) := by decide +kernel
theorem dX3_lookAtPieces_4 : decode cX3_lookAtPieces 4 = .ok (.bipush (-2), 2) := by decide +kernel
theorem dX3_lookAtPieces_6 : decode cX3_lookAtPieces 6 = .ok (.if_icmp .ne 4, 3) := by decide +kernel
theorem dX3_lookAtPieces_9 : decode cX3_lookAtPieces 9 = .ok (.return_, 1) := by decide +kernel
theorem dX3_lookAtPieces_10 : decode cX3_lookAtPieces 10 = .ok (.aload_n 0, 1) := by decide +kernel
theorem dX3_lookAtPieces_11 : decode cX3_lookAtPieces 11 = .ok (.getfield 21, 3) := by decide +kernel
theorem dX3_lookAtPieces_14 : decode cX3_lookAtPieces 14 = .ok (.aload_n 0, 1) := by decide +kernel
theorem dX3_lookAtPieces_15 : decode cX3_lookAtPieces 15 = .ok (.getfield 44, 3) := by decide +kernel
theorem dX3_lookAtPieces_18 : decode cX3_lookAtPieces 18 = .ok (.invokevirtual 110, 3) := by decide +kernel
theorem dX3_lookAtPieces_21 : decode cX3_lookAtPieces 21 = .ok (.istore_n 1, 1) := by decide +kernel
theorem dX3_lookAtPieces_22 : decode cX3_lookAtPieces 22 = .ok (.aload_n 0, 1) := by decide +kernel
theorem dX3_lookAtPieces_23 : decode cX3_lookAtPieces 23 = .ok (.getfield 21, 3) := by decide +kernel
theorem dX3_lookAtPieces_26 : decode cX3_lookAtPieces 26 = .ok (.aload_n 0, 1) := by decide +kernel
theorem dX3_lookAtPieces_27 : decode cX3_lookAtPieces 27 = .ok (.getfield 38, 3) := by decide +kernel
theorem dX3_lookAtPieces_30 : decode cX3_lookAtPieces 30 = .ok (.invokevirtual 110, 3) := by decide +kernel
theorem dX3_lookAtPieces_33 : decode cX3_lookAtPieces 33 = .ok (.istore_n 2, 1) := by decide +kernel
theorem dX3_lookAtPieces_34 : decode cX3_lookAtPieces 34 = .ok (.iload_n 2, 1) := by decide +kernel
theorem dX3_lookAtPieces_35 : decode cX3_lookAtPieces 35 = .ok (.iload_n 1, 1) := by decide +kernel
theorem dX3_lookAtPieces_36 : decode cX3_lookAtPieces 36 = .ok (.if_icmp .gt 75, 3) := by decide +kernel
theorem dX3_lookAtPieces_39 : decode cX3_lookAtPieces 39 = .ok (.aload_n 0, 1) := by decide +kernel
theorem dX3_lookAtPieces_40 : decode cX3_lookAtPieces 40 = .ok (.getfield 21, 3) := by decide +kernel
theorem dX3_lookAtPieces_43 : decode cX3_lookAtPieces 43 = .ok (.aload_n 0, 1) := by decide +kernel
theorem dX3_lookAtPieces_44 : decode cX3_lookAtPieces 44 = .ok (.getfield 31, 3) := by decide +kernel
theorem dX3_lookAtPieces_47 : decode cX3_lookAtPieces 47 = .ok (.iload_n 2, 1) := by decide +kernel
theorem dX3_lookAtPieces_48 : decode cX3_lookAtPieces 48 = .ok (.invokevirtual 113, 3) := by decide +kernel
theorem dX3_lookAtPieces_51 : decode cX3_lookAtPieces 51 = .ok (.istore_n 3, 1) := by decide +kernel
theorem dX3_lookAtPieces_52 : decode cX3_lookAtPieces 52 = .ok (.aload_n 0, 1) := by decide +kernel
theorem dX3_lookAtPieces_53 : decode cX3_lookAtPieces 53 = .ok (.aload_n 0, 1) := by decide +kernel
theorem dX3_lookAtPieces_54 : decode cX3_lookAtPieces 54 = .ok (.getfield 21, 3) := by decide +kernel
theorem dX3_lookAtPieces_57 : decode cX3_lookAtPieces 57 = .ok (.iload_n 3, 1) := by decide +kernel
theorem dX3_lookAtPieces_58 : decode cX3_lookAtPieces 58 = .ok (.iload_n 2, 1) := by decide +kernel
theorem dX3_lookAtPieces_59 : decode cX3_lookAtPieces 59 = .ok (.invokevirtual 116, 3) := by decide +kernel
theorem dX3_lookAtPieces_62 : decode cX3_lookAtPieces 62 = .ok (.putfield 53, 3) := by decide +kernel
theorem dX3_lookAtPieces_65 : decode cX3_lookAtPieces 65 = .ok (.aload_n 0, 1) := by decide +kernel
theorem dX3_lookAtPieces_66 : decode cX3_lookAtPieces 66 = .ok (.getfield 53, 3) := by decide +kernel
theorem dX3_lookAtPieces_69 : decode cX3_lookAtPieces 69 = .ok (.ifCond .eq 36, 3) := by decide +kernel
theorem dX3_lookAtPieces_72 : decode cX3_lookAtPieces 72 = .ok (.aload_n 0, 1) := by decide +kernel
theorem dX3_lookAtPieces_73 : decode cX3_lookAtPieces 73 = .ok (.iload_n 3, 1) := by decide +kernel
theorem dX3_lookAtPieces_74 : decode cX3_lookAtPieces 74 = .ok (.putfield 47, 3) := by decide +kernel
theorem dX3_lookAtPieces_77 : decode cX3_lookAtPieces 77 = .ok (.aload_n 0, 1) := by decide +kernel
theorem dX3_lookAtPieces_78 : decode cX3_lookAtPieces 78 = .ok (.iload_n 2, 1) := by decide +kernel
theorem dX3_lookAtPieces_79 : decode cX3_lookAtPieces 79 = .ok (.putfield 50, 3) := by decide +kernel
theorem dX3_lookAtPieces_82 : decode cX3_lookAtPieces 82 = .ok (.aload_n 0, 1) := by decide +kernel
theorem dX3_lookAtPieces_83 : decode cX3_lookAtPieces 83 = .ok (.aload_n 0, 1) := by decide +kernel
theorem dX3_lookAtPieces_84 : decode cX3_lookAtPieces 84 = .ok (.getfield 38, 3) := by decide +kernel
theorem dX3_lookAtPieces_87 : decode cX3_lookAtPieces 87 = .ok (.iconst 1, 1) := by decide +kernel
theorem dX3_lookAtPieces_88 : decode cX3_lookAtPieces 88 = .ok (.isub, 1) := by decide +kernel
theorem dX3_lookAtPieces_89 : decode cX3_lookAtPieces 89 = .ok (.iload_n 2, 1) := by decide +kernel
theorem dX3_lookAtPieces_90 : decode cX3_lookAtPieces 90 = .ok (.aload_n 0, 1) := by decide +kernel
theorem dX3_lookAtPieces_91 : decode cX3_lookAtPieces 91 = .ok (.getfield 21, 3) := by decide +kernel
theorem dX3_lookAtPieces_94 : decode cX3_lookAtPieces 94 = .ok (.getfield 119, 3) := by decide +kernel
theorem dX3_lookAtPieces_97 : decode cX3_lookAtPieces 97 = .ok (.imul, 1) := by decide +kernel
theorem dX3_lookAtPieces_98 : decode cX3_lookAtPieces 98 = .ok (.invokestatic 92, 3) := by decide +kernel
theorem dX3_lookAtPieces_101 : decode cX3_lookAtPieces 101 = .ok (.putfield 44, 3) := by decide +kernel
theorem dX3_lookAtPieces_104 : decode cX3_lookAtPieces 104 = .ok (.return_, 1) := by decide +kernel
theorem dX3_lookAtPieces_105 : decode cX3_lookAtPieces 105 = .ok (.iinc 2 1, 3) := by decide +kernel
theorem dX3_lookAtPieces_108 : decode cX3_lookAtPieces 108 = .ok (.goto (-74), 3) := by decide +kernel
theorem dX3_lookAtPieces_111 : decode cX3_lookAtPieces 111 = .ok (.return_, 1) := by decide +kernel
theorem dX3_outcomeAt_0 : decode cX3_outcomeAt 0 = .ok (.aload_n 0, 1) := by decide +kernel
theorem dX3_outcomeAt_1 : decode cX3_outcomeAt 1 = .ok (.getfield 21, 3) := by decide +kernel
theorem dX3_outcomeAt_4 : decode cX3_outcomeAt 4 = .ok (.aload_n 0, 1) := by decide +kernel
theorem dX3_outcomeAt_5 : decode cX3_outcomeAt 5 = .ok (.getfield 31, 3) := by decide +kernel
theorem dX3_outcomeAt_8 : decode cX3_outcomeAt 8 = .ok (.iload_n 1, 1) := by decide +kernel
theorem dX3_outcomeAt_9 : decode cX3_outcomeAt 9 = .ok (.invokevirtual 122, 3) := by decide +kernel
theorem dX3_outcomeAt_12 : decode cX3_outcomeAt 12 = .ok (.ifCond .ne 5, 3) := by decide +kernel
theorem dX3_outcomeAt_15 : decode cX3_outcomeAt 15 = .ok (.iconst 1, 1) := by decide +kernel
theorem dX3_outcomeAt_16 : decode cX3_outcomeAt 16 = .ok (.ireturn, 1) := by decide +kernel
theorem dX3_outcomeAt_17 : decode cX3_outcomeAt 17 = .ok (.aload_n 0, 1) := by decide +kernel
theorem dX3_outcomeAt_18 : decode cX3_outcomeAt 18 = .ok (.getfield 35, 3) := by decide +kernel
theorem dX3_outcomeAt_21 : decode cX3_outcomeAt 21 = .ok (.ifCond .eq 8, 3) := by decide +kernel
theorem dX3_outcomeAt_24 : decode cX3_outcomeAt 24 = .ok (.aload_n 0, 1) := by decide +kernel
theorem dX3_outcomeAt_25 : decode cX3_outcomeAt 25 = .ok (.getfield 35, 3) := by decide +kernel
theorem dX3_outcomeAt_28 : decode cX3_outcomeAt 28 = .ok (.ireturn, 1) := by decide +kernel
theorem dX3_outcomeAt_29 : decode cX3_outcomeAt 29 = .ok (.iload_n 1, 1) := by decide +kernel
theorem dX3_outcomeAt_30 : decode cX3_outcomeAt 30 = .ok (.aload_n 0, 1) := by decide +kernel
theorem dX3_outcomeAt_31 : decode cX3_outcomeAt 31 = .ok (.getfield 41, 3) := by decide +kernel
theorem dX3_outcomeAt_34 : decode cX3_outcomeAt 34 = .ok (.if_icmp .ge 5, 3) := by decide +kernel
theorem dX3_outcomeAt_37 : decode cX3_outcomeAt 37 = .ok (.iconst 3, 1) := by decide +kernel
theorem dX3_outcomeAt_38 : decode cX3_outcomeAt 38 = .ok (.ireturn, 1) := by decide +kernel
theorem dX3_outcomeAt_39 : decode cX3_outcomeAt 39 = .ok (.iload_n 1, 1) := by decide +kernel
theorem dX3_outcomeAt_40 : decode cX3_outcomeAt 40 = .ok (.aload_n 0, 1) := by decide +kernel
theorem dX3_outcomeAt_41 : decode cX3_outcomeAt 41 = .ok (.getfield 44, 3) := by decide +kernel
theorem dX3_outcomeAt_44 : decode cX3_outcomeAt 44 = .ok (.if_icmp .gt 7, 3) := by decide +kernel
theorem dX3_outcomeAt_47 : decode cX3_outcomeAt 47 = .ok (.iconst 0, 1) := by decide +kernel
theorem dX3_outcomeAt_48 : decode cX3_outcomeAt 48 = .ok (.goto 7, 3) := by decide +kernel
theorem dX3_outcomeAt_51 : decode cX3_outcomeAt 51 = .ok (.aload_n 0, 1) := by decide +kernel
theorem dX3_outcomeAt_52 : decode cX3_outcomeAt 52 = .ok (.getfield 53, 3) := by decide +kernel
theorem dX3_outcomeAt_55 : decode cX3_outcomeAt 55 = .ok (.ireturn, 1) := by decide +kernel
theorem dX3_isOnTheWay_0 : decode cX3_isOnTheWay 0 = .ok (.aload_n 0, 1) := by decide +kernel
theorem dX3_isOnTheWay_1 : decode cX3_isOnTheWay 1 = .ok (.iload_n 1, 1) := by decide +kernel
theorem dX3_isOnTheWay_2 : decode cX3_isOnTheWay 2 = .ok (.invokevirtual 125, 3) := by decide +kernel
theorem dX3_isOnTheWay_5 : decode cX3_isOnTheWay 5 = .ok (.istore_n 2, 1) := by decide +kernel
theorem dX3_isOnTheWay_6 : decode cX3_isOnTheWay 6 = .ok (.iload_n 2, 1) := by decide +kernel
theorem dX3_isOnTheWay_7 : decode cX3_isOnTheWay 7 = .ok (.ifCond .eq 13, 3) := by decide +kernel
theorem dX3_isOnTheWay_10 : decode cX3_isOnTheWay 10 = .ok (.iload_n 2, 1) := by decide +kernel
theorem dX3_isOnTheWay_11 : decode cX3_isOnTheWay 11 = .ok (.iconst 4, 1) := by decide +kernel
theorem dX3_isOnTheWay_12 : decode cX3_isOnTheWay 12 = .ok (.if_icmp .eq 8, 3) := by decide +kernel
theorem dX3_isOnTheWay_15 : decode cX3_isOnTheWay 15 = .ok (.iload_n 2, 1) := by decide +kernel
theorem dX3_isOnTheWay_16 : decode cX3_isOnTheWay 16 = .ok (.iconst 5, 1) := by decide +kernel
theorem dX3_isOnTheWay_17 : decode cX3_isOnTheWay 17 = .ok (.if_icmp .ne 7, 3) := by decide +kernel
theorem dX3_isOnTheWay_20 : decode cX3_isOnTheWay 20 = .ok (.iconst 1, 1) := by decide +kernel
theorem dX3_isOnTheWay_21 : decode cX3_isOnTheWay 21 = .ok (.goto 4, 3) := by decide +kernel
theorem dX3_isOnTheWay_24 : decode cX3_isOnTheWay 24 = .ok (.iconst 0, 1) := by decide +kernel
theorem dX3_isOnTheWay_25 : decode cX3_isOnTheWay 25 = .ok (.ireturn, 1) := by decide +kernel
theorem dX3_neededTo_0 : decode cX3_neededTo 0 = .ok (.aload_n 0, 1) := by decide +kernel
theorem dX3_neededTo_1 : decode cX3_neededTo 1 = .ok (.getfield 38, 3) := by decide +kernel
theorem dX3_neededTo_4 : decode cX3_neededTo 4 = .ok (.bipush (-2), 2) := by decide +kernel
theorem dX3_neededTo_6 : decode cX3_neededTo 6 = .ok (.if_icmp .eq 11, 3) := by decide +kernel
theorem dX3_neededTo_9 : decode cX3_neededTo 9 = .ok (.iload_n 1, 1) := by decide +kernel
theorem dX3_neededTo_10 : decode cX3_neededTo 10 = .ok (.aload_n 0, 1) := by decide +kernel
theorem dX3_neededTo_11 : decode cX3_neededTo 11 = .ok (.getfield 38, 3) := by decide +kernel
theorem dX3_neededTo_14 : decode cX3_neededTo 14 = .ok (.if_icmp .ge 7, 3) := by decide +kernel
theorem dX3_neededTo_17 : decode cX3_neededTo 17 = .ok (.iconst 0, 1) := by decide +kernel
theorem dX3_neededTo_18 : decode cX3_neededTo 18 = .ok (.goto 11, 3) := by decide +kernel
theorem dX3_neededTo_21 : decode cX3_neededTo 21 = .ok (.iload_n 1, 1) := by decide +kernel
theorem dX3_neededTo_22 : decode cX3_neededTo 22 = .ok (.aload_n 0, 1) := by decide +kernel
theorem dX3_neededTo_23 : decode cX3_neededTo 23 = .ok (.getfield 38, 3) := by decide +kernel
theorem dX3_neededTo_26 : decode cX3_neededTo 26 = .ok (.isub, 1) := by decide +kernel
theorem dX3_neededTo_27 : decode cX3_neededTo 27 = .ok (.iconst 1, 1) := by decide +kernel
theorem dX3_neededTo_28 : decode cX3_neededTo 28 = .ok (.iadd, 1) := by decide +kernel
theorem dX3_neededTo_29 : decode cX3_neededTo 29 = .ok (.ireturn, 1) := by decide +kernel
theorem dX3_changesTo_0 : decode cX3_changesTo 0 = .ok (.iload_n 1, 1) := by decide +kernel
theorem dX3_changesTo_1 : decode cX3_changesTo 1 = .ok (.aload_n 0, 1) := by decide +kernel
theorem dX3_changesTo_2 : decode cX3_changesTo 2 = .ok (.getfield 21, 3) := by decide +kernel
theorem dX3_changesTo_5 : decode cX3_changesTo 5 = .ok (.aload_n 0, 1) := by decide +kernel
theorem dX3_changesTo_6 : decode cX3_changesTo 6 = .ok (.getfield 31, 3) := by decide +kernel
theorem dX3_changesTo_9 : decode cX3_changesTo 9 = .ok (.invokevirtual 79, 3) := by decide +kernel
theorem dX3_changesTo_12 : decode cX3_changesTo 12 = .ok (.invokestatic 128, 3) := by decide +kernel
theorem dX3_changesTo_15 : decode cX3_changesTo 15 = .ok (.istore_n 2, 1) := by decide +kernel
theorem dX3_changesTo_16 : decode cX3_changesTo 16 = .ok (.iconst 0, 1) := by decide +kernel
theorem dX3_changesTo_17 : decode cX3_changesTo 17 = .ok (.istore_n 3, 1) := by decide +kernel
theorem dX3_changesTo_18 : decode cX3_changesTo 18 = .ok (.aload_n 0, 1) := by decide +kernel
theorem dX3_changesTo_19 : decode cX3_changesTo 19 = .ok (.getfield 38, 3) := by decide +kernel
theorem dX3_changesTo_22 : decode cX3_changesTo 22 = .ok (.iconst 1, 1) := by decide +kernel
theorem dX3_changesTo_23 : decode cX3_changesTo 23 = .ok (.invokestatic 92, 3) := by decide +kernel
theorem dX3_changesTo_26 : decode cX3_changesTo 26 = .ok (.istore 4, 2) := by decide +kernel
theorem dX3_changesTo_28 : decode cX3_changesTo 28 = .ok (.iload 4, 2) := by decide +kernel
theorem dX3_changesTo_30 : decode cX3_changesTo 30 = .ok (.iload_n 2, 1) := by decide +kernel
theorem dX3_changesTo_31 : decode cX3_changesTo 31 = .ok (.if_icmp .gt 39, 3) := by decide +kernel
theorem dX3_changesTo_34 : decode cX3_changesTo 34 = .ok (.iload_n 3, 1) := by decide +kernel
theorem dX3_changesTo_35 : decode cX3_changesTo 35 = .ok (.aload_n 0, 1) := by decide +kernel
theorem dX3_changesTo_36 : decode cX3_changesTo 36 = .ok (.aload_n 0, 1) := by decide +kernel
theorem dX3_changesTo_37 : decode cX3_changesTo 37 = .ok (.getfield 21, 3) := by decide +kernel
theorem dX3_changesTo_40 : decode cX3_changesTo 40 = .ok (.aload_n 0, 1) := by decide +kernel
theorem dX3_changesTo_41 : decode cX3_changesTo 41 = .ok (.getfield 31, 3) := by decide +kernel
theorem dX3_changesTo_44 : decode cX3_changesTo 44 = .ok (.iload 4, 2) := by decide +kernel
theorem dX3_changesTo_46 : decode cX3_changesTo 46 = .ok (.invokevirtual 104, 3) := by decide +kernel
theorem dX3_changesTo_49 : decode cX3_changesTo 49 = .ok (.iload 4, 2) := by decide +kernel
theorem dX3_changesTo_51 : decode cX3_changesTo 51 = .ok (.invokevirtual 107, 3) := by decide +kernel
theorem dX3_changesTo_54 : decode cX3_changesTo 54 = .ok (.ifCond .eq 7, 3) := by decide +kernel
theorem dX3_changesTo_57 : decode cX3_changesTo 57 = .ok (.iconst 1, 1) := by decide +kernel
theorem dX3_changesTo_58 : decode cX3_changesTo 58 = .ok (.goto 4, 3) := by decide +kernel
theorem dX3_changesTo_61 : decode cX3_changesTo 61 = .ok (.iconst 0, 1) := by decide +kernel
theorem dX3_changesTo_62 : decode cX3_changesTo 62 = .ok (.iadd, 1) := by decide +kernel
theorem dX3_changesTo_63 : decode cX3_changesTo 63 = .ok (.istore_n 3, 1) := by decide +kernel
theorem dX3_changesTo_64 : decode cX3_changesTo 64 = .ok (.iinc 4 1, 3) := by decide +kernel
theorem dX3_changesTo_67 : decode cX3_changesTo 67 = .ok (.goto (-39), 3) := by decide +kernel
theorem dX3_changesTo_70 : decode cX3_changesTo 70 = .ok (.iload_n 3, 1) := by decide +kernel
theorem dX3_changesTo_71 : decode cX3_changesTo 71 = .ok (.ireturn, 1) := by decide +kernel
theorem dX3_placesReached_0 : decode cX3_placesReached 0 = .ok (.iconst 0, 1) := by decide +kernel
theorem dX3_placesReached_1 : decode cX3_placesReached 1 = .ok (.aload_n 0, 1) := by decide +kernel
theorem dX3_placesReached_2 : decode cX3_placesReached 2 = .ok (.getfield 44, 3) := by decide +kernel
theorem dX3_placesReached_5 : decode cX3_placesReached 5 = .ok (.aload_n 0, 1) := by decide +kernel
theorem dX3_placesReached_6 : decode cX3_placesReached 6 = .ok (.getfield 41, 3) := by decide +kernel
theorem dX3_placesReached_9 : decode cX3_placesReached 9 = .ok (.isub, 1) := by decide +kernel
theorem dX3_placesReached_10 : decode cX3_placesReached 10 = .ok (.iconst 1, 1) := by decide +kernel
theorem dX3_placesReached_11 : decode cX3_placesReached 11 = .ok (.iadd, 1) := by decide +kernel
theorem dX3_placesReached_12 : decode cX3_placesReached 12 = .ok (.invokestatic 92, 3) := by decide +kernel
theorem dX3_placesReached_15 : decode cX3_placesReached 15 = .ok (.ireturn, 1) := by decide +kernel
theorem dX5_init_0 : decode cX5_init 0 = .ok (.aload_n 0, 1) := by decide +kernel
theorem dX5_init_1 : decode cX5_init 1 = .ok (.invokespecial 3, 3) := by decide +kernel
theorem dX5_init_4 : decode cX5_init 4 = .ok (.aload_n 0, 1) := by decide +kernel
theorem dX5_init_5 : decode cX5_init 5 = .ok (.iconst 4, 1) := by decide +kernel
theorem dX5_init_6 : decode cX5_init 6 = .ok (.putfield 9, 3) := by decide +kernel
theorem dX5_init_9 : decode cX5_init 9 = .ok (.aload_n 0, 1) := by decide +kernel
theorem dX5_init_10 : decode cX5_init 10 = .ok (.new 15, 3) := by decide +kernel
theorem dX5_init_13 : decode cX5_init 13 = .ok (.dup, 1) := by decide +kernel
theorem dX5_init_14 : decode cX5_init 14 = .ok (.invokespecial 17, 3) := by decide +kernel
theorem dX5_init_17 : decode cX5_init 17 = .ok (.putfield 18, 3) := by decide +kernel
theorem dX5_init_20 : decode cX5_init 20 = .ok (.aload_n 0, 1) := by decide +kernel
theorem dX5_init_21 : decode cX5_init 21 = .ok (.new 22, 3) := by decide +kernel
theorem dX5_init_24 : decode cX5_init 24 = .ok (.dup, 1) := by decide +kernel
theorem dX5_init_25 : decode cX5_init 25 = .ok (.invokespecial 24, 3) := by decide +kernel
theorem dX5_init_28 : decode cX5_init 28 = .ok (.putfield 25, 3) := by decide +kernel
theorem dX5_init_31 : decode cX5_init 31 = .ok (.return_, 1) := by decide +kernel
theorem dX5_begin_0 : decode cX5_begin 0 = .ok (.aload_n 0, 1) := by decide +kernel
theorem dX5_begin_1 : decode cX5_begin 1 = .ok (.iload_n 1, 1) := by decide +kernel
theorem dX5_begin_2 : decode cX5_begin 2 = .ok (.putfield 9, 3) := by decide +kernel
theorem dX5_begin_5 : decode cX5_begin 5 = .ok (.aload_n 0, 1) := by decide +kernel
theorem dX5_begin_6 : decode cX5_begin 6 = .ok (.getfield 18, 3) := by decide +kernel
theorem dX5_begin_9 : decode cX5_begin 9 = .ok (.iload_n 2, 1) := by decide +kernel
theorem dX5_begin_10 : decode cX5_begin 10 = .ok (.invokevirtual 29, 3) := by decide +kernel
theorem dX5_begin_13 : decode cX5_begin 13 = .ok (.aload_n 0, 1) := by decide +kernel
theorem dX5_begin_14 : decode cX5_begin 14 = .ok (.getfield 25, 3) := by decide +kernel
theorem dX5_begin_17 : decode cX5_begin 17 = .ok (.invokevirtual 33, 3) := by decide +kernel
theorem dX5_begin_20 : decode cX5_begin 20 = .ok (.return_, 1) := by decide +kernel
theorem dX5_become_0 : decode cX5_become 0 = .ok (.aload_n 0, 1) := by decide +kernel
theorem dX5_become_1 : decode cX5_become 1 = .ok (.aload_n 1, 1) := by decide +kernel
theorem dX5_become_2 : decode cX5_become 2 = .ok (.getfield 9, 3) := by decide +kernel
theorem dX5_become_5 : decode cX5_become 5 = .ok (.putfield 9, 3) := by decide +kernel
theorem dX5_become_8 : decode cX5_become 8 = .ok (.aload_n 0, 1) := by decide +kernel
theorem dX5_become_9 : decode cX5_become 9 = .ok (.getfield 18, 3) := by decide +kernel
theorem dX5_become_12 : decode cX5_become 12 = .ok (.aload_n 1, 1) := by decide +kernel
theorem dX5_become_13 : decode cX5_become 13 = .ok (.getfield 18, 3) := by decide +kernel
theorem dX5_become_16 : decode cX5_become 16 = .ok (.invokevirtual 36, 3) := by decide +kernel
theorem dX5_become_19 : decode cX5_become 19 = .ok (.aload_n 0, 1) := by decide +kernel
theorem dX5_become_20 : decode cX5_become 20 = .ok (.getfield 25, 3) := by decide +kernel
theorem dX5_become_23 : decode cX5_become 23 = .ok (.aload_n 1, 1) := by decide +kernel
theorem dX5_become_24 : decode cX5_become 24 = .ok (.getfield 25, 3) := by decide +kernel
theorem dX5_become_27 : decode cX5_become 27 = .ok (.invokevirtual 40, 3) := by decide +kernel
theorem dX5_become_30 : decode cX5_become 30 = .ok (.return_, 1) := by decide +kernel
theorem dX5_hasPage_0 : decode cX5_hasPage 0 = .ok (.iload_n 1, 1) := by decide +kernel
theorem dX5_hasPage_1 : decode cX5_hasPage 1 = .ok (.ifCond .lt 15, 3) := by decide +kernel
theorem dX5_hasPage_4 : decode cX5_hasPage 4 = .ok (.iload_n 1, 1) := by decide +kernel
theorem dX5_hasPage_5 : decode cX5_hasPage 5 = .ok (.aload_n 0, 1) := by decide +kernel
theorem dX5_hasPage_6 : decode cX5_hasPage 6 = .ok (.getfield 9, 3) := by decide +kernel
theorem dX5_hasPage_9 : decode cX5_hasPage 9 = .ok (.if_icmp .ge 7, 3) := by decide +kernel
theorem dX5_hasPage_12 : decode cX5_hasPage 12 = .ok (.iconst 1, 1) := by decide +kernel
theorem dX5_hasPage_13 : decode cX5_hasPage 13 = .ok (.goto 4, 3) := by decide +kernel
theorem dX5_hasPage_16 : decode cX5_hasPage 16 = .ok (.iconst 0, 1) := by decide +kernel
theorem dX5_hasPage_17 : decode cX5_hasPage 17 = .ok (.ireturn, 1) := by decide +kernel
theorem dX6_init_0 : decode cX6_init 0 = .ok (.aload_n 0, 1) := by decide +kernel
theorem dX6_init_1 : decode cX6_init 1 = .ok (.invokespecial 3, 3) := by decide +kernel
theorem dX6_init_4 : decode cX6_init 4 = .ok (.aload_n 0, 1) := by decide +kernel
theorem dX6_init_5 : decode cX6_init 5 = .ok (.iconst 0, 1) := by decide +kernel
theorem dX6_init_6 : decode cX6_init 6 = .ok (.putfield 9, 3) := by decide +kernel
theorem dX6_init_9 : decode cX6_init 9 = .ok (.aload_n 0, 1) := by decide +kernel
theorem dX6_init_10 : decode cX6_init 10 = .ok (.sipush 402, 3) := by decide +kernel
theorem dX6_init_13 : decode cX6_init 13 = .ok (.newarray .int, 2) := by decide +kernel
theorem dX6_init_15 : decode cX6_init 15 = .ok (.putfield 15, 3) := by decide +kernel
theorem dX6_init_18 : decode cX6_init 18 = .ok (.aload_n 0, 1) := by decide +kernel
theorem dX6_init_19 : decode cX6_init 19 = .ok (.sipush 402, 3) := by decide +kernel
theorem dX6_init_22 : decode cX6_init 22 = .ok (.newarray .int, 2) := by decide +kernel
theorem dX6_init_24 : decode cX6_init 24 = .ok (.putfield 19, 3) := by decide +kernel
theorem dX6_init_27 : decode cX6_init 27 = .ok (.aload_n 0, 1) := by decide +kernel
theorem dX6_init_28 : decode cX6_init 28 = .ok (.sipush 402, 3) := by decide +kernel
theorem dX6_init_31 : decode cX6_init 31 = .ok (.newarray .int, 2) := by decide +kernel
theorem dX6_init_33 : decode cX6_init 33 = .ok (.putfield 22, 3) := by decide +kernel
theorem dX6_init_36 : decode cX6_init 36 = .ok (.return_, 1) := by decide +kernel
theorem dX6_scan_0 : decode cX6_scan 0 = .ok (.iload_n 2, 1) := by decide +kernel
theorem dX6_scan_1 : decode cX6_scan 1 = .ok (.aload_n 1, 1) := by decide +kernel
theorem dX6_scan_2 : decode cX6_scan 2 = .ok (.arraylength, 1) := by decide +kernel
theorem dX6_scan_3 : decode cX6_scan 3 = .ok (.invokestatic 25, 3) := by decide +kernel
theorem dX6_scan_6 : decode cX6_scan 6 = .ok (.istore_n 3, 1) := by decide +kernel
theorem dX6_scan_7 : decode cX6_scan 7 = .ok (.iconst 0, 1) := by decide +kernel
theorem dX6_scan_8 : decode cX6_scan 8 = .ok (.istore 4, 2) := by decide +kernel
theorem dX6_scan_10 : decode cX6_scan 10 = .ok (.aload_n 0, 1) := by decide +kernel
theorem dX6_scan_11 : decode cX6_scan 11 = .ok (.iconst 0, 1) := by decide +kernel
theorem dX6_scan_12 : decode cX6_scan 12 = .ok (.putfield 9, 3) := by decide +kernel
theorem dX6_scan_15 : decode cX6_scan 15 = .ok (.iconst 0, 1) := by decide +kernel
theorem dX6_scan_16 : decode cX6_scan 16 = .ok (.istore 5, 2) := by decide +kernel
theorem dX6_scan_18 : decode cX6_scan 18 = .ok (.iload 5, 2) := by decide +kernel
theorem dX6_scan_20 : decode cX6_scan 20 = .ok (.sipush 2000, 3) := by decide +kernel
theorem dX6_scan_23 : decode cX6_scan 23 = .ok (.if_icmp .ge 107, 3) := by decide +kernel
theorem dX6_scan_26 : decode cX6_scan 26 = .ok (.iload 4, 2) := by decide +kernel
theorem dX6_scan_28 : decode cX6_scan 28 = .ok (.iload_n 3, 1) := by decide +kernel
theorem dX6_scan_29 : decode cX6_scan 29 = .ok (.if_icmp .ge 101, 3) := by decide +kernel
theorem dX6_scan_32 : decode cX6_scan 32 = .ok (.aload_n 0, 1) := by decide +kernel
theorem dX6_scan_33 : decode cX6_scan 33 = .ok (.getfield 9, 3) := by decide +kernel
theorem dX6_scan_36 : decode cX6_scan 36 = .ok (.sipush 400, 3) := by decide +kernel
theorem dX6_scan_39 : decode cX6_scan 39 = .ok (.if_icmp .gt 91, 3) := by decide +kernel
theorem dX6_scan_42 : decode cX6_scan 42 = .ok (.aload_n 1, 1) := by decide +kernel
theorem dX6_scan_43 : decode cX6_scan 43 = .ok (.iload 4, 2) := by decide +kernel
theorem dX6_scan_45 : decode cX6_scan 45 = .ok (.baload, 1) := by decide +kernel
theorem dX6_scan_46 : decode cX6_scan 46 = .ok (.sipush 255, 3) := by decide +kernel
theorem dX6_scan_49 : decode cX6_scan 49 = .ok (.iand, 1) := by decide +kernel
theorem dX6_scan_50 : decode cX6_scan 50 = .ok (.istore 6, 2) := by decide +kernel
theorem dX6_scan_52 : decode cX6_scan 52 = .ok (.iload 6, 2) := by decide +kernel
theorem dX6_scan_54 : decode cX6_scan 54 = .ok (.invokestatic 31, 3) := by decide +kernel
theorem dX6_scan_57 : decode cX6_scan 57 = .ok (.ifCond .eq 9, 3) := by decide +kernel
theorem dX6_scan_60 : decode cX6_scan 60 = .ok (.iinc 4 1, 3) := by decide +kernel
theorem dX6_scan_63 : decode cX6_scan 63 = .ok (.goto 61, 3) := by decide +kernel
theorem dX6_scan_66 : decode cX6_scan 66 = .ok (.aload_n 1, 1) := by decide +kernel
theorem dX6_scan_67 : decode cX6_scan 67 = .ok (.iload 4, 2) := by decide +kernel
theorem dX6_scan_69 : decode cX6_scan 69 = .ok (.iload_n 3, 1) := by decide +kernel
theorem dX6_scan_70 : decode cX6_scan 70 = .ok (.invokestatic 35, 3) := by decide +kernel
theorem dX6_scan_73 : decode cX6_scan 73 = .ok (.istore 7, 2) := by decide +kernel
theorem dX6_scan_75 : decode cX6_scan 75 = .ok (.aload_n 1, 1) := by decide +kernel
theorem dX6_scan_76 : decode cX6_scan 76 = .ok (.iload 4, 2) := by decide +kernel
theorem dX6_scan_78 : decode cX6_scan 78 = .ok (.iload 7, 2) := by decide +kernel
theorem dX6_scan_80 : decode cX6_scan 80 = .ok (.invokestatic 39, 3) := by decide +kernel
theorem dX6_scan_83 : decode cX6_scan 83 = .ok (.istore 8, 2) := by decide +kernel
theorem dX6_scan_85 : decode cX6_scan 85 = .ok (.aload_n 0, 1) := by decide +kernel
theorem dX6_scan_86 : decode cX6_scan 86 = .ok (.iload 8, 2) := by decide +kernel
theorem dX6_scan_88 : decode cX6_scan 88 = .ok (.iload 8, 2) := by decide +kernel
theorem dX6_scan_90 : decode cX6_scan 90 = .ok (.bipush 20, 2) := by decide +kernel
theorem dX6_scan_92 : decode cX6_scan 92 = .ok (.if_icmp .ne 14, 3) := by decide +kernel
theorem dX6_scan_95 : decode cX6_scan 95 = .ok (.aload_n 1, 1) := by decide +kernel
theorem dX6_scan_96 : decode cX6_scan 96 = .ok (.iload 4, 2) := by decide +kernel
theorem dX6_scan_98 : decode cX6_scan 98 = .ok (.iload 7, 2) := by decide +kernel
theorem dX6_scan_100 : decode cX6_scan 100 = .ok (.invokestatic 42, 3) := by decide +kernel
theorem dX6_scan_103 : decode cX6_scan 103 = .ok (.goto 4, 3) := by decide +kernel
theorem dX6_scan_106 : decode cX6_scan 106 = .ok (.iconst 0, 1) := by decide +kernel
theorem dX6_scan_107 : decode cX6_scan 107 = .ok (.iload 4, 2) := by decide +kernel
theorem dX6_scan_109 : decode cX6_scan 109 = .ok (.invokevirtual 45, 3) := by decide +kernel
theorem dX6_scan_112 : decode cX6_scan 112 = .ok (.iload 8, 2) := by decide +kernel
theorem dX6_scan_114 : decode cX6_scan 114 = .ok (.bipush 30, 2) := by decide +kernel
theorem dX6_scan_116 : decode cX6_scan 116 = .ok (.if_icmp .ne 4, 3) := by decide +kernel
theorem dX6_scan_119 : decode cX6_scan 119 = .ok (.return_, 1) := by decide +kernel
theorem dX6_scan_120 : decode cX6_scan 120 = .ok (.iload 7, 2) := by decide +kernel
theorem dX6_scan_122 : decode cX6_scan 122 = .ok (.istore 4, 2) := by decide +kernel
theorem dX6_scan_124 : decode cX6_scan 124 = .ok (.iinc 5 1, 3) := by decide +kernel
theorem dX6_scan_127 : decode cX6_scan 127 = .ok (.goto (-109), 3) := by decide +kernel
theorem dX6_scan_130 : decode cX6_scan 130 = .ok (.aload_n 0, 1) := by decide +kernel
theorem dX6_scan_131 : decode cX6_scan 131 = .ok (.bipush 29, 2) := by decide +kernel
theorem dX6_scan_133 : decode cX6_scan 133 = .ok (.iconst 0, 1) := by decide +kernel
theorem dX6_scan_134 : decode cX6_scan 134 = .ok (.iload_n 3, 1) := by decide +kernel
theorem dX6_scan_135 : decode cX6_scan 135 = .ok (.invokevirtual 45, 3) := by decide +kernel
theorem dX6_scan_138 : decode cX6_scan 138 = .ok (.return_, 1) := by decide +kernel
theorem dX6_put_0 : decode cX6_put 0 = .ok (.aload_n 0, 1) := by decide +kernel
theorem dX6_put_1 : decode cX6_put 1 = .ok (.getfield 9, 3) := by decide +kernel
theorem dX6_put_4 : decode cX6_put 4 = .ok (.ifCond .lt 55, 3) := by decide +kernel
theorem dX6_put_7 : decode cX6_put 7 = .ok (.aload_n 0, 1) := by decide +kernel
theorem dX6_put_8 : decode cX6_put 8 = .ok (.getfield 9, 3) := by decide +kernel
theorem dX6_put_11 : decode cX6_put 11 = .ok (.aload_n 0, 1) := by decide +kernel
theorem dX6_put_12 : decode cX6_put 12 = .ok (.getfield 15, 3) := by decide +kernel
theorem dX6_put_15 : decode cX6_put 15 = .ok (.arraylength, 1) := by decide +kernel
theorem dX6_put_16 : decode cX6_put 16 = .ok (.if_icmp .ge 43, 3) := by decide +kernel
theorem dX6_put_19 : decode cX6_put 19 = .ok (.aload_n 0, 1) := by decide +kernel
theorem dX6_put_20 : decode cX6_put 20 = .ok (.getfield 15, 3) := by decide +kernel
theorem dX6_put_23 : decode cX6_put 23 = .ok (.aload_n 0, 1) := by decide +kernel
theorem dX6_put_24 : decode cX6_put 24 = .ok (.getfield 9, 3) := by decide +kernel
theorem dX6_put_27 : decode cX6_put 27 = .ok (.iload_n 1, 1) := by decide +kernel
theorem dX6_put_28 : decode cX6_put 28 = .ok (.iastore, 1) := by decide +kernel
theorem dX6_put_29 : decode cX6_put 29 = .ok (.aload_n 0, 1) := by decide +kernel
theorem dX6_put_30 : decode cX6_put 30 = .ok (.getfield 19, 3) := by decide +kernel
theorem dX6_put_33 : decode cX6_put 33 = .ok (.aload_n 0, 1) := by decide +kernel
theorem dX6_put_34 : decode cX6_put 34 = .ok (.getfield 9, 3) := by decide +kernel
theorem dX6_put_37 : decode cX6_put 37 = .ok (.iload_n 2, 1) := by decide +kernel
theorem dX6_put_38 : decode cX6_put 38 = .ok (.iastore, 1) := by decide +kernel
theorem dX6_put_39 : decode cX6_put 39 = .ok (.aload_n 0, 1) := by decide +kernel
theorem dX6_put_40 : decode cX6_put 40 = .ok (.getfield 22, 3) := by decide +kernel
theorem dX6_put_43 : decode cX6_put 43 = .ok (.aload_n 0, 1) := by decide +kernel
theorem dX6_put_44 : decode cX6_put 44 = .ok (.getfield 9, 3) := by decide +kernel
theorem dX6_put_47 : decode cX6_put 47 = .ok (.iload_n 3, 1) := by decide +kernel
theorem dX6_put_48 : decode cX6_put 48 = .ok (.iastore, 1) := by decide +kernel
theorem dX6_put_49 : decode cX6_put 49 = .ok (.aload_n 0, 1) := by decide +kernel
theorem dX6_put_50 : decode cX6_put 50 = .ok (.dup, 1) := by decide +kernel
theorem dX6_put_51 : decode cX6_put 51 = .ok (.getfield 9, 3) := by decide +kernel
theorem dX6_put_54 : decode cX6_put 54 = .ok (.iconst 1, 1) := by decide +kernel
theorem dX6_put_55 : decode cX6_put 55 = .ok (.iadd, 1) := by decide +kernel
theorem dX6_put_56 : decode cX6_put 56 = .ok (.putfield 9, 3) := by decide +kernel
theorem dX6_put_59 : decode cX6_put 59 = .ok (.return_, 1) := by decide +kernel
theorem dX6_isBlank_0 : decode cX6_isBlank 0 = .ok (.iload_n 0, 1) := by decide +kernel
theorem dX6_isBlank_1 : decode cX6_isBlank 1 = .ok (.bipush 9, 2) := by decide +kernel
theorem dX6_isBlank_3 : decode cX6_isBlank 3 = .ok (.if_icmp .eq 21, 3) := by decide +kernel
theorem dX6_isBlank_6 : decode cX6_isBlank 6 = .ok (.iload_n 0, 1) := by decide +kernel
theorem dX6_isBlank_7 : decode cX6_isBlank 7 = .ok (.bipush 10, 2) := by decide +kernel
theorem dX6_isBlank_9 : decode cX6_isBlank 9 = .ok (.if_icmp .eq 15, 3) := by decide +kernel
theorem dX6_isBlank_12 : decode cX6_isBlank 12 = .ok (.iload_n 0, 1) := by decide +kernel
theorem dX6_isBlank_13 : decode cX6_isBlank 13 = .ok (.bipush 13, 2) := by decide +kernel
theorem dX6_isBlank_15 : decode cX6_isBlank 15 = .ok (.if_icmp .eq 9, 3) := by decide +kernel
theorem dX6_isBlank_18 : decode cX6_isBlank 18 = .ok (.iload_n 0, 1) := by decide +kernel
theorem dX6_isBlank_19 : decode cX6_isBlank 19 = .ok (.bipush 32, 2) := by decide +kernel
theorem dX6_isBlank_21 : decode cX6_isBlank 21 = .ok (.if_icmp .ne 7, 3) := by decide +kernel
theorem dX6_isBlank_24 : decode cX6_isBlank 24 = .ok (.iconst 1, 1) := by decide +kernel
theorem dX6_isBlank_25 : decode cX6_isBlank 25 = .ok (.goto 4, 3) := by decide +kernel
theorem dX6_isBlank_28 : decode cX6_isBlank 28 = .ok (.iconst 0, 1) := by decide +kernel
theorem dX6_isBlank_29 : decode cX6_isBlank 29 = .ok (.ireturn, 1) := by decide +kernel
theorem dX6_isLetter_0 : decode cX6_isLetter 0 = .ok (.iload_n 0, 1) := by decide +kernel
theorem dX6_isLetter_1 : decode cX6_isLetter 1 = .ok (.bipush 97, 2) := by decide +kernel
theorem dX6_isLetter_3 : decode cX6_isLetter 3 = .ok (.if_icmp .lt 13, 3) := by decide +kernel
theorem dX6_isLetter_6 : decode cX6_isLetter 6 = .ok (.iload_n 0, 1) := by decide +kernel
theorem dX6_isLetter_7 : decode cX6_isLetter 7 = .ok (.bipush 122, 2) := by decide +kernel
theorem dX6_isLetter_9 : decode cX6_isLetter 9 = .ok (.if_icmp .gt 7, 3) := by decide +kernel
theorem dX6_isLetter_12 : decode cX6_isLetter 12 = .ok (.iconst 1, 1) := by decide +kernel
theorem dX6_isLetter_13 : decode cX6_isLetter 13 = .ok (.goto 4, 3) := by decide +kernel
theorem dX6_isLetter_16 : decode cX6_isLetter 16 = .ok (.iconst 0, 1) := by decide +kernel
theorem dX6_isLetter_17 : decode cX6_isLetter 17 = .ok (.ireturn, 1) := by decide +kernel
theorem dX6_isDigit_0 : decode cX6_isDigit 0 = .ok (.iload_n 0, 1) := by decide +kernel
theorem dX6_isDigit_1 : decode cX6_isDigit 1 = .ok (.bipush 48, 2) := by decide +kernel
theorem dX6_isDigit_3 : decode cX6_isDigit 3 = .ok (.if_icmp .lt 13, 3) := by decide +kernel
theorem dX6_isDigit_6 : decode cX6_isDigit 6 = .ok (.iload_n 0, 1) := by decide +kernel
theorem dX6_isDigit_7 : decode cX6_isDigit 7 = .ok (.bipush 57, 2) := by decide +kernel
theorem dX6_isDigit_9 : decode cX6_isDigit 9 = .ok (.if_icmp .gt 7, 3) := by decide +kernel
theorem dX6_isDigit_12 : decode cX6_isDigit 12 = .ok (.iconst 1, 1) := by decide +kernel
theorem dX6_isDigit_13 : decode cX6_isDigit 13 = .ok (.goto 4, 3) := by decide +kernel
theorem dX6_isDigit_16 : decode cX6_isDigit 16 = .ok (.iconst 0, 1) := by decide +kernel
theorem dX6_isDigit_17 : decode cX6_isDigit 17 = .ok (.ireturn, 1) := by decide +kernel
theorem dX6_endOfRun_0 : decode cX6_endOfRun 0 = .ok (.iload_n 1, 1) := by decide +kernel
theorem dX6_endOfRun_1 : decode cX6_endOfRun 1 = .ok (.istore_n 3, 1) := by decide +kernel
theorem dX6_endOfRun_2 : decode cX6_endOfRun 2 = .ok (.iload_n 3, 1) := by decide +kernel
theorem dX6_endOfRun_3 : decode cX6_endOfRun 3 = .ok (.iload_n 2, 1) := by decide +kernel
theorem dX6_endOfRun_4 : decode cX6_endOfRun 4 = .ok (.if_icmp .ge 22, 3) := by decide +kernel
theorem dX6_endOfRun_7 : decode cX6_endOfRun 7 = .ok (.aload_n 0, 1) := by decide +kernel
theorem dX6_endOfRun_8 : decode cX6_endOfRun 8 = .ok (.iload_n 3, 1) := by decide +kernel
theorem dX6_endOfRun_9 : decode cX6_endOfRun 9 = .ok (.baload, 1) := by decide +kernel
theorem dX6_endOfRun_10 : decode cX6_endOfRun 10 = .ok (.sipush 255, 3) := by decide +kernel
theorem dX6_endOfRun_13 : decode cX6_endOfRun 13 = .ok (.iand, 1) := by decide +kernel
theorem dX6_endOfRun_14 : decode cX6_endOfRun 14 = .ok (.invokestatic 49, 3) := by decide +kernel
theorem dX6_endOfRun_17 : decode cX6_endOfRun 17 = .ok (.ifCond .eq 9, 3) := by decide +kernel
theorem dX6_endOfRun_20 : decode cX6_endOfRun 20 = .ok (.iinc 3 1, 3) := by decide +kernel
theorem dX6_endOfRun_23 : decode cX6_endOfRun 23 = .ok (.goto (-21), 3) := by decide +kernel
theorem dX6_endOfRun_26 : decode cX6_endOfRun 26 = .ok (.iload_n 3, 1) := by decide +kernel
theorem dX6_endOfRun_27 : decode cX6_endOfRun 27 = .ok (.iload_n 1, 1) := by decide +kernel
theorem dX6_endOfRun_28 : decode cX6_endOfRun 28 = .ok (.if_icmp .le 5, 3) := by decide +kernel
theorem dX6_endOfRun_31 : decode cX6_endOfRun 31 = .ok (.iload_n 3, 1) := by decide +kernel
theorem dX6_endOfRun_32 : decode cX6_endOfRun 32 = .ok (.ireturn, 1) := by decide +kernel
theorem dX6_endOfRun_33 : decode cX6_endOfRun 33 = .ok (.iload_n 3, 1) := by decide +kernel
theorem dX6_endOfRun_34 : decode cX6_endOfRun 34 = .ok (.iload_n 2, 1) := by decide +kernel
theorem dX6_endOfRun_35 : decode cX6_endOfRun 35 = .ok (.if_icmp .ge 22, 3) := by decide +kernel
theorem dX6_endOfRun_38 : decode cX6_endOfRun 38 = .ok (.aload_n 0, 1) := by decide +kernel
theorem dX6_endOfRun_39 : decode cX6_endOfRun 39 = .ok (.iload_n 3, 1) := by decide +kernel
theorem dX6_endOfRun_40 : decode cX6_endOfRun 40 = .ok (.baload, 1) := by decide +kernel
theorem dX6_endOfRun_41 : decode cX6_endOfRun 41 = .ok (.sipush 255, 3) := by decide +kernel
theorem dX6_endOfRun_44 : decode cX6_endOfRun 44 = .ok (.iand, 1) := by decide +kernel
theorem dX6_endOfRun_45 : decode cX6_endOfRun 45 = .ok (.invokestatic 52, 3) := by decide +kernel
theorem dX6_endOfRun_48 : decode cX6_endOfRun 48 = .ok (.ifCond .eq 9, 3) := by decide +kernel
theorem dX6_endOfRun_51 : decode cX6_endOfRun 51 = .ok (.iinc 3 1, 3) := by decide +kernel
theorem dX6_endOfRun_54 : decode cX6_endOfRun 54 = .ok (.goto (-21), 3) := by decide +kernel
theorem dX6_endOfRun_57 : decode cX6_endOfRun 57 = .ok (.iload_n 3, 1) := by decide +kernel
theorem dX6_endOfRun_58 : decode cX6_endOfRun 58 = .ok (.iload_n 1, 1) := by decide +kernel
theorem dX6_endOfRun_59 : decode cX6_endOfRun 59 = .ok (.if_icmp .le 7, 3) := by decide +kernel
theorem dX6_endOfRun_62 : decode cX6_endOfRun 62 = .ok (.iload_n 3, 1) := by decide +kernel
theorem dX6_endOfRun_63 : decode cX6_endOfRun 63 = .ok (.goto 6, 3) := by decide +kernel
theorem dX6_endOfRun_66 : decode cX6_endOfRun 66 = .ok (.iload_n 1, 1) := by decide +kernel
theorem dX6_endOfRun_67 : decode cX6_endOfRun 67 = .ok (.iconst 1, 1) := by decide +kernel
theorem dX6_endOfRun_68 : decode cX6_endOfRun 68 = .ok (.iadd, 1) := by decide +kernel
theorem dX6_endOfRun_69 : decode cX6_endOfRun 69 = .ok (.ireturn, 1) := by decide +kernel
theorem dX6_kindOf_0 : decode cX6_kindOf 0 = .ok (.aload_n 0, 1) := by decide +kernel
theorem dX6_kindOf_1 : decode cX6_kindOf 1 = .ok (.iload_n 1, 1) := by decide +kernel
theorem dX6_kindOf_2 : decode cX6_kindOf 2 = .ok (.baload, 1) := by decide +kernel
theorem dX6_kindOf_3 : decode cX6_kindOf 3 = .ok (.sipush 255, 3) := by decide +kernel
theorem dX6_kindOf_6 : decode cX6_kindOf 6 = .ok (.iand, 1) := by decide +kernel
theorem dX6_kindOf_7 : decode cX6_kindOf 7 = .ok (.istore_n 3, 1) := by decide +kernel
theorem dX6_kindOf_8 : decode cX6_kindOf 8 = .ok (.iload_n 3, 1) := by decide +kernel
theorem dX6_kindOf_9 : decode cX6_kindOf 9 = .ok (.invokestatic 49, 3) := by decide +kernel
theorem dX6_kindOf_12 : decode cX6_kindOf 12 = .ok (.ifCond .eq 10, 3) := by decide +kernel
theorem dX6_kindOf_15 : decode cX6_kindOf 15 = .ok (.aload_n 0, 1) := by decide +kernel
theorem dX6_kindOf_16 : decode cX6_kindOf 16 = .ok (.iload_n 1, 1) := by decide +kernel
theorem dX6_kindOf_17 : decode cX6_kindOf 17 = .ok (.iload_n 2, 1) := by decide +kernel
theorem dX6_kindOf_18 : decode cX6_kindOf 18 = .ok (.invokestatic 55, 3) := by decide +kernel
theorem dX6_kindOf_21 : decode cX6_kindOf 21 = .ok (.ireturn, 1) := by decide +kernel
theorem dX6_kindOf_22 : decode cX6_kindOf 22 = .ok (.iload_n 3, 1) := by decide +kernel
theorem dX6_kindOf_23 : decode cX6_kindOf 23 = .ok (.invokestatic 52, 3) := by decide +kernel
theorem dX6_kindOf_26 : decode cX6_kindOf 26 = .ok (.ifCond .eq 18, 3) := by decide +kernel
theorem dX6_kindOf_29 : decode cX6_kindOf 29 = .ok (.iload_n 2, 1) := by decide +kernel
theorem dX6_kindOf_30 : decode cX6_kindOf 30 = .ok (.iload_n 1, 1) := by decide +kernel
theorem dX6_kindOf_31 : decode cX6_kindOf 31 = .ok (.isub, 1) := by decide +kernel
theorem dX6_kindOf_32 : decode cX6_kindOf 32 = .ok (.iconst 4, 1) := by decide +kernel
theorem dX6_kindOf_33 : decode cX6_kindOf 33 = .ok (.if_icmp .le 8, 3) := by decide +kernel
theorem dX6_kindOf_36 : decode cX6_kindOf 36 = .ok (.bipush 30, 2) := by decide +kernel
theorem dX6_kindOf_38 : decode cX6_kindOf 38 = .ok (.goto 5, 3) := by decide +kernel
theorem dX6_kindOf_41 : decode cX6_kindOf 41 = .ok (.bipush 20, 2) := by decide +kernel
theorem dX6_kindOf_43 : decode cX6_kindOf 43 = .ok (.ireturn, 1) := by decide +kernel
theorem dX6_kindOf_44 : decode cX6_kindOf 44 = .ok (.ldc 58, 2) := by decide +kernel
theorem dX6_kindOf_46 : decode cX6_kindOf 46 = .ok (.iload_n 3, 1) := by decide +kernel
theorem dX6_kindOf_47 : decode cX6_kindOf 47 = .ok (.i2c, 1) := by decide +kernel
theorem dX6_kindOf_48 : decode cX6_kindOf 48 = .ok (.invokevirtual 60, 3) := by decide +kernel
theorem dX6_kindOf_51 : decode cX6_kindOf 51 = .ok (.istore 4, 2) := by decide +kernel
theorem dX6_kindOf_53 : decode cX6_kindOf 53 = .ok (.iload 4, 2) := by decide +kernel
theorem dX6_kindOf_55 : decode cX6_kindOf 55 = .ok (.ifCond .ge 8, 3) := by decide +kernel
theorem dX6_kindOf_58 : decode cX6_kindOf 58 = .ok (.bipush 30, 2) := by decide +kernel
theorem dX6_kindOf_60 : decode cX6_kindOf 60 = .ok (.goto 8, 3) := by decide +kernel
theorem dX6_kindOf_63 : decode cX6_kindOf 63 = .ok (.bipush 21, 2) := by decide +kernel
theorem dX6_kindOf_65 : decode cX6_kindOf 65 = .ok (.iload 4, 2) := by decide +kernel
theorem dX6_kindOf_67 : decode cX6_kindOf 67 = .ok (.iadd, 1) := by decide +kernel
theorem dX6_kindOf_68 : decode cX6_kindOf 68 = .ok (.ireturn, 1) := by decide +kernel
theorem dX6_wordAt_0 : decode cX6_wordAt 0 = .ok (.iload_n 2, 1) := by decide +kernel
theorem dX6_wordAt_1 : decode cX6_wordAt 1 = .ok (.iload_n 1, 1) := by decide +kernel
theorem dX6_wordAt_2 : decode cX6_wordAt 2 = .ok (.isub, 1) := by decide +kernel
theorem dX6_wordAt_3 : decode cX6_wordAt 3 = .ok (.bipush 8, 2) := by decide +kernel
theorem dX6_wordAt_5 : decode cX6_wordAt 5 = .ok (.if_icmp .le 6, 3) := by decide +kernel
theorem dX6_wordAt_8 : decode cX6_wordAt 8 = .ok (.bipush 30, 2) := by decide +kernel
theorem dX6_wordAt_10 : decode cX6_wordAt 10 = .ok (.ireturn, 1) := by decide +kernel
theorem dX6_wordAt_11 : decode cX6_wordAt 11 = .ok (.iconst 0, 1) := by decide +kernel
theorem dX6_wordAt_12 : decode cX6_wordAt 12 = .ok (.istore_n 3, 1) := by decide +kernel
theorem dX6_wordAt_13 : decode cX6_wordAt 13 = .ok (.iload_n 3, 1) := by decide +kernel
theorem dX6_wordAt_14 : decode cX6_wordAt 14 = .ok (.bipush 20, 2) := by decide +kernel
theorem dX6_wordAt_16 : decode cX6_wordAt 16 = .ok (.if_icmp .ge 21, 3) := by decide +kernel
theorem dX6_wordAt_19 : decode cX6_wordAt 19 = .ok (.aload_n 0, 1) := by decide +kernel
theorem dX6_wordAt_20 : decode cX6_wordAt 20 = .ok (.iload_n 1, 1) := by decide +kernel
theorem dX6_wordAt_21 : decode cX6_wordAt 21 = .ok (.iload_n 2, 1) := by decide +kernel
theorem dX6_wordAt_22 : decode cX6_wordAt 22 = .ok (.iload_n 3, 1) := by decide +kernel
theorem dX6_wordAt_23 : decode cX6_wordAt 23 = .ok (.invokestatic 66, 3) := by decide +kernel
theorem dX6_wordAt_26 : decode cX6_wordAt 26 = .ok (.ifCond .eq 5, 3) := by decide +kernel
theorem dX6_wordAt_29 : decode cX6_wordAt 29 = .ok (.iload_n 3, 1) := by decide +kernel
theorem dX6_wordAt_30 : decode cX6_wordAt 30 = .ok (.ireturn, 1) := by decide +kernel
theorem dX6_wordAt_31 : decode cX6_wordAt 31 = .ok (.iinc 3 1, 3) := by decide +kernel
theorem dX6_wordAt_34 : decode cX6_wordAt 34 = .ok (.goto (-21), 3) := by decide +kernel
theorem dX6_wordAt_37 : decode cX6_wordAt 37 = .ok (.bipush 30, 2) := by decide +kernel
theorem dX6_wordAt_39 : decode cX6_wordAt 39 = .ok (.ireturn, 1) := by decide +kernel
theorem dX6_isWord_0 : decode cX6_isWord 0 = .ok (.iconst 0, 1) := by decide +kernel
theorem dX6_isWord_1 : decode cX6_isWord 1 = .ok (.istore 4, 2) := by decide +kernel
theorem dX6_isWord_3 : decode cX6_isWord 3 = .ok (.iload 4, 2) := by decide +kernel
theorem dX6_isWord_5 : decode cX6_isWord 5 = .ok (.bipush 8, 2) := by decide +kernel
theorem dX6_isWord_7 : decode cX6_isWord 7 = .ok (.if_icmp .ge 53, 3) := by decide +kernel
theorem dX6_isWord_10 : decode cX6_isWord 10 = .ok (.iload_n 1, 1) := by decide +kernel
theorem dX6_isWord_11 : decode cX6_isWord 11 = .ok (.iload 4, 2) := by decide +kernel
theorem dX6_isWord_13 : decode cX6_isWord 13 = .ok (.iadd, 1) := by decide +kernel
theorem dX6_isWord_14 : decode cX6_isWord 14 = .ok (.iload_n 2, 1) := by decide +kernel
theorem dX6_isWord_15 : decode cX6_isWord 15 = .ok (.if_icmp .ge 16, 3) := by decide +kernel
theorem dX6_isWord_18 : decode cX6_isWord 18 = .ok (.aload_n 0, 1) := by decide +kernel
theorem dX6_isWord_19 : decode cX6_isWord 19 = .ok (.iload_n 1, 1) := by decide +kernel
theorem dX6_isWord_20 : decode cX6_isWord 20 = .ok (.iload 4, 2) := by decide +kernel
theorem dX6_isWord_22 : decode cX6_isWord 22 = .ok (.iadd, 1) := by decide +kernel
theorem dX6_isWord_23 : decode cX6_isWord 23 = .ok (.baload, 1) := by decide +kernel
theorem dX6_isWord_24 : decode cX6_isWord 24 = .ok (.sipush 255, 3) := by decide +kernel
theorem dX6_isWord_27 : decode cX6_isWord 27 = .ok (.iand, 1) := by decide +kernel
theorem dX6_isWord_28 : decode cX6_isWord 28 = .ok (.goto 5, 3) := by decide +kernel
theorem dX6_isWord_31 : decode cX6_isWord 31 = .ok (.bipush 32, 2) := by decide +kernel
theorem dX6_isWord_33 : decode cX6_isWord 33 = .ok (.istore 5, 2) := by decide +kernel
theorem dX6_isWord_35 : decode cX6_isWord 35 = .ok (.iload 5, 2) := by decide +kernel
theorem dX6_isWord_37 : decode cX6_isWord 37 = .ok (.ldc 70, 2) := by decide +kernel
theorem dX6_isWord_39 : decode cX6_isWord 39 = .ok (.iload_n 3, 1) := by decide +kernel
theorem dX6_isWord_40 : decode cX6_isWord 40 = .ok (.bipush 8, 2) := by decide +kernel
theorem dX6_isWord_42 : decode cX6_isWord 42 = .ok (.imul, 1) := by decide +kernel
theorem dX6_isWord_43 : decode cX6_isWord 43 = .ok (.iload 4, 2) := by decide +kernel
theorem dX6_isWord_45 : decode cX6_isWord 45 = .ok (.iadd, 1) := by decide +kernel
theorem dX6_isWord_46 : decode cX6_isWord 46 = .ok (.invokevirtual 72, 3) := by decide +kernel
theorem dX6_isWord_49 : decode cX6_isWord 49 = .ok (.if_icmp .eq 5, 3) := by decide +kernel
theorem dX6_isWord_52 : decode cX6_isWord 52 = .ok (.iconst 0, 1) := by decide +kernel
theorem dX6_isWord_53 : decode cX6_isWord 53 = .ok (.ireturn, 1) := by decide +kernel
theorem dX6_isWord_54 : decode cX6_isWord 54 = .ok (.iinc 4 1, 3) := by decide +kernel
theorem dX6_isWord_57 : decode cX6_isWord 57 = .ok (.goto (-54), 3) := by decide +kernel
theorem dX6_isWord_60 : decode cX6_isWord 60 = .ok (.iconst 1, 1) := by decide +kernel
theorem dX6_isWord_61 : decode cX6_isWord 61 = .ok (.ireturn, 1) := by decide +kernel
theorem dX6_numberOf_0 : decode cX6_numberOf 0 = .ok (.iconst 0, 1) := by decide +kernel
theorem dX6_numberOf_1 : decode cX6_numberOf 1 = .ok (.istore_n 3, 1) := by decide +kernel
theorem dX6_numberOf_2 : decode cX6_numberOf 2 = .ok (.iload_n 1, 1) := by decide +kernel
theorem dX6_numberOf_3 : decode cX6_numberOf 3 = .ok (.istore 4, 2) := by decide +kernel
theorem dX6_numberOf_5 : decode cX6_numberOf 5 = .ok (.iload 4, 2) := by decide +kernel
theorem dX6_numberOf_7 : decode cX6_numberOf 7 = .ok (.iload_n 2, 1) := by decide +kernel
theorem dX6_numberOf_8 : decode cX6_numberOf 8 = .ok (.if_icmp .ge 26, 3) := by decide +kernel
theorem dX6_numberOf_11 : decode cX6_numberOf 11 = .ok (.iload_n 3, 1) := by decide +kernel
theorem dX6_numberOf_12 : decode cX6_numberOf 12 = .ok (.bipush 10, 2) := by decide +kernel
theorem dX6_numberOf_14 : decode cX6_numberOf 14 = .ok (.imul, 1) := by decide +kernel
theorem dX6_numberOf_15 : decode cX6_numberOf 15 = .ok (.aload_n 0, 1) := by decide +kernel
theorem dX6_numberOf_16 : decode cX6_numberOf 16 = .ok (.iload 4, 2) := by decide +kernel
theorem dX6_numberOf_18 : decode cX6_numberOf 18 = .ok (.baload, 1) := by decide +kernel
theorem dX6_numberOf_19 : decode cX6_numberOf 19 = .ok (.sipush 255, 3) := by decide +kernel
theorem dX6_numberOf_22 : decode cX6_numberOf 22 = .ok (.iand, 1) := by decide +kernel
theorem dX6_numberOf_23 : decode cX6_numberOf 23 = .ok (.iadd, 1) := by decide +kernel
theorem dX6_numberOf_24 : decode cX6_numberOf 24 = .ok (.bipush 48, 2) := by decide +kernel
theorem dX6_numberOf_26 : decode cX6_numberOf 26 = .ok (.isub, 1) := by decide +kernel
theorem dX6_numberOf_27 : decode cX6_numberOf 27 = .ok (.istore_n 3, 1) := by decide +kernel
theorem dX6_numberOf_28 : decode cX6_numberOf 28 = .ok (.iinc 4 1, 3) := by decide +kernel
theorem dX6_numberOf_31 : decode cX6_numberOf 31 = .ok (.goto (-26), 3) := by decide +kernel
theorem dX6_numberOf_34 : decode cX6_numberOf 34 = .ok (.iload_n 3, 1) := by decide +kernel
theorem dX6_numberOf_35 : decode cX6_numberOf 35 = .ok (.ireturn, 1) := by decide +kernel
theorem dX6_kindAt_0 : decode cX6_kindAt 0 = .ok (.iload_n 1, 1) := by decide +kernel
theorem dX6_kindAt_1 : decode cX6_kindAt 1 = .ok (.ifCond .lt 20, 3) := by decide +kernel
theorem dX6_kindAt_4 : decode cX6_kindAt 4 = .ok (.iload_n 1, 1) := by decide +kernel
theorem dX6_kindAt_5 : decode cX6_kindAt 5 = .ok (.aload_n 0, 1) := by decide +kernel
theorem dX6_kindAt_6 : decode cX6_kindAt 6 = .ok (.getfield 9, 3) := by decide +kernel
theorem dX6_kindAt_9 : decode cX6_kindAt 9 = .ok (.if_icmp .ge 12, 3) := by decide +kernel
theorem dX6_kindAt_12 : decode cX6_kindAt 12 = .ok (.aload_n 0, 1) := by decide +kernel
theorem dX6_kindAt_13 : decode cX6_kindAt 13 = .ok (.getfield 15, 3) := by decide +kernel
theorem dX6_kindAt_16 : decode cX6_kindAt 16 = .ok (.iload_n 1, 1) := by decide +kernel
theorem dX6_kindAt_17 : decode cX6_kindAt 17 = .ok (.iaload, 1) := by decide +kernel
theorem dX6_kindAt_18 : decode cX6_kindAt 18 = .ok (.goto 5, 3) := by decide +kernel
theorem dX6_kindAt_21 : decode cX6_kindAt 21 = .ok (.bipush 30, 2) := by decide +kernel
theorem dX6_kindAt_23 : decode cX6_kindAt 23 = .ok (.ireturn, 1) := by decide +kernel
theorem dX6_numberAt_0 : decode cX6_numberAt 0 = .ok (.iload_n 1, 1) := by decide +kernel
theorem dX6_numberAt_1 : decode cX6_numberAt 1 = .ok (.ifCond .lt 20, 3) := by decide +kernel
theorem dX6_numberAt_4 : decode cX6_numberAt 4 = .ok (.iload_n 1, 1) := by decide +kernel
theorem dX6_numberAt_5 : decode cX6_numberAt 5 = .ok (.aload_n 0, 1) := by decide +kernel
theorem dX6_numberAt_6 : decode cX6_numberAt 6 = .ok (.getfield 9, 3) := by decide +kernel
theorem dX6_numberAt_9 : decode cX6_numberAt 9 = .ok (.if_icmp .ge 12, 3) := by decide +kernel
theorem dX6_numberAt_12 : decode cX6_numberAt 12 = .ok (.aload_n 0, 1) := by decide +kernel
theorem dX6_numberAt_13 : decode cX6_numberAt 13 = .ok (.getfield 19, 3) := by decide +kernel
theorem dX6_numberAt_16 : decode cX6_numberAt 16 = .ok (.iload_n 1, 1) := by decide +kernel
theorem dX6_numberAt_17 : decode cX6_numberAt 17 = .ok (.iaload, 1) := by decide +kernel
theorem dX6_numberAt_18 : decode cX6_numberAt 18 = .ok (.goto 4, 3) := by decide +kernel
theorem dX6_numberAt_21 : decode cX6_numberAt 21 = .ok (.iconst 0, 1) := by decide +kernel
theorem dX6_numberAt_22 : decode cX6_numberAt 22 = .ok (.ireturn, 1) := by decide +kernel
theorem dX6_placeAt_0 : decode cX6_placeAt 0 = .ok (.iload_n 1, 1) := by decide +kernel
theorem dX6_placeAt_1 : decode cX6_placeAt 1 = .ok (.ifCond .lt 20, 3) := by decide +kernel
theorem dX6_placeAt_4 : decode cX6_placeAt 4 = .ok (.iload_n 1, 1) := by decide +kernel
theorem dX6_placeAt_5 : decode cX6_placeAt 5 = .ok (.aload_n 0, 1) := by decide +kernel
theorem dX6_placeAt_6 : decode cX6_placeAt 6 = .ok (.getfield 9, 3) := by decide +kernel
theorem dX6_placeAt_9 : decode cX6_placeAt 9 = .ok (.if_icmp .ge 12, 3) := by decide +kernel
theorem dX6_placeAt_12 : decode cX6_placeAt 12 = .ok (.aload_n 0, 1) := by decide +kernel
theorem dX6_placeAt_13 : decode cX6_placeAt 13 = .ok (.getfield 22, 3) := by decide +kernel
theorem dX6_placeAt_16 : decode cX6_placeAt 16 = .ok (.iload_n 1, 1) := by decide +kernel
theorem dX6_placeAt_17 : decode cX6_placeAt 17 = .ok (.iaload, 1) := by decide +kernel
theorem dX6_placeAt_18 : decode cX6_placeAt 18 = .ok (.goto 4, 3) := by decide +kernel
theorem dX6_placeAt_21 : decode cX6_placeAt 21 = .ok (.iconst (-1), 1) := by decide +kernel
theorem dX6_placeAt_22 : decode cX6_placeAt 22 = .ok (.ireturn, 1) := by decide +kernel
