theorem dX9_begin_5 : decode cX9_begin 5 = .ok (.aaload, 1) := by decide +kernel
theorem dX9_begin_6 : decode cX9_begin 6 = .ok (.iconst 0, 1) := by decide +kernel
theorem dX9_begin_7 : decode cX9_begin 7 = .ok (.invokestatic 18, 3) := by decide +kernel
theorem dX9_begin_10 : decode cX9_begin 10 = .ok (.aload_n 0, 1) := by decide +kernel
theorem dX9_begin_11 : decode cX9_begin 11 = .ok (.getfield 14, 3) := by decide +kernel
theorem dX9_begin_14 : decode cX9_begin 14 = .ok (.iload_n 1, 1) := by decide +kernel
theorem dX9_begin_15 : decode cX9_begin 15 = .ok (.iload_n 2, 1) := by decide +kernel
theorem dX9_begin_16 : decode cX9_begin 16 = .ok (.iastore, 1) := by decide +kernel
theorem dX9_begin_17 : decode cX9_begin 17 = .ok (.return_, 1) := by decide +kernel
theorem dX9_reaches_0 : decode cX9_reaches 0 = .ok (.iload_n 2, 1) := by decide +kernel
theorem dX9_reaches_1 : decode cX9_reaches 1 = .ok (.ifCond .lt 33, 3) := by decide +kernel
theorem dX9_reaches_4 : decode cX9_reaches 4 = .ok (.iload_n 3, 1) := by decide +kernel
theorem dX9_reaches_5 : decode cX9_reaches 5 = .ok (.ifCond .lt 29, 3) := by decide +kernel
theorem dX9_reaches_8 : decode cX9_reaches 8 = .ok (.iload_n 2, 1) := by decide +kernel
theorem dX9_reaches_9 : decode cX9_reaches 9 = .ok (.aload_n 0, 1) := by decide +kernel
theorem dX9_reaches_10 : decode cX9_reaches 10 = .ok (.getfield 14, 3) := by decide +kernel
theorem dX9_reaches_13 : decode cX9_reaches 13 = .ok (.iload_n 1, 1) := by decide +kernel
theorem dX9_reaches_14 : decode cX9_reaches 14 = .ok (.iaload, 1) := by decide +kernel
theorem dX9_reaches_15 : decode cX9_reaches 15 = .ok (.if_icmp .gt 19, 3) := by decide +kernel
theorem dX9_reaches_18 : decode cX9_reaches 18 = .ok (.iload_n 3, 1) := by decide +kernel
theorem dX9_reaches_19 : decode cX9_reaches 19 = .ok (.aload_n 0, 1) := by decide +kernel
theorem dX9_reaches_20 : decode cX9_reaches 20 = .ok (.getfield 14, 3) := by decide +kernel
theorem dX9_reaches_23 : decode cX9_reaches 23 = .ok (.iload_n 1, 1) := by decide +kernel
theorem dX9_reaches_24 : decode cX9_reaches 24 = .ok (.iaload, 1) := by decide +kernel
theorem dX9_reaches_25 : decode cX9_reaches 25 = .ok (.iload_n 2, 1) := by decide +kernel
theorem dX9_reaches_26 : decode cX9_reaches 26 = .ok (.isub, 1) := by decide +kernel
theorem dX9_reaches_27 : decode cX9_reaches 27 = .ok (.if_icmp .gt 7, 3) := by decide +kernel
theorem dX9_reaches_30 : decode cX9_reaches 30 = .ok (.iconst 1, 1) := by decide +kernel
theorem dX9_reaches_31 : decode cX9_reaches 31 = .ok (.goto 4, 3) := by decide +kernel
theorem dX9_reaches_34 : decode cX9_reaches 34 = .ok (.iconst 0, 1) := by decide +kernel
theorem dX9_reaches_35 : decode cX9_reaches 35 = .ok (.ireturn, 1) := by decide +kernel
theorem dX10_has_0 : decode cX10_has 0 = .ok (.iload_n 1, 1) := by decide +kernel
theorem dX10_has_1 : decode cX10_has 1 = .ok (.ifCond .lt 15, 3) := by decide +kernel
theorem dX10_has_4 : decode cX10_has 4 = .ok (.iload_n 1, 1) := by decide +kernel
theorem dX10_has_5 : decode cX10_has 5 = .ok (.aload_n 0, 1) := by decide +kernel
theorem dX10_has_6 : decode cX10_has 6 = .ok (.getfield 33, 3) := by decide +kernel
theorem dX10_has_9 : decode cX10_has 9 = .ok (.if_icmp .ge 7, 3) := by decide +kernel
theorem dX10_has_12 : decode cX10_has 12 = .ok (.iconst 1, 1) := by decide +kernel
theorem dX10_has_13 : decode cX10_has 13 = .ok (.goto 4, 3) := by decide +kernel
theorem dX10_has_16 : decode cX10_has 16 = .ok (.iconst 0, 1) := by decide +kernel
theorem dX10_has_17 : decode cX10_has 17 = .ok (.ireturn, 1) := by decide +kernel
theorem dX10_add_0 : decode cX10_add 0 = .ok (.aload_n 0, 1) := by decide +kernel
theorem dX10_add_1 : decode cX10_add 1 = .ok (.getfield 9, 3) := by decide +kernel
theorem dX10_add_4 : decode cX10_add 4 = .ok (.aload_n 0, 1) := by decide +kernel
theorem dX10_add_5 : decode cX10_add 5 = .ok (.getfield 33, 3) := by decide +kernel
theorem dX10_add_8 : decode cX10_add 8 = .ok (.iload_n 1, 1) := by decide +kernel
theorem dX10_add_9 : decode cX10_add 9 = .ok (.iastore, 1) := by decide +kernel
theorem dX10_add_10 : decode cX10_add 10 = .ok (.aload_n 0, 1) := by decide +kernel
theorem dX10_add_11 : decode cX10_add 11 = .ok (.getfield 15, 3) := by decide +kernel
theorem dX10_add_14 : decode cX10_add 14 = .ok (.aload_n 0, 1) := by decide +kernel
theorem dX10_add_15 : decode cX10_add 15 = .ok (.getfield 33, 3) := by decide +kernel
theorem dX10_add_18 : decode cX10_add 18 = .ok (.iload_n 2, 1) := by decide +kernel
theorem dX10_add_19 : decode cX10_add 19 = .ok (.iastore, 1) := by decide +kernel
theorem dX10_add_20 : decode cX10_add 20 = .ok (.aload_n 0, 1) := by decide +kernel
theorem dX10_add_21 : decode cX10_add 21 = .ok (.getfield 18, 3) := by decide +kernel
theorem dX10_add_24 : decode cX10_add 24 = .ok (.aload_n 0, 1) := by decide +kernel
theorem dX10_add_25 : decode cX10_add 25 = .ok (.getfield 33, 3) := by decide +kernel
theorem dX10_add_28 : decode cX10_add 28 = .ok (.iload_n 3, 1) := by decide +kernel
theorem dX10_add_29 : decode cX10_add 29 = .ok (.sipush 1000, 3) := by decide +kernel
theorem dX10_add_32 : decode cX10_add 32 = .ok (.idiv, 1) := by decide +kernel
theorem dX10_add_33 : decode cX10_add 33 = .ok (.iastore, 1) := by decide +kernel
theorem dX10_add_34 : decode cX10_add 34 = .ok (.aload_n 0, 1) := by decide +kernel
theorem dX10_add_35 : decode cX10_add 35 = .ok (.getfield 21, 3) := by decide +kernel
theorem dX10_add_38 : decode cX10_add 38 = .ok (.aload_n 0, 1) := by decide +kernel
theorem dX10_add_39 : decode cX10_add 39 = .ok (.getfield 33, 3) := by decide +kernel
theorem dX10_add_42 : decode cX10_add 42 = .ok (.iload_n 3, 1) := by decide +kernel
theorem dX10_add_43 : decode cX10_add 43 = .ok (.sipush 1000, 3) := by decide +kernel
theorem dX10_add_46 : decode cX10_add 46 = .ok (.irem, 1) := by decide +kernel
theorem dX10_add_47 : decode cX10_add 47 = .ok (.iastore, 1) := by decide +kernel
theorem dX10_add_48 : decode cX10_add 48 = .ok (.aload_n 0, 1) := by decide +kernel
theorem dX10_add_49 : decode cX10_add 49 = .ok (.getfield 24, 3) := by decide +kernel
theorem dX10_add_52 : decode cX10_add 52 = .ok (.aload_n 0, 1) := by decide +kernel
theorem dX10_add_53 : decode cX10_add 53 = .ok (.getfield 33, 3) := by decide +kernel
theorem dX10_add_56 : decode cX10_add 56 = .ok (.iload 4, 2) := by decide +kernel
theorem dX10_add_58 : decode cX10_add 58 = .ok (.bipush 100, 2) := by decide +kernel
theorem dX10_add_60 : decode cX10_add 60 = .ok (.idiv, 1) := by decide +kernel
theorem dX10_add_61 : decode cX10_add 61 = .ok (.iastore, 1) := by decide +kernel
theorem dX10_add_62 : decode cX10_add 62 = .ok (.aload_n 0, 1) := by decide +kernel
theorem dX10_add_63 : decode cX10_add 63 = .ok (.getfield 27, 3) := by decide +kernel
theorem dX10_add_66 : decode cX10_add 66 = .ok (.aload_n 0, 1) := by decide +kernel
theorem dX10_add_67 : decode cX10_add 67 = .ok (.getfield 33, 3) := by decide +kernel
theorem dX10_add_70 : decode cX10_add 70 = .ok (.iload 4, 2) := by decide +kernel
theorem dX10_add_72 : decode cX10_add 72 = .ok (.bipush 100, 2) := by decide +kernel
theorem dX10_add_74 : decode cX10_add 74 = .ok (.irem, 1) := by decide +kernel
theorem dX10_add_75 : decode cX10_add 75 = .ok (.iastore, 1) := by decide +kernel
theorem dX10_add_76 : decode cX10_add 76 = .ok (.aload_n 0, 1) := by decide +kernel
theorem dX10_add_77 : decode cX10_add 77 = .ok (.getfield 30, 3) := by decide +kernel
theorem dX10_add_80 : decode cX10_add 80 = .ok (.aload_n 0, 1) := by decide +kernel
theorem dX10_add_81 : decode cX10_add 81 = .ok (.getfield 33, 3) := by decide +kernel
theorem dX10_add_84 : decode cX10_add 84 = .ok (.iload 5, 2) := by decide +kernel
theorem dX10_add_86 : decode cX10_add 86 = .ok (.iastore, 1) := by decide +kernel
theorem dX10_add_87 : decode cX10_add 87 = .ok (.aload_n 0, 1) := by decide +kernel
theorem dX10_add_88 : decode cX10_add 88 = .ok (.dup, 1) := by decide +kernel
theorem dX10_add_89 : decode cX10_add 89 = .ok (.getfield 33, 3) := by decide +kernel
theorem dX10_add_92 : decode cX10_add 92 = .ok (.iconst 1, 1) := by decide +kernel
theorem dX10_add_93 : decode cX10_add 93 = .ok (.iadd, 1) := by decide +kernel
theorem dX10_add_94 : decode cX10_add 94 = .ok (.putfield 33, 3) := by decide +kernel
theorem dX10_add_97 : decode cX10_add 97 = .ok (.aload_n 0, 1) := by decide +kernel
theorem dX10_add_98 : decode cX10_add 98 = .ok (.getfield 33, 3) := by decide +kernel
theorem dX10_add_101 : decode cX10_add 101 = .ok (.iconst 1, 1) := by decide +kernel
theorem dX10_add_102 : decode cX10_add 102 = .ok (.isub, 1) := by decide +kernel
theorem dX10_add_103 : decode cX10_add 103 = .ok (.ireturn, 1) := by decide +kernel
theorem dX10_rivals_0 : decode cX10_rivals 0 = .ok (.aload_n 0, 1) := by decide +kernel
theorem dX10_rivals_1 : decode cX10_rivals 1 = .ok (.getfield 15, 3) := by decide +kernel
theorem dX10_rivals_4 : decode cX10_rivals 4 = .ok (.iload_n 1, 1) := by decide +kernel
theorem dX10_rivals_5 : decode cX10_rivals 5 = .ok (.iaload, 1) := by decide +kernel
theorem dX10_rivals_6 : decode cX10_rivals 6 = .ok (.aload_n 0, 1) := by decide +kernel
theorem dX10_rivals_7 : decode cX10_rivals 7 = .ok (.getfield 15, 3) := by decide +kernel
theorem dX10_rivals_10 : decode cX10_rivals 10 = .ok (.iload_n 2, 1) := by decide +kernel
theorem dX10_rivals_11 : decode cX10_rivals 11 = .ok (.iaload, 1) := by decide +kernel
theorem dX10_rivals_12 : decode cX10_rivals 12 = .ok (.if_icmp .ne 26, 3) := by decide +kernel
theorem dX10_rivals_15 : decode cX10_rivals 15 = .ok (.iload_n 3, 1) := by decide +kernel
theorem dX10_rivals_16 : decode cX10_rivals 16 = .ok (.aload_n 0, 1) := by decide +kernel
theorem dX10_rivals_17 : decode cX10_rivals 17 = .ok (.getfield 24, 3) := by decide +kernel
theorem dX10_rivals_20 : decode cX10_rivals 20 = .ok (.iload_n 1, 1) := by decide +kernel
theorem dX10_rivals_21 : decode cX10_rivals 21 = .ok (.iaload, 1) := by decide +kernel
theorem dX10_rivals_22 : decode cX10_rivals 22 = .ok (.aload_n 0, 1) := by decide +kernel
theorem dX10_rivals_23 : decode cX10_rivals 23 = .ok (.getfield 24, 3) := by decide +kernel
theorem dX10_rivals_26 : decode cX10_rivals 26 = .ok (.iload_n 2, 1) := by decide +kernel
theorem dX10_rivals_27 : decode cX10_rivals 27 = .ok (.iaload, 1) := by decide +kernel
theorem dX10_rivals_28 : decode cX10_rivals 28 = .ok (.invokestatic 37, 3) := by decide +kernel
theorem dX10_rivals_31 : decode cX10_rivals 31 = .ok (.if_icmp .gt 7, 3) := by decide +kernel
theorem dX10_rivals_34 : decode cX10_rivals 34 = .ok (.iconst 1, 1) := by decide +kernel
theorem dX10_rivals_35 : decode cX10_rivals 35 = .ok (.goto 4, 3) := by decide +kernel
theorem dX10_rivals_38 : decode cX10_rivals 38 = .ok (.iconst 0, 1) := by decide +kernel
theorem dX10_rivals_39 : decode cX10_rivals 39 = .ok (.ireturn, 1) := by decide +kernel
theorem dX10_become_0 : decode cX10_become 0 = .ok (.aload_n 1, 1) := by decide +kernel
theorem dX10_become_1 : decode cX10_become 1 = .ok (.getfield 9, 3) := by decide +kernel
theorem dX10_become_4 : decode cX10_become 4 = .ok (.iconst 0, 1) := by decide +kernel
theorem dX10_become_5 : decode cX10_become 5 = .ok (.aload_n 0, 1) := by decide +kernel
theorem dX10_become_6 : decode cX10_become 6 = .ok (.getfield 9, 3) := by decide +kernel
theorem dX10_become_9 : decode cX10_become 9 = .ok (.iconst 0, 1) := by decide +kernel
theorem dX10_become_10 : decode cX10_become 10 = .ok (.bipush 12, 2) := by decide +kernel
theorem dX10_become_12 : decode cX10_become 12 = .ok (.invokestatic 43, 3) := by decide +kernel
theorem dX10_become_15 : decode cX10_become 15 = .ok (.aload_n 1, 1) := by decide +kernel
theorem dX10_become_16 : decode cX10_become 16 = .ok (.getfield 15, 3) := by decide +kernel
theorem dX10_become_19 : decode cX10_become 19 = .ok (.iconst 0, 1) := by decide +kernel
theorem dX10_become_20 : decode cX10_become 20 = .ok (.aload_n 0, 1) := by decide +kernel
theorem dX10_become_21 : decode cX10_become 21 = .ok (.getfield 15, 3) := by decide +kernel
theorem dX10_become_24 : decode cX10_become 24 = .ok (.iconst 0, 1) := by decide +kernel
theorem dX10_become_25 : decode cX10_become 25 = .ok (.bipush 12, 2) := by decide +kernel
theorem dX10_become_27 : decode cX10_become 27 = .ok (.invokestatic 43, 3) := by decide +kernel
theorem dX10_become_30 : decode cX10_become 30 = .ok (.aload_n 1, 1) := by decide +kernel
theorem dX10_become_31 : decode cX10_become 31 = .ok (.getfield 18, 3) := by decide +kernel
theorem dX10_become_34 : decode cX10_become 34 = .ok (.iconst 0, 1) := by decide +kernel
theorem dX10_become_35 : decode cX10_become 35 = .ok (.aload_n 0, 1) := by decide +kernel
theorem dX10_become_36 : decode cX10_become 36 = .ok (.getfield 18, 3) := by decide +kernel
theorem dX10_become_39 : decode cX10_become 39 = .ok (.iconst 0, 1) := by decide +kernel
theorem dX10_become_40 : decode cX10_become 40 = .ok (.bipush 12, 2) := by decide +kernel
theorem dX10_become_42 : decode cX10_become 42 = .ok (.invokestatic 43, 3) := by decide +kernel
theorem dX10_become_45 : decode cX10_become 45 = .ok (.aload_n 1, 1) := by decide +kernel
theorem dX10_become_46 : decode cX10_become 46 = .ok (.getfield 21, 3) := by decide +kernel
theorem dX10_become_49 : decode cX10_become 49 = .ok (.iconst 0, 1) := by decide +kernel
theorem dX10_become_50 : decode cX10_become 50 = .ok (.aload_n 0, 1) := by decide +kernel
theorem dX10_become_51 : decode cX10_become 51 = .ok (.getfield 21, 3) := by decide +kernel
theorem dX10_become_54 : decode cX10_become 54 = .ok (.iconst 0, 1) := by decide +kernel
theorem dX10_become_55 : decode cX10_become 55 = .ok (.bipush 12, 2) := by decide +kernel
theorem dX10_become_57 : decode cX10_become 57 = .ok (.invokestatic 43, 3) := by decide +kernel
theorem dX10_become_60 : decode cX10_become 60 = .ok (.aload_n 1, 1) := by decide +kernel
theorem dX10_become_61 : decode cX10_become 61 = .ok (.getfield 24, 3) := by decide +kernel
theorem dX10_become_64 : decode cX10_become 64 = .ok (.iconst 0, 1) := by decide +kernel
theorem dX10_become_65 : decode cX10_become 65 = .ok (.aload_n 0, 1) := by decide +kernel
theorem dX10_become_66 : decode cX10_become 66 = .ok (.getfield 24, 3) := by decide +kernel
theorem dX10_become_69 : decode cX10_become 69 = .ok (.iconst 0, 1) := by decide +kernel
theorem dX10_become_70 : decode cX10_become 70 = .ok (.bipush 12, 2) := by decide +kernel
theorem dX10_become_72 : decode cX10_become 72 = .ok (.invokestatic 43, 3) := by decide +kernel
theorem dX10_become_75 : decode cX10_become 75 = .ok (.aload_n 1, 1) := by decide +kernel
theorem dX10_become_76 : decode cX10_become 76 = .ok (.getfield 27, 3) := by decide +kernel
theorem dX10_become_79 : decode cX10_become 79 = .ok (.iconst 0, 1) := by decide +kernel
theorem dX10_become_80 : decode cX10_become 80 = .ok (.aload_n 0, 1) := by decide +kernel
theorem dX10_become_81 : decode cX10_become 81 = .ok (.getfield 27, 3) := by decide +kernel
theorem dX10_become_84 : decode cX10_become 84 = .ok (.iconst 0, 1) := by decide +kernel
theorem dX10_become_85 : decode cX10_become 85 = .ok (.bipush 12, 2) := by decide +kernel
theorem dX10_become_87 : decode cX10_become 87 = .ok (.invokestatic 43, 3) := by decide +kernel
theorem dX10_become_90 : decode cX10_become 90 = .ok (.aload_n 1, 1) := by decide +kernel
theorem dX10_become_91 : decode cX10_become 91 = .ok (.getfield 30, 3) := by decide +kernel
theorem dX10_become_94 : decode cX10_become 94 = .ok (.iconst 0, 1) := by decide +kernel
theorem dX10_become_95 : decode cX10_become 95 = .ok (.aload_n 0, 1) := by decide +kernel
theorem dX10_become_96 : decode cX10_become 96 = .ok (.getfield 30, 3) := by decide +kernel
theorem dX10_become_99 : decode cX10_become 99 = .ok (.iconst 0, 1) := by decide +kernel
theorem dX10_become_100 : decode cX10_become 100 = .ok (.bipush 12, 2) := by decide +kernel
theorem dX10_become_102 : decode cX10_become 102 = .ok (.invokestatic 43, 3) := by decide +kernel
theorem dX10_become_105 : decode cX10_become 105 = .ok (.aload_n 0, 1) := by decide +kernel
theorem dX10_become_106 : decode cX10_become 106 = .ok (.aload_n 1, 1) := by decide +kernel
theorem dX10_become_107 : decode cX10_become 107 = .ok (.getfield 33, 3) := by decide +kernel
theorem dX10_become_110 : decode cX10_become 110 = .ok (.putfield 33, 3) := by decide +kernel
theorem dX10_become_113 : decode cX10_become 113 = .ok (.return_, 1) := by decide +kernel
theorem dX11_feet_0 : decode cX11_feet 0 = .ok (.iload_n 1, 1) := by decide +kernel
theorem dX11_feet_1 : decode cX11_feet 1 = .ok (.invokestatic 63, 3) := by decide +kernel
theorem dX11_feet_4 : decode cX11_feet 4 = .ok (.ifCond .eq 10, 3) := by decide +kernel
theorem dX11_feet_7 : decode cX11_feet 7 = .ok (.iload_n 2, 1) := by decide +kernel
theorem dX11_feet_8 : decode cX11_feet 8 = .ok (.invokestatic 67, 3) := by decide +kernel
theorem dX11_feet_11 : decode cX11_feet 11 = .ok (.ifCond .ne 6, 3) := by decide +kernel
theorem dX11_feet_14 : decode cX11_feet 14 = .ok (.ldc 70, 2) := by decide +kernel
theorem dX11_feet_16 : decode cX11_feet 16 = .ok (.ireturn, 1) := by decide +kernel
theorem dX11_feet_17 : decode cX11_feet 17 = .ok (.aload_n 0, 1) := by decide +kernel
theorem dX11_feet_18 : decode cX11_feet 18 = .ok (.getfield 10, 3) := by decide +kernel
theorem dX11_feet_21 : decode cX11_feet 21 = .ok (.getfield 71, 3) := by decide +kernel
theorem dX11_feet_24 : decode cX11_feet 24 = .ok (.iload_n 1, 1) := by decide +kernel
theorem dX11_feet_25 : decode cX11_feet 25 = .ok (.iaload, 1) := by decide +kernel
theorem dX11_feet_26 : decode cX11_feet 26 = .ok (.istore_n 3, 1) := by decide +kernel
theorem dX11_feet_27 : decode cX11_feet 27 = .ok (.aload_n 0, 1) := by decide +kernel
theorem dX11_feet_28 : decode cX11_feet 28 = .ok (.getfield 10, 3) := by decide +kernel
theorem dX11_feet_31 : decode cX11_feet 31 = .ok (.getfield 71, 3) := by decide +kernel
theorem dX11_feet_34 : decode cX11_feet 34 = .ok (.iload_n 1, 1) := by decide +kernel
theorem dX11_feet_35 : decode cX11_feet 35 = .ok (.iload_n 2, 1) := by decide +kernel
theorem dX11_feet_36 : decode cX11_feet 36 = .ok (.iastore, 1) := by decide +kernel
theorem dX11_feet_37 : decode cX11_feet 37 = .ok (.iload_n 3, 1) := by decide +kernel
theorem dX11_feet_38 : decode cX11_feet 38 = .ok (.ireturn, 1) := by decide +kernel
theorem dX11_lay_0 : decode cX11_lay 0 = .ok (.iload_n 1, 1) := by decide +kernel
theorem dX11_lay_1 : decode cX11_lay 1 = .ok (.invokestatic 74, 3) := by decide +kernel
theorem dX11_lay_4 : decode cX11_lay 4 = .ok (.ifCond .ne 6, 3) := by decide +kernel
theorem dX11_lay_7 : decode cX11_lay 7 = .ok (.ldc 70, 2) := by decide +kernel
theorem dX11_lay_9 : decode cX11_lay 9 = .ok (.ireturn, 1) := by decide +kernel
theorem dX11_lay_10 : decode cX11_lay 10 = .ok (.aload_n 0, 1) := by decide +kernel
theorem dX11_lay_11 : decode cX11_lay 11 = .ok (.getfield 29, 3) := by decide +kernel
theorem dX11_lay_14 : decode cX11_lay 14 = .ok (.iload_n 1, 1) := by decide +kernel
theorem dX11_lay_15 : decode cX11_lay 15 = .ok (.invokevirtual 77, 3) := by decide +kernel
theorem dX11_lay_18 : decode cX11_lay 18 = .ok (.ifCond .eq 6, 3) := by decide +kernel
theorem dX11_lay_21 : decode cX11_lay 21 = .ok (.ldc 80, 2) := by decide +kernel
theorem dX11_lay_23 : decode cX11_lay 23 = .ok (.ireturn, 1) := by decide +kernel
theorem dX11_lay_24 : decode cX11_lay 24 = .ok (.iconst 0, 1) := by decide +kernel
theorem dX11_lay_25 : decode cX11_lay 25 = .ok (.istore_n 2, 1) := by decide +kernel
theorem dX11_lay_26 : decode cX11_lay 26 = .ok (.aload_n 0, 1) := by decide +kernel
theorem dX11_lay_27 : decode cX11_lay 27 = .ok (.getfield 29, 3) := by decide +kernel
theorem dX11_lay_30 : decode cX11_lay 30 = .ok (.getfield 81, 3) := by decide +kernel
theorem dX11_lay_33 : decode cX11_lay 33 = .ok (.iload_n 1, 1) := by decide +kernel
theorem dX11_lay_34 : decode cX11_lay 34 = .ok (.iaload, 1) := by decide +kernel
theorem dX11_lay_35 : decode cX11_lay 35 = .ok (.bipush 12, 2) := by decide +kernel
theorem dX11_lay_37 : decode cX11_lay 37 = .ok (.invokestatic 84, 3) := by decide +kernel
theorem dX11_lay_40 : decode cX11_lay 40 = .ok (.istore_n 3, 1) := by decide +kernel
theorem dX11_lay_41 : decode cX11_lay 41 = .ok (.iconst 0, 1) := by decide +kernel
theorem dX11_lay_42 : decode cX11_lay 42 = .ok (.istore 4, 2) := by decide +kernel
theorem dX11_lay_44 : decode cX11_lay 44 = .ok (.iload 4, 2) := by decide +kernel
theorem dX11_lay_46 : decode cX11_lay 46 = .ok (.iload_n 3, 1) := by decide +kernel
theorem dX11_lay_47 : decode cX11_lay 47 = .ok (.if_icmp .ge 46, 3) := by decide +kernel
theorem dX11_lay_50 : decode cX11_lay 50 = .ok (.aload_n 0, 1) := by decide +kernel
theorem dX11_lay_51 : decode cX11_lay 51 = .ok (.getfield 29, 3) := by decide +kernel
theorem dX11_lay_54 : decode cX11_lay 54 = .ok (.getfield 90, 3) := by decide +kernel
theorem dX11_lay_57 : decode cX11_lay 57 = .ok (.iload_n 1, 1) := by decide +kernel
theorem dX11_lay_58 : decode cX11_lay 58 = .ok (.aaload, 1) := by decide +kernel
theorem dX11_lay_59 : decode cX11_lay 59 = .ok (.iload 4, 2) := by decide +kernel
theorem dX11_lay_61 : decode cX11_lay 61 = .ok (.saload, 1) := by decide +kernel
theorem dX11_lay_62 : decode cX11_lay 62 = .ok (.istore 5, 2) := by decide +kernel
theorem dX11_lay_64 : decode cX11_lay 64 = .ok (.iload 5, 2) := by decide +kernel
theorem dX11_lay_66 : decode cX11_lay 66 = .ok (.invokestatic 67, 3) := by decide +kernel
theorem dX11_lay_69 : decode cX11_lay 69 = .ok (.ifCond .eq 18, 3) := by decide +kernel
theorem dX11_lay_72 : decode cX11_lay 72 = .ok (.aload_n 0, 1) := by decide +kernel
theorem dX11_lay_73 : decode cX11_lay 73 = .ok (.getfield 10, 3) := by decide +kernel
theorem dX11_lay_76 : decode cX11_lay 76 = .ok (.getfield 71, 3) := by decide +kernel
theorem dX11_lay_79 : decode cX11_lay 79 = .ok (.iload 4, 2) := by decide +kernel
theorem dX11_lay_81 : decode cX11_lay 81 = .ok (.iload 5, 2) := by decide +kernel
theorem dX11_lay_83 : decode cX11_lay 83 = .ok (.iastore, 1) := by decide +kernel
theorem dX11_lay_84 : decode cX11_lay 84 = .ok (.iinc 2 1, 3) := by decide +kernel
theorem dX11_lay_87 : decode cX11_lay 87 = .ok (.iinc 4 1, 3) := by decide +kernel
theorem dX11_lay_90 : decode cX11_lay 90 = .ok (.goto (-46), 3) := by decide +kernel
theorem dX11_lay_93 : decode cX11_lay 93 = .ok (.iload_n 2, 1) := by decide +kernel
theorem dX11_lay_94 : decode cX11_lay 94 = .ok (.ireturn, 1) := by decide +kernel
theorem dX11_door_0 : decode cX11_door 0 = .ok (.iload_n 1, 1) := by decide +kernel
theorem dX11_door_1 : decode cX11_door 1 = .ok (.invokestatic 63, 3) := by decide +kernel
theorem dX11_door_4 : decode cX11_door 4 = .ok (.ifCond .eq 10, 3) := by decide +kernel
theorem dX11_door_7 : decode cX11_door 7 = .ok (.iload_n 2, 1) := by decide +kernel
theorem dX11_door_8 : decode cX11_door 8 = .ok (.invokestatic 94, 3) := by decide +kernel
theorem dX11_door_11 : decode cX11_door 11 = .ok (.ifCond .ne 6, 3) := by decide +kernel
theorem dX11_door_14 : decode cX11_door 14 = .ok (.ldc 70, 2) := by decide +kernel
theorem dX11_door_16 : decode cX11_door 16 = .ok (.ireturn, 1) := by decide +kernel
theorem dX11_door_17 : decode cX11_door 17 = .ok (.aload_n 0, 1) := by decide +kernel
theorem dX11_door_18 : decode cX11_door 18 = .ok (.getfield 10, 3) := by decide +kernel
theorem dX11_door_21 : decode cX11_door 21 = .ok (.getfield 97, 3) := by decide +kernel
theorem dX11_door_24 : decode cX11_door 24 = .ok (.getfield 101, 3) := by decide +kernel
theorem dX11_door_27 : decode cX11_door 27 = .ok (.iconst 4, 1) := by decide +kernel
theorem dX11_door_28 : decode cX11_door 28 = .ok (.if_icmp .lt 6, 3) := by decide +kernel
theorem dX11_door_31 : decode cX11_door 31 = .ok (.ldc 107, 2) := by decide +kernel
theorem dX11_door_33 : decode cX11_door 33 = .ok (.ireturn, 1) := by decide +kernel
theorem dX11_door_34 : decode cX11_door 34 = .ok (.aload_n 0, 1) := by decide +kernel
theorem dX11_door_35 : decode cX11_door 35 = .ok (.getfield 10, 3) := by decide +kernel
theorem dX11_door_38 : decode cX11_door 38 = .ok (.getfield 97, 3) := by decide +kernel
theorem dX11_door_41 : decode cX11_door 41 = .ok (.iload_n 1, 1) := by decide +kernel
theorem dX11_door_42 : decode cX11_door 42 = .ok (.iload_n 2, 1) := by decide +kernel
theorem dX11_door_43 : decode cX11_door 43 = .ok (.invokevirtual 108, 3) := by decide +kernel
theorem dX11_door_46 : decode cX11_door 46 = .ok (.ireturn, 1) := by decide +kernel
theorem dX11_people_0 : decode cX11_people 0 = .ok (.aload_n 0, 1) := by decide +kernel
theorem dX11_people_1 : decode cX11_people 1 = .ok (.getfield 10, 3) := by decide +kernel
theorem dX11_people_4 : decode cX11_people 4 = .ok (.getfield 97, 3) := by decide +kernel
theorem dX11_people_7 : decode cX11_people 7 = .ok (.iload_n 1, 1) := by decide +kernel
theorem dX11_people_8 : decode cX11_people 8 = .ok (.invokevirtual 111, 3) := by decide +kernel
theorem dX11_people_11 : decode cX11_people 11 = .ok (.ifCond .eq 10, 3) := by decide +kernel
theorem dX11_people_14 : decode cX11_people 14 = .ok (.iload_n 2, 1) := by decide +kernel
theorem dX11_people_15 : decode cX11_people 15 = .ok (.invokestatic 94, 3) := by decide +kernel
theorem dX11_people_18 : decode cX11_people 18 = .ok (.ifCond .ne 6, 3) := by decide +kernel
theorem dX11_people_21 : decode cX11_people 21 = .ok (.ldc 70, 2) := by decide +kernel
theorem dX11_people_23 : decode cX11_people 23 = .ok (.ireturn, 1) := by decide +kernel
theorem dX11_people_24 : decode cX11_people 24 = .ok (.aload_n 0, 1) := by decide +kernel
theorem dX11_people_25 : decode cX11_people 25 = .ok (.getfield 10, 3) := by decide +kernel
theorem dX11_people_28 : decode cX11_people 28 = .ok (.getfield 97, 3) := by decide +kernel
theorem dX11_people_31 : decode cX11_people 31 = .ok (.getfield 114, 3) := by decide +kernel
theorem dX11_people_34 : decode cX11_people 34 = .ok (.iload_n 1, 1) := by decide +kernel
theorem dX11_people_35 : decode cX11_people 35 = .ok (.iaload, 1) := by decide +kernel
theorem dX11_people_36 : decode cX11_people 36 = .ok (.istore_n 3, 1) := by decide +kernel
theorem dX11_people_37 : decode cX11_people 37 = .ok (.aload_n 0, 1) := by decide +kernel
theorem dX11_people_38 : decode cX11_people 38 = .ok (.getfield 10, 3) := by decide +kernel
theorem dX11_people_41 : decode cX11_people 41 = .ok (.getfield 97, 3) := by decide +kernel
theorem dX11_people_44 : decode cX11_people 44 = .ok (.getfield 114, 3) := by decide +kernel
theorem dX11_people_47 : decode cX11_people 47 = .ok (.iload_n 1, 1) := by decide +kernel
theorem dX11_people_48 : decode cX11_people 48 = .ok (.iload_n 2, 1) := by decide +kernel
theorem dX11_people_49 : decode cX11_people 49 = .ok (.iastore, 1) := by decide +kernel
theorem dX11_people_50 : decode cX11_people 50 = .ok (.iload_n 3, 1) := by decide +kernel
theorem dX11_people_51 : decode cX11_people 51 = .ok (.ireturn, 1) := by decide +kernel
theorem dX11_shop_0 : decode cX11_shop 0 = .ok (.iload_n 1, 1) := by decide +kernel
theorem dX11_shop_1 : decode cX11_shop 1 = .ok (.iconst 0, 1) := by decide +kernel
theorem dX11_shop_2 : decode cX11_shop 2 = .ok (.iconst 3, 1) := by decide +kernel
theorem dX11_shop_3 : decode cX11_shop 3 = .ok (.invokestatic 117, 3) := by decide +kernel
theorem dX11_shop_6 : decode cX11_shop 6 = .ok (.ifCond .eq 59, 3) := by decide +kernel
theorem dX11_shop_9 : decode cX11_shop 9 = .ok (.iload_n 2, 1) := by decide +kernel
theorem dX11_shop_10 : decode cX11_shop 10 = .ok (.iconst 0, 1) := by decide +kernel
theorem dX11_shop_11 : decode cX11_shop 11 = .ok (.bipush 7, 2) := by decide +kernel
theorem dX11_shop_13 : decode cX11_shop 13 = .ok (.invokestatic 117, 3) := by decide +kernel
theorem dX11_shop_16 : decode cX11_shop 16 = .ok (.ifCond .eq 49, 3) := by decide +kernel
theorem dX11_shop_19 : decode cX11_shop 19 = .ok (.iload_n 3, 1) := by decide +kernel
theorem dX11_shop_20 : decode cX11_shop 20 = .ok (.iconst 0, 1) := by decide +kernel
theorem dX11_shop_21 : decode cX11_shop 21 = .ok (.ldc 121, 2) := by decide +kernel
theorem dX11_shop_23 : decode cX11_shop 23 = .ok (.invokestatic 117, 3) := by decide +kernel
theorem dX11_shop_26 : decode cX11_shop 26 = .ok (.ifCond .eq 39, 3) := by decide +kernel
theorem dX11_shop_29 : decode cX11_shop 29 = .ok (.iload 4, 2) := by decide +kernel
theorem dX11_shop_31 : decode cX11_shop 31 = .ok (.iconst 1, 1) := by decide +kernel
theorem dX11_shop_32 : decode cX11_shop 32 = .ok (.sipush 1199, 3) := by decide +kernel
theorem dX11_shop_35 : decode cX11_shop 35 = .ok (.invokestatic 117, 3) := by decide +kernel
theorem dX11_shop_38 : decode cX11_shop 38 = .ok (.ifCond .eq 27, 3) := by decide +kernel
theorem dX11_shop_41 : decode cX11_shop 41 = .ok (.iload 4, 2) := by decide +kernel
theorem dX11_shop_43 : decode cX11_shop 43 = .ok (.bipush 100, 2) := by decide +kernel
theorem dX11_shop_45 : decode cX11_shop 45 = .ok (.irem, 1) := by decide +kernel
theorem dX11_shop_46 : decode cX11_shop 46 = .ok (.ifCond .eq 19, 3) := by decide +kernel
theorem dX11_shop_49 : decode cX11_shop 49 = .ok (.iload 5, 2) := by decide +kernel
theorem dX11_shop_51 : decode cX11_shop 51 = .ok (.iconst 1, 1) := by decide +kernel
theorem dX11_shop_52 : decode cX11_shop 52 = .ok (.sipush 999, 3) := by decide +kernel
theorem dX11_shop_55 : decode cX11_shop 55 = .ok (.invokestatic 117, 3) := by decide +kernel
theorem dX11_shop_58 : decode cX11_shop 58 = .ok (.ifCond .eq 7, 3) := by decide +kernel
theorem dX11_shop_61 : decode cX11_shop 61 = .ok (.iconst 1, 1) := by decide +kernel
theorem dX11_shop_62 : decode cX11_shop 62 = .ok (.goto 4, 3) := by decide +kernel
theorem dX11_shop_65 : decode cX11_shop 65 = .ok (.iconst 0, 1) := by decide +kernel
theorem dX11_shop_66 : decode cX11_shop 66 = .ok (.istore 6, 2) := by decide +kernel
theorem dX11_shop_68 : decode cX11_shop 68 = .ok (.iload 6, 2) := by decide +kernel
theorem dX11_shop_70 : decode cX11_shop 70 = .ok (.ifCond .ne 6, 3) := by decide +kernel
theorem dX11_shop_73 : decode cX11_shop 73 = .ok (.ldc 70, 2) := by decide +kernel
theorem dX11_shop_75 : decode cX11_shop 75 = .ok (.ireturn, 1) := by decide +kernel
theorem dX11_shop_76 : decode cX11_shop 76 = .ok (.aload_n 0, 1) := by decide +kernel
theorem dX11_shop_77 : decode cX11_shop 77 = .ok (.getfield 10, 3) := by decide +kernel
theorem dX11_shop_80 : decode cX11_shop 80 = .ok (.getfield 122, 3) := by decide +kernel
theorem dX11_shop_83 : decode cX11_shop 83 = .ok (.getfield 126, 3) := by decide +kernel
theorem dX11_shop_86 : decode cX11_shop 86 = .ok (.bipush 12, 2) := by decide +kernel
theorem dX11_shop_88 : decode cX11_shop 88 = .ok (.if_icmp .lt 6, 3) := by decide +kernel
theorem dX11_shop_91 : decode cX11_shop 91 = .ok (.ldc 107, 2) := by decide +kernel
theorem dX11_shop_93 : decode cX11_shop 93 = .ok (.ireturn, 1) := by decide +kernel
theorem dX11_shop_94 : decode cX11_shop 94 = .ok (.aload_n 0, 1) := by decide +kernel
theorem dX11_shop_95 : decode cX11_shop 95 = .ok (.getfield 10, 3) := by decide +kernel
theorem dX11_shop_98 : decode cX11_shop 98 = .ok (.getfield 122, 3) := by decide +kernel
theorem dX11_shop_101 : decode cX11_shop 101 = .ok (.iload_n 1, 1) := by decide +kernel
theorem dX11_shop_102 : decode cX11_shop 102 = .ok (.iload_n 2, 1) := by decide +kernel
theorem dX11_shop_103 : decode cX11_shop 103 = .ok (.iload_n 3, 1) := by decide +kernel
theorem dX11_shop_104 : decode cX11_shop 104 = .ok (.iload 4, 2) := by decide +kernel
theorem dX11_shop_106 : decode cX11_shop 106 = .ok (.iload 5, 2) := by decide +kernel
theorem dX11_shop_108 : decode cX11_shop 108 = .ok (.invokevirtual 129, 3) := by decide +kernel
theorem dX11_shop_111 : decode cX11_shop 111 = .ok (.ireturn, 1) := by decide +kernel
theorem dX11_isOf_0 : decode cX11_isOf 0 = .ok (.aload_n 0, 1) := by decide +kernel
theorem dX11_isOf_1 : decode cX11_isOf 1 = .ok (.getfield 10, 3) := by decide +kernel
theorem dX11_isOf_4 : decode cX11_isOf 4 = .ok (.getfield 122, 3) := by decide +kernel
theorem dX11_isOf_7 : decode cX11_isOf 7 = .ok (.iload_n 1, 1) := by decide +kernel
theorem dX11_isOf_8 : decode cX11_isOf 8 = .ok (.invokevirtual 132, 3) := by decide +kernel
theorem dX11_isOf_11 : decode cX11_isOf 11 = .ok (.ifCond .eq 12, 3) := by decide +kernel
theorem dX11_isOf_14 : decode cX11_isOf 14 = .ok (.iload_n 2, 1) := by decide +kernel
theorem dX11_isOf_15 : decode cX11_isOf 15 = .ok (.iconst 0, 1) := by decide +kernel
theorem dX11_isOf_16 : decode cX11_isOf 16 = .ok (.iconst 3, 1) := by decide +kernel
theorem dX11_isOf_17 : decode cX11_isOf 17 = .ok (.invokestatic 117, 3) := by decide +kernel
theorem dX11_isOf_20 : decode cX11_isOf 20 = .ok (.ifCond .ne 6, 3) := by decide +kernel
theorem dX11_isOf_23 : decode cX11_isOf 23 = .ok (.ldc 70, 2) := by decide +kernel
theorem dX11_isOf_25 : decode cX11_isOf 25 = .ok (.ireturn, 1) := by decide +kernel
theorem dX11_isOf_26 : decode cX11_isOf 26 = .ok (.aload_n 0, 1) := by decide +kernel
theorem dX11_isOf_27 : decode cX11_isOf 27 = .ok (.getfield 10, 3) := by decide +kernel
theorem dX11_isOf_30 : decode cX11_isOf 30 = .ok (.getfield 122, 3) := by decide +kernel
theorem dX11_isOf_33 : decode cX11_isOf 33 = .ok (.getfield 133, 3) := by decide +kernel
theorem dX11_isOf_36 : decode cX11_isOf 36 = .ok (.iload_n 1, 1) := by decide +kernel
theorem dX11_isOf_37 : decode cX11_isOf 37 = .ok (.iaload, 1) := by decide +kernel
theorem dX11_isOf_38 : decode cX11_isOf 38 = .ok (.istore_n 3, 1) := by decide +kernel
theorem dX11_isOf_39 : decode cX11_isOf 39 = .ok (.iload_n 2, 1) := by decide +kernel
theorem dX11_isOf_40 : decode cX11_isOf 40 = .ok (.ifCond .eq 18, 3) := by decide +kernel
theorem dX11_isOf_43 : decode cX11_isOf 43 = .ok (.iload_n 2, 1) := by decide +kernel
theorem dX11_isOf_44 : decode cX11_isOf 44 = .ok (.iload_n 3, 1) := by decide +kernel
theorem dX11_isOf_45 : decode cX11_isOf 45 = .ok (.if_icmp .eq 13, 3) := by decide +kernel
theorem dX11_isOf_48 : decode cX11_isOf 48 = .ok (.iload_n 2, 1) := by decide +kernel
theorem dX11_isOf_49 : decode cX11_isOf 49 = .ok (.iconst 2, 1) := by decide +kernel
theorem dX11_isOf_50 : decode cX11_isOf 50 = .ok (.if_icmp .ne 12, 3) := by decide +kernel
theorem dX11_isOf_53 : decode cX11_isOf 53 = .ok (.iload_n 3, 1) := by decide +kernel
theorem dX11_isOf_54 : decode cX11_isOf 54 = .ok (.iconst 3, 1) := by decide +kernel
theorem dX11_isOf_55 : decode cX11_isOf 55 = .ok (.if_icmp .ne 7, 3) := by decide +kernel
theorem dX11_isOf_58 : decode cX11_isOf 58 = .ok (.iconst 1, 1) := by decide +kernel
theorem dX11_isOf_59 : decode cX11_isOf 59 = .ok (.goto 4, 3) := by decide +kernel
theorem dX11_isOf_62 : decode cX11_isOf 62 = .ok (.iconst 0, 1) := by decide +kernel
theorem dX11_isOf_63 : decode cX11_isOf 63 = .ok (.istore 4, 2) := by decide +kernel
theorem dX11_isOf_65 : decode cX11_isOf 65 = .ok (.iload 4, 2) := by decide +kernel
theorem dX11_isOf_67 : decode cX11_isOf 67 = .ok (.ifCond .eq 7, 3) := by decide +kernel
theorem dX11_isOf_70 : decode cX11_isOf 70 = .ok (.iconst 1, 1) := by decide +kernel
theorem dX11_isOf_71 : decode cX11_isOf 71 = .ok (.goto 4, 3) := by decide +kernel
theorem dX11_isOf_74 : decode cX11_isOf 74 = .ok (.iconst 0, 1) := by decide +kernel
theorem dX11_isOf_75 : decode cX11_isOf 75 = .ok (.ireturn, 1) := by decide +kernel
theorem dX11_move_0 : decode cX11_move 0 = .ok (.aload_n 0, 1) := by decide +kernel
theorem dX11_move_1 : decode cX11_move 1 = .ok (.getfield 10, 3) := by decide +kernel
theorem dX11_move_4 : decode cX11_move 4 = .ok (.getfield 122, 3) := by decide +kernel
theorem dX11_move_7 : decode cX11_move 7 = .ok (.iload_n 1, 1) := by decide +kernel
theorem dX11_move_8 : decode cX11_move 8 = .ok (.invokevirtual 132, 3) := by decide +kernel
theorem dX11_move_11 : decode cX11_move 11 = .ok (.ifCond .eq 16, 3) := by decide +kernel
theorem dX11_move_14 : decode cX11_move 14 = .ok (.iload_n 2, 1) := by decide +kernel
theorem dX11_move_15 : decode cX11_move 15 = .ok (.ldc 136, 2) := by decide +kernel
theorem dX11_move_17 : decode cX11_move 17 = .ok (.if_icmp .eq 13, 3) := by decide +kernel
theorem dX11_move_20 : decode cX11_move 20 = .ok (.iload_n 2, 1) := by decide +kernel
theorem dX11_move_21 : decode cX11_move 21 = .ok (.invokestatic 63, 3) := by decide +kernel
theorem dX11_move_24 : decode cX11_move 24 = .ok (.ifCond .ne 6, 3) := by decide +kernel
theorem dX11_move_27 : decode cX11_move 27 = .ok (.ldc 70, 2) := by decide +kernel
theorem dX11_move_29 : decode cX11_move 29 = .ok (.ireturn, 1) := by decide +kernel
theorem dX11_move_30 : decode cX11_move 30 = .ok (.aload_n 0, 1) := by decide +kernel
theorem dX11_move_31 : decode cX11_move 31 = .ok (.getfield 38, 3) := by decide +kernel
theorem dX11_move_34 : decode cX11_move 34 = .ok (.aload_n 0, 1) := by decide +kernel
theorem dX11_move_35 : decode cX11_move 35 = .ok (.getfield 10, 3) := by decide +kernel
theorem dX11_move_38 : decode cX11_move 38 = .ok (.getfield 137, 3) := by decide +kernel
theorem dX11_move_41 : decode cX11_move 41 = .ok (.invokevirtual 140, 3) := by decide +kernel
theorem dX11_move_44 : decode cX11_move 44 = .ok (.aload_n 0, 1) := by decide +kernel
theorem dX11_move_45 : decode cX11_move 45 = .ok (.getfield 38, 3) := by decide +kernel
theorem dX11_move_48 : decode cX11_move 48 = .ok (.getfield 144, 3) := by decide +kernel
theorem dX11_move_51 : decode cX11_move 51 = .ok (.iload_n 1, 1) := by decide +kernel
theorem dX11_move_52 : decode cX11_move 52 = .ok (.iaload, 1) := by decide +kernel
theorem dX11_move_53 : decode cX11_move 53 = .ok (.istore_n 3, 1) := by decide +kernel
theorem dX11_move_54 : decode cX11_move 54 = .ok (.iload_n 3, 1) := by decide +kernel
theorem dX11_move_55 : decode cX11_move 55 = .ok (.iload_n 2, 1) := by decide +kernel
theorem dX11_move_56 : decode cX11_move 56 = .ok (.if_icmp .eq 23, 3) := by decide +kernel
theorem dX11_move_59 : decode cX11_move 59 = .ok (.iload_n 2, 1) := by decide +kernel
theorem dX11_move_60 : decode cX11_move 60 = .ok (.ldc 136, 2) := by decide +kernel
theorem dX11_move_62 : decode cX11_move 62 = .ok (.if_icmp .eq 20, 3) := by decide +kernel
theorem dX11_move_65 : decode cX11_move 65 = .ok (.aload_n 0, 1) := by decide +kernel
theorem dX11_move_66 : decode cX11_move 66 = .ok (.getfield 38, 3) := by decide +kernel
theorem dX11_move_69 : decode cX11_move 69 = .ok (.getfield 147, 3) := by decide +kernel
theorem dX11_move_72 : decode cX11_move 72 = .ok (.iload_n 2, 1) := by decide +kernel
theorem dX11_move_73 : decode cX11_move 73 = .ok (.iaload, 1) := by decide +kernel
theorem dX11_move_74 : decode cX11_move 74 = .ok (.ldc 136, 2) := by decide +kernel
theorem dX11_move_76 : decode cX11_move 76 = .ok (.if_icmp .eq 6, 3) := by decide +kernel
theorem dX11_move_79 : decode cX11_move 79 = .ok (.ldc 150, 2) := by decide +kernel
theorem dX11_move_81 : decode cX11_move 81 = .ok (.ireturn, 1) := by decide +kernel
theorem dX11_move_82 : decode cX11_move 82 = .ok (.aload_n 0, 1) := by decide +kernel
theorem dX11_move_83 : decode cX11_move 83 = .ok (.getfield 10, 3) := by decide +kernel
theorem dX11_move_86 : decode cX11_move 86 = .ok (.getfield 151, 3) := by decide +kernel
theorem dX11_move_89 : decode cX11_move 89 = .ok (.getfield 155, 3) := by decide +kernel
theorem dX11_move_92 : decode cX11_move 92 = .ok (.sipush 200, 3) := by decide +kernel
theorem dX11_move_95 : decode cX11_move 95 = .ok (.if_icmp .lt 6, 3) := by decide +kernel
theorem dX11_move_98 : decode cX11_move 98 = .ok (.ldc 107, 2) := by decide +kernel
theorem dX11_move_100 : decode cX11_move 100 = .ok (.ireturn, 1) := by decide +kernel
theorem dX11_move_101 : decode cX11_move 101 = .ok (.aload_n 0, 1) := by decide +kernel
theorem dX11_move_102 : decode cX11_move 102 = .ok (.getfield 10, 3) := by decide +kernel
theorem dX11_move_105 : decode cX11_move 105 = .ok (.getfield 151, 3) := by decide +kernel
theorem dX11_move_108 : decode cX11_move 108 = .ok (.iload_n 1, 1) := by decide +kernel
theorem dX11_move_109 : decode cX11_move 109 = .ok (.aload_n 0, 1) := by decide +kernel
theorem dX11_move_110 : decode cX11_move 110 = .ok (.getfield 10, 3) := by decide +kernel
theorem dX11_move_113 : decode cX11_move 113 = .ok (.getfield 137, 3) := by decide +kernel
theorem dX11_move_116 : decode cX11_move 116 = .ok (.iload_n 2, 1) := by decide +kernel
theorem dX11_move_117 : decode cX11_move 117 = .ok (.invokevirtual 158, 3) := by decide +kernel
theorem dX11_move_120 : decode cX11_move 120 = .ok (.iload_n 3, 1) := by decide +kernel
theorem dX11_move_121 : decode cX11_move 121 = .ok (.ireturn, 1) := by decide +kernel
theorem dX11_months_0 : decode cX11_months 0 = .ok (.iload_n 1, 1) := by decide +kernel
theorem dX11_months_1 : decode cX11_months 1 = .ok (.iconst 1, 1) := by decide +kernel
theorem dX11_months_2 : decode cX11_months 2 = .ok (.bipush 24, 2) := by decide +kernel
theorem dX11_months_4 : decode cX11_months 4 = .ok (.invokestatic 117, 3) := by decide +kernel
theorem dX11_months_7 : decode cX11_months 7 = .ok (.ifCond .eq 17, 3) := by decide +kernel
theorem dX11_months_10 : decode cX11_months 10 = .ok (.aload_n 0, 1) := by decide +kernel
theorem dX11_months_11 : decode cX11_months 11 = .ok (.getfield 10, 3) := by decide +kernel
theorem dX11_months_14 : decode cX11_months 14 = .ok (.getfield 137, 3) := by decide +kernel
theorem dX11_months_17 : decode cX11_months 17 = .ok (.iload_n 1, 1) := by decide +kernel
theorem dX11_months_18 : decode cX11_months 18 = .ok (.iadd, 1) := by decide +kernel
theorem dX11_months_19 : decode cX11_months 19 = .ok (.bipush 120, 2) := by decide +kernel
theorem dX11_months_21 : decode cX11_months 21 = .ok (.if_icmp .le 6, 3) := by decide +kernel
theorem dX11_months_24 : decode cX11_months 24 = .ok (.ldc 70, 2) := by decide +kernel
theorem dX11_months_26 : decode cX11_months 26 = .ok (.ireturn, 1) := by decide +kernel
theorem dX11_months_27 : decode cX11_months 27 = .ok (.aload_n 0, 1) := by decide +kernel
theorem dX11_months_28 : decode cX11_months 28 = .ok (.getfield 10, 3) := by decide +kernel
theorem dX11_months_31 : decode cX11_months 31 = .ok (.dup, 1) := by decide +kernel
theorem dX11_months_32 : decode cX11_months 32 = .ok (.getfield 137, 3) := by decide +kernel
theorem dX11_months_35 : decode cX11_months 35 = .ok (.iload_n 1, 1) := by decide +kernel
theorem dX11_months_36 : decode cX11_months 36 = .ok (.iadd, 1) := by decide +kernel
theorem dX11_months_37 : decode cX11_months 37 = .ok (.putfield 137, 3) := by decide +kernel
theorem dX11_months_40 : decode cX11_months 40 = .ok (.aload_n 0, 1) := by decide +kernel
theorem dX11_months_41 : decode cX11_months 41 = .ok (.getfield 10, 3) := by decide +kernel
theorem dX11_months_44 : decode cX11_months 44 = .ok (.getfield 137, 3) := by decide +kernel
theorem dX11_months_47 : decode cX11_months 47 = .ok (.ireturn, 1) := by decide +kernel
theorem dX11_rule_0 : decode cX11_rule 0 = .ok (.iload_n 1, 1) := by decide +kernel
theorem dX11_rule_1 : decode cX11_rule 1 = .ok (.ifCond .ne 13, 3) := by decide +kernel
theorem dX11_rule_4 : decode cX11_rule 4 = .ok (.iload_n 2, 1) := by decide +kernel
theorem dX11_rule_5 : decode cX11_rule 5 = .ok (.iconst 0, 1) := by decide +kernel
theorem dX11_rule_6 : decode cX11_rule 6 = .ok (.bipush 100, 2) := by decide +kernel
theorem dX11_rule_8 : decode cX11_rule 8 = .ok (.invokestatic 117, 3) := by decide +kernel
theorem dX11_rule_11 : decode cX11_rule 11 = .ok (.ifCond .ne 20, 3) := by decide +kernel
theorem dX11_rule_14 : decode cX11_rule 14 = .ok (.iload_n 1, 1) := by decide +kernel
theorem dX11_rule_15 : decode cX11_rule 15 = .ok (.iconst 1, 1) := by decide +kernel
theorem dX11_rule_16 : decode cX11_rule 16 = .ok (.if_icmp .ne 19, 3) := by decide +kernel
theorem dX11_rule_19 : decode cX11_rule 19 = .ok (.iload_n 2, 1) := by decide +kernel
theorem dX11_rule_20 : decode cX11_rule 20 = .ok (.bipush 100, 2) := by decide +kernel
theorem dX11_rule_22 : decode cX11_rule 22 = .ok (.sipush 999, 3) := by decide +kernel
theorem dX11_rule_25 : decode cX11_rule 25 = .ok (.invokestatic 117, 3) := by decide +kernel
theorem dX11_rule_28 : decode cX11_rule 28 = .ok (.ifCond .eq 7, 3) := by decide +kernel
theorem dX11_rule_31 : decode cX11_rule 31 = .ok (.iconst 1, 1) := by decide +kernel
theorem dX11_rule_32 : decode cX11_rule 32 = .ok (.goto 4, 3) := by decide +kernel
theorem dX11_rule_35 : decode cX11_rule 35 = .ok (.iconst 0, 1) := by decide +kernel
theorem dX11_rule_36 : decode cX11_rule 36 = .ok (.istore_n 3, 1) := by decide +kernel
theorem dX11_rule_37 : decode cX11_rule 37 = .ok (.iload_n 3, 1) := by decide +kernel
theorem dX11_rule_38 : decode cX11_rule 38 = .ok (.ifCond .ne 6, 3) := by decide +kernel
theorem dX11_rule_41 : decode cX11_rule 41 = .ok (.ldc 70, 2) := by decide +kernel
theorem dX11_rule_43 : decode cX11_rule 43 = .ok (.ireturn, 1) := by decide +kernel
theorem dX11_rule_44 : decode cX11_rule 44 = .ok (.aload_n 0, 1) := by decide +kernel
theorem dX11_rule_45 : decode cX11_rule 45 = .ok (.getfield 10, 3) := by decide +kernel
theorem dX11_rule_48 : decode cX11_rule 48 = .ok (.getfield 161, 3) := by decide +kernel
theorem dX11_rule_51 : decode cX11_rule 51 = .ok (.iload_n 1, 1) := by decide +kernel
theorem dX11_rule_52 : decode cX11_rule 52 = .ok (.iaload, 1) := by decide +kernel
theorem dX11_rule_53 : decode cX11_rule 53 = .ok (.istore 4, 2) := by decide +kernel
theorem dX11_rule_55 : decode cX11_rule 55 = .ok (.aload_n 0, 1) := by decide +kernel
theorem dX11_rule_56 : decode cX11_rule 56 = .ok (.getfield 10, 3) := by decide +kernel
theorem dX11_rule_59 : decode cX11_rule 59 = .ok (.getfield 161, 3) := by decide +kernel
theorem dX11_rule_62 : decode cX11_rule 62 = .ok (.iload_n 1, 1) := by decide +kernel
theorem dX11_rule_63 : decode cX11_rule 63 = .ok (.iload_n 2, 1) := by decide +kernel
theorem dX11_rule_64 : decode cX11_rule 64 = .ok (.iastore, 1) := by decide +kernel
theorem dX11_rule_65 : decode cX11_rule 65 = .ok (.iload 4, 2) := by decide +kernel
theorem dX11_rule_67 : decode cX11_rule 67 = .ok (.ireturn, 1) := by decide +kernel
theorem dX11_stands_0 : decode cX11_stands 0 = .ok (.aload_n 0, 1) := by decide +kernel
theorem dX11_stands_1 : decode cX11_stands 1 = .ok (.getfield 10, 3) := by decide +kernel
theorem dX11_stands_4 : decode cX11_stands 4 = .ok (.getfield 122, 3) := by decide +kernel
theorem dX11_stands_7 : decode cX11_stands 7 = .ok (.iload_n 1, 1) := by decide +kernel
theorem dX11_stands_8 : decode cX11_stands 8 = .ok (.invokevirtual 132, 3) := by decide +kernel
theorem dX11_stands_11 : decode cX11_stands 11 = .ok (.ifCond .eq 21, 3) := by decide +kernel
theorem dX11_stands_14 : decode cX11_stands 14 = .ok (.aload_n 0, 1) := by decide +kernel
theorem dX11_stands_15 : decode cX11_stands 15 = .ok (.iload_n 2, 1) := by decide +kernel
theorem dX11_stands_16 : decode cX11_stands 16 = .ok (.invokevirtual 164, 3) := by decide +kernel
theorem dX11_stands_19 : decode cX11_stands 19 = .ok (.ifCond .eq 13, 3) := by decide +kernel
theorem dX11_stands_22 : decode cX11_stands 22 = .ok (.iload_n 3, 1) := by decide +kernel
theorem dX11_stands_23 : decode cX11_stands 23 = .ok (.iconst 0, 1) := by decide +kernel
theorem dX11_stands_24 : decode cX11_stands 24 = .ok (.bipush 7, 2) := by decide +kernel
theorem dX11_stands_26 : decode cX11_stands 26 = .ok (.invokestatic 117, 3) := by decide +kernel
theorem dX11_stands_29 : decode cX11_stands 29 = .ok (.ifCond .ne 6, 3) := by decide +kernel
theorem dX11_stands_32 : decode cX11_stands 32 = .ok (.ldc 70, 2) := by decide +kernel
theorem dX11_stands_34 : decode cX11_stands 34 = .ok (.ireturn, 1) := by decide +kernel
theorem dX11_stands_35 : decode cX11_stands 35 = .ok (.aload_n 0, 1) := by decide +kernel
theorem dX11_stands_36 : decode cX11_stands 36 = .ok (.getfield 38, 3) := by decide +kernel
theorem dX11_stands_39 : decode cX11_stands 39 = .ok (.iload_n 2, 1) := by decide +kernel
theorem dX11_stands_40 : decode cX11_stands 40 = .ok (.invokevirtual 140, 3) := by decide +kernel
theorem dX11_stands_43 : decode cX11_stands 43 = .ok (.aload_n 0, 1) := by decide +kernel
theorem dX11_stands_44 : decode cX11_stands 44 = .ok (.getfield 38, 3) := by decide +kernel
theorem dX11_stands_47 : decode cX11_stands 47 = .ok (.getfield 144, 3) := by decide +kernel
theorem dX11_stands_50 : decode cX11_stands 50 = .ok (.iload_n 1, 1) := by decide +kernel
theorem dX11_stands_51 : decode cX11_stands 51 = .ok (.iaload, 1) := by decide +kernel
theorem dX11_stands_52 : decode cX11_stands 52 = .ok (.istore 4, 2) := by decide +kernel
theorem dX11_stands_54 : decode cX11_stands 54 = .ok (.iload_n 3, 1) := by decide +kernel
theorem dX11_stands_55 : decode cX11_stands 55 = .ok (.ifCond .ne 6, 3) := by decide +kernel
theorem dX11_stands_58 : decode cX11_stands 58 = .ok (.iload 4, 2) := by decide +kernel
theorem dX11_stands_60 : decode cX11_stands 60 = .ok (.ireturn, 1) := by decide +kernel
theorem dX11_stands_61 : decode cX11_stands 61 = .ok (.iload 4, 2) := by decide +kernel
theorem dX11_stands_63 : decode cX11_stands 63 = .ok (.ldc 136, 2) := by decide +kernel
theorem dX11_stands_65 : decode cX11_stands 65 = .ok (.if_icmp .ne 6, 3) := by decide +kernel
theorem dX11_stands_68 : decode cX11_stands 68 = .ok (.ldc 150, 2) := by decide +kernel
theorem dX11_stands_70 : decode cX11_stands 70 = .ok (.ireturn, 1) := by decide +kernel
theorem dX11_stands_71 : decode cX11_stands 71 = .ok (.iload_n 3, 1) := by decide +kernel
theorem dX11_stands_72 : decode cX11_stands 72 = .ok (.tableswitch 98 1 6 #[40, 50, 61, 70, 79, 88], 40) := by decide +kernel
theorem dX11_stands_112 : decode cX11_stands 112 = .ok (.aload_n 0, 1) := by decide +kernel
theorem dX11_stands_113 : decode cX11_stands 113 = .ok (.getfield 38, 3) := by decide +kernel
theorem dX11_stands_116 : decode cX11_stands 116 = .ok (.getfield 167, 3) := by decide +kernel
theorem dX11_stands_119 : decode cX11_stands 119 = .ok (.iload_n 1, 1) := by decide +kernel
theorem dX11_stands_120 : decode cX11_stands 120 = .ok (.iaload, 1) := by decide +kernel
theorem dX11_stands_121 : decode cX11_stands 121 = .ok (.ireturn, 1) := by decide +kernel
theorem dX11_stands_122 : decode cX11_stands 122 = .ok (.aload_n 0, 1) := by decide +kernel
theorem dX11_stands_123 : decode cX11_stands 123 = .ok (.getfield 38, 3) := by decide +kernel
theorem dX11_stands_126 : decode cX11_stands 126 = .ok (.getfield 170, 3) := by decide +kernel
theorem dX11_stands_129 : decode cX11_stands 129 = .ok (.iload 4, 2) := by decide +kernel
theorem dX11_stands_131 : decode cX11_stands 131 = .ok (.iaload, 1) := by decide +kernel
theorem dX11_stands_132 : decode cX11_stands 132 = .ok (.ireturn, 1) := by decide +kernel
theorem dX11_stands_133 : decode cX11_stands 133 = .ok (.aload_n 0, 1) := by decide +kernel
theorem dX11_stands_134 : decode cX11_stands 134 = .ok (.getfield 38, 3) := by decide +kernel
theorem dX11_stands_137 : decode cX11_stands 137 = .ok (.iload_n 1, 1) := by decide +kernel
theorem dX11_stands_138 : decode cX11_stands 138 = .ok (.invokevirtual 173, 3) := by decide +kernel
theorem dX11_stands_141 : decode cX11_stands 141 = .ok (.ireturn, 1) := by decide +kernel
theorem dX11_stands_142 : decode cX11_stands 142 = .ok (.aload_n 0, 1) := by decide +kernel
theorem dX11_stands_143 : decode cX11_stands 143 = .ok (.getfield 38, 3) := by decide +kernel
theorem dX11_stands_146 : decode cX11_stands 146 = .ok (.iload_n 1, 1) := by decide +kernel
theorem dX11_stands_147 : decode cX11_stands 147 = .ok (.invokevirtual 177, 3) := by decide +kernel
theorem dX11_stands_150 : decode cX11_stands 150 = .ok (.ireturn, 1) := by decide +kernel
theorem dX11_stands_151 : decode cX11_stands 151 = .ok (.aload_n 0, 1) := by decide +kernel
theorem dX11_stands_152 : decode cX11_stands 152 = .ok (.getfield 38, 3) := by decide +kernel
theorem dX11_stands_155 : decode cX11_stands 155 = .ok (.iload_n 1, 1) := by decide +kernel
theorem dX11_stands_156 : decode cX11_stands 156 = .ok (.invokevirtual 180, 3) := by decide +kernel
theorem dX11_stands_159 : decode cX11_stands 159 = .ok (.ireturn, 1) := by decide +kernel
theorem dX11_stands_160 : decode cX11_stands 160 = .ok (.aload_n 0, 1) := by decide +kernel
theorem dX11_stands_161 : decode cX11_stands 161 = .ok (.getfield 38, 3) := by decide +kernel
theorem dX11_stands_164 : decode cX11_stands 164 = .ok (.iload 4, 2) := by decide +kernel
theorem dX11_stands_166 : decode cX11_stands 166 = .ok (.invokevirtual 183, 3) := by decide +kernel
theorem dX11_stands_169 : decode cX11_stands 169 = .ok (.ireturn, 1) := by decide +kernel
theorem dX11_stands_170 : decode cX11_stands 170 = .ok (.aload_n 0, 1) := by decide +kernel
theorem dX11_stands_171 : decode cX11_stands 171 = .ok (.getfield 38, 3) := by decide +kernel
theorem dX11_stands_174 : decode cX11_stands 174 = .ok (.iload_n 1, 1) := by decide +kernel
theorem dX11_stands_175 : decode cX11_stands 175 = .ok (.invokevirtual 186, 3) := by decide +kernel
theorem dX11_stands_178 : decode cX11_stands 178 = .ok (.ifCond .eq 7, 3) := by decide +kernel
theorem dX11_stands_181 : decode cX11_stands 181 = .ok (.iconst 1, 1) := by decide +kernel
theorem dX11_stands_182 : decode cX11_stands 182 = .ok (.goto 4, 3) := by decide +kernel
theorem dX11_stands_185 : decode cX11_stands 185 = .ok (.iconst 0, 1) := by decide +kernel
theorem dX11_stands_186 : decode cX11_stands 186 = .ok (.ireturn, 1) := by decide +kernel
theorem dX11_past_0 : decode cX11_past 0 = .ok (.iload_n 1, 1) := by decide +kernel
theorem dX11_past_1 : decode cX11_past 1 = .ok (.invokestatic 63, 3) := by decide +kernel
theorem dX11_past_4 : decode cX11_past 4 = .ok (.ifCond .eq 11, 3) := by decide +kernel
theorem dX11_past_7 : decode cX11_past 7 = .ok (.aload_n 0, 1) := by decide +kernel
theorem dX11_past_8 : decode cX11_past 8 = .ok (.iload_n 2, 1) := by decide +kernel
theorem dX11_past_9 : decode cX11_past 9 = .ok (.invokevirtual 164, 3) := by decide +kernel
theorem dX11_past_12 : decode cX11_past 12 = .ok (.ifCond .ne 6, 3) := by decide +kernel
theorem dX11_past_15 : decode cX11_past 15 = .ok (.ldc 70, 2) := by decide +kernel
theorem dX11_past_17 : decode cX11_past 17 = .ok (.ireturn, 1) := by decide +kernel
theorem dX11_past_18 : decode cX11_past 18 = .ok (.aload_n 0, 1) := by decide +kernel
theorem dX11_past_19 : decode cX11_past 19 = .ok (.getfield 38, 3) := by decide +kernel
theorem dX11_past_22 : decode cX11_past 22 = .ok (.iload_n 2, 1) := by decide +kernel
theorem dX11_past_23 : decode cX11_past 23 = .ok (.invokevirtual 140, 3) := by decide +kernel
theorem dX11_past_26 : decode cX11_past 26 = .ok (.aload_n 0, 1) := by decide +kernel
theorem dX11_past_27 : decode cX11_past 27 = .ok (.getfield 38, 3) := by decide +kernel
theorem dX11_past_30 : decode cX11_past 30 = .ok (.getfield 170, 3) := by decide +kernel
theorem dX11_past_33 : decode cX11_past 33 = .ok (.iload_n 1, 1) := by decide +kernel
theorem dX11_past_34 : decode cX11_past 34 = .ok (.iaload, 1) := by decide +kernel
theorem dX11_past_35 : decode cX11_past 35 = .ok (.ireturn, 1) := by decide +kernel
theorem dX11_take_0 : decode cX11_take 0 = .ok (.aload_n 0, 1) := by decide +kernel
theorem dX11_take_1 : decode cX11_take 1 = .ok (.getfield 10, 3) := by decide +kernel
theorem dX11_take_4 : decode cX11_take 4 = .ok (.getfield 122, 3) := by decide +kernel
theorem dX11_take_7 : decode cX11_take 7 = .ok (.iload_n 1, 1) := by decide +kernel
theorem dX11_take_8 : decode cX11_take 8 = .ok (.invokevirtual 132, 3) := by decide +kernel
theorem dX11_take_11 : decode cX11_take 11 = .ok (.ifCond .eq 22, 3) := by decide +kernel
theorem dX11_take_14 : decode cX11_take 14 = .ok (.aload_n 0, 1) := by decide +kernel
theorem dX11_take_15 : decode cX11_take 15 = .ok (.iload_n 2, 1) := by decide +kernel
theorem dX11_take_16 : decode cX11_take 16 = .ok (.invokevirtual 164, 3) := by decide +kernel
theorem dX11_take_19 : decode cX11_take 19 = .ok (.ifCond .eq 14, 3) := by decide +kernel
theorem dX11_take_22 : decode cX11_take 22 = .ok (.iload_n 3, 1) := by decide +kernel
theorem dX11_take_23 : decode cX11_take 23 = .ok (.ldc 189, 2) := by decide +kernel
theorem dX11_take_25 : decode cX11_take 25 = .ok (.ldc 121, 2) := by decide +kernel
theorem dX11_take_27 : decode cX11_take 27 = .ok (.invokestatic 117, 3) := by decide +kernel
theorem dX11_take_30 : decode cX11_take 30 = .ok (.ifCond .ne 6, 3) := by decide +kernel
theorem dX11_take_33 : decode cX11_take 33 = .ok (.ldc 70, 2) := by decide +kernel
theorem dX11_take_35 : decode cX11_take 35 = .ok (.ireturn, 1) := by decide +kernel
theorem dX11_take_36 : decode cX11_take 36 = .ok (.aload_n 0, 1) := by decide +kernel
theorem dX11_take_37 : decode cX11_take 37 = .ok (.getfield 10, 3) := by decide +kernel
theorem dX11_take_40 : decode cX11_take 40 = .ok (.getfield 190, 3) := by decide +kernel
theorem dX11_take_43 : decode cX11_take 43 = .ok (.getfield 194, 3) := by decide +kernel
theorem dX11_take_46 : decode cX11_take 46 = .ok (.bipush 100, 2) := by decide +kernel
theorem dX11_take_48 : decode cX11_take 48 = .ok (.if_icmp .lt 6, 3) := by decide +kernel
theorem dX11_take_51 : decode cX11_take 51 = .ok (.ldc 107, 2) := by decide +kernel
theorem dX11_take_53 : decode cX11_take 53 = .ok (.ireturn, 1) := by decide +kernel
theorem dX11_take_54 : decode cX11_take 54 = .ok (.aload_n 0, 1) := by decide +kernel
theorem dX11_take_55 : decode cX11_take 55 = .ok (.getfield 10, 3) := by decide +kernel
theorem dX11_take_58 : decode cX11_take 58 = .ok (.getfield 190, 3) := by decide +kernel
theorem dX11_take_61 : decode cX11_take 61 = .ok (.iload_n 1, 1) := by decide +kernel
theorem dX11_take_62 : decode cX11_take 62 = .ok (.iload_n 2, 1) := by decide +kernel
theorem dX11_take_63 : decode cX11_take 63 = .ok (.iload_n 3, 1) := by decide +kernel
theorem dX11_take_64 : decode cX11_take 64 = .ok (.aload_n 0, 1) := by decide +kernel
theorem dX11_take_65 : decode cX11_take 65 = .ok (.getfield 10, 3) := by decide +kernel
theorem dX11_take_68 : decode cX11_take 68 = .ok (.getfield 137, 3) := by decide +kernel
theorem dX11_take_71 : decode cX11_take 71 = .ok (.invokevirtual 197, 3) := by decide +kernel
theorem dX11_take_74 : decode cX11_take 74 = .ok (.ireturn, 1) := by decide +kernel
theorem dX11_withdraw_0 : decode cX11_withdraw 0 = .ok (.aload_n 0, 1) := by decide +kernel
theorem dX11_withdraw_1 : decode cX11_withdraw 1 = .ok (.getfield 10, 3) := by decide +kernel
theorem dX11_withdraw_4 : decode cX11_withdraw 4 = .ok (.getfield 190, 3) := by decide +kernel
theorem dX11_withdraw_7 : decode cX11_withdraw 7 = .ok (.iload_n 1, 1) := by decide +kernel
theorem dX11_withdraw_8 : decode cX11_withdraw 8 = .ok (.invokevirtual 200, 3) := by decide +kernel
theorem dX11_withdraw_11 : decode cX11_withdraw 11 = .ok (.ifCond .ne 6, 3) := by decide +kernel
theorem dX11_withdraw_14 : decode cX11_withdraw 14 = .ok (.ldc 70, 2) := by decide +kernel
theorem dX11_withdraw_16 : decode cX11_withdraw 16 = .ok (.ireturn, 1) := by decide +kernel
theorem dX11_withdraw_17 : decode cX11_withdraw 17 = .ok (.aload_n 0, 1) := by decide +kernel
theorem dX11_withdraw_18 : decode cX11_withdraw 18 = .ok (.getfield 10, 3) := by decide +kernel
theorem dX11_withdraw_21 : decode cX11_withdraw 21 = .ok (.getfield 190, 3) := by decide +kernel
theorem dX11_withdraw_24 : decode cX11_withdraw 24 = .ok (.getfield 201, 3) := by decide +kernel
theorem dX11_withdraw_27 : decode cX11_withdraw 27 = .ok (.iload_n 1, 1) := by decide +kernel
theorem dX11_withdraw_28 : decode cX11_withdraw 28 = .ok (.iaload, 1) := by decide +kernel
theorem dX11_withdraw_29 : decode cX11_withdraw 29 = .ok (.ldc 136, 2) := by decide +kernel
theorem dX11_withdraw_31 : decode cX11_withdraw 31 = .ok (.if_icmp .eq 6, 3) := by decide +kernel
theorem dX11_withdraw_34 : decode cX11_withdraw 34 = .ok (.ldc 150, 2) := by decide +kernel
theorem dX11_withdraw_36 : decode cX11_withdraw 36 = .ok (.ireturn, 1) := by decide +kernel
theorem dX11_withdraw_37 : decode cX11_withdraw 37 = .ok (.aload_n 0, 1) := by decide +kernel
theorem dX11_withdraw_38 : decode cX11_withdraw 38 = .ok (.getfield 10, 3) := by decide +kernel
theorem dX11_withdraw_41 : decode cX11_withdraw 41 = .ok (.getfield 190, 3) := by decide +kernel
theorem dX11_withdraw_44 : decode cX11_withdraw 44 = .ok (.getfield 201, 3) := by decide +kernel
theorem dX11_withdraw_47 : decode cX11_withdraw 47 = .ok (.iload_n 1, 1) := by decide +kernel
theorem dX11_withdraw_48 : decode cX11_withdraw 48 = .ok (.aload_n 0, 1) := by decide +kernel
theorem dX11_withdraw_49 : decode cX11_withdraw 49 = .ok (.getfield 10, 3) := by decide +kernel
theorem dX11_withdraw_52 : decode cX11_withdraw 52 = .ok (.getfield 137, 3) := by decide +kernel
theorem dX11_withdraw_55 : decode cX11_withdraw 55 = .ok (.iastore, 1) := by decide +kernel
theorem dX11_withdraw_56 : decode cX11_withdraw 56 = .ok (.iconst 1, 1) := by decide +kernel
theorem dX11_withdraw_57 : decode cX11_withdraw 57 = .ok (.ireturn, 1) := by decide +kernel
theorem dX11_line_0 : decode cX11_line 0 = .ok (.aload_n 0, 1) := by decide +kernel
theorem dX11_line_1 : decode cX11_line 1 = .ok (.getfield 10, 3) := by decide +kernel
theorem dX11_line_4 : decode cX11_line 4 = .ok (.getfield 190, 3) := by decide +kernel
theorem dX11_line_7 : decode cX11_line 7 = .ok (.iload_n 1, 1) := by decide +kernel
theorem dX11_line_8 : decode cX11_line 8 = .ok (.invokevirtual 200, 3) := by decide +kernel
theorem dX11_line_11 : decode cX11_line 11 = .ok (.ifCond .eq 12, 3) := by decide +kernel
theorem dX11_line_14 : decode cX11_line 14 = .ok (.iload_n 2, 1) := by decide +kernel
theorem dX11_line_15 : decode cX11_line 15 = .ok (.iconst 0, 1) := by decide +kernel
theorem dX11_line_16 : decode cX11_line 16 = .ok (.iconst 4, 1) := by decide +kernel
theorem dX11_line_17 : decode cX11_line 17 = .ok (.invokestatic 117, 3) := by decide +kernel
theorem dX11_line_20 : decode cX11_line 20 = .ok (.ifCond .ne 6, 3) := by decide +kernel
theorem dX11_line_23 : decode cX11_line 23 = .ok (.ldc 70, 2) := by decide +kernel
theorem dX11_line_25 : decode cX11_line 25 = .ok (.ireturn, 1) := by decide +kernel
theorem dX11_line_26 : decode cX11_line 26 = .ok (.iload_n 2, 1) := by decide +kernel
theorem dX11_line_27 : decode cX11_line 27 = .ok (.tableswitch 81 0 3 #[29, 42, 55, 68], 29) := by decide +kernel
theorem dX11_line_56 : decode cX11_line 56 = .ok (.aload_n 0, 1) := by decide +kernel
theorem dX11_line_57 : decode cX11_line 57 = .ok (.getfield 10, 3) := by decide +kernel
theorem dX11_line_60 : decode cX11_line 60 = .ok (.getfield 190, 3) := by decide +kernel
theorem dX11_line_63 : decode cX11_line 63 = .ok (.getfield 204, 3) := by decide +kernel
theorem dX11_line_66 : decode cX11_line 66 = .ok (.iload_n 1, 1) := by decide +kernel
theorem dX11_line_67 : decode cX11_line 67 = .ok (.iaload, 1) := by decide +kernel
theorem dX11_line_68 : decode cX11_line 68 = .ok (.ireturn, 1) := by decide +kernel
theorem dX11_line_69 : decode cX11_line 69 = .ok (.aload_n 0, 1) := by decide +kernel
theorem dX11_line_70 : decode cX11_line 70 = .ok (.getfield 10, 3) := by decide +kernel
theorem dX11_line_73 : decode cX11_line 73 = .ok (.getfield 190, 3) := by decide +kernel
theorem dX11_line_76 : decode cX11_line 76 = .ok (.getfield 207, 3) := by decide +kernel
theorem dX11_line_79 : decode cX11_line 79 = .ok (.iload_n 1, 1) := by decide +kernel
theorem dX11_line_80 : decode cX11_line 80 = .ok (.iaload, 1) := by decide +kernel
theorem dX11_line_81 : decode cX11_line 81 = .ok (.ireturn, 1) := by decide +kernel
theorem dX11_line_82 : decode cX11_line 82 = .ok (.aload_n 0, 1) := by decide +kernel
theorem dX11_line_83 : decode cX11_line 83 = .ok (.getfield 10, 3) := by decide +kernel
theorem dX11_line_86 : decode cX11_line 86 = .ok (.getfield 190, 3) := by decide +kernel
theorem dX11_line_89 : decode cX11_line 89 = .ok (.getfield 210, 3) := by decide +kernel
theorem dX11_line_92 : decode cX11_line 92 = .ok (.iload_n 1, 1) := by decide +kernel
theorem dX11_line_93 : decode cX11_line 93 = .ok (.iaload, 1) := by decide +kernel
theorem dX11_line_94 : decode cX11_line 94 = .ok (.ireturn, 1) := by decide +kernel
theorem dX11_line_95 : decode cX11_line 95 = .ok (.aload_n 0, 1) := by decide +kernel
theorem dX11_line_96 : decode cX11_line 96 = .ok (.getfield 10, 3) := by decide +kernel
theorem dX11_line_99 : decode cX11_line 99 = .ok (.getfield 190, 3) := by decide +kernel
theorem dX11_line_102 : decode cX11_line 102 = .ok (.getfield 213, 3) := by decide +kernel
theorem dX11_line_105 : decode cX11_line 105 = .ok (.iload_n 1, 1) := by decide +kernel
theorem dX11_line_106 : decode cX11_line 106 = .ok (.iaload, 1) := by decide +kernel
theorem dX11_line_107 : decode cX11_line 107 = .ok (.ireturn, 1) := by decide +kernel
theorem dX11_line_108 : decode cX11_line 108 = .ok (.aload_n 0, 1) := by decide +kernel
theorem dX11_line_109 : decode cX11_line 109 = .ok (.getfield 10, 3) := by decide +kernel
theorem dX11_line_112 : decode cX11_line 112 = .ok (.getfield 190, 3) := by decide +kernel
theorem dX11_line_115 : decode cX11_line 115 = .ok (.getfield 201, 3) := by decide +kernel
theorem dX11_line_118 : decode cX11_line 118 = .ok (.iload_n 1, 1) := by decide +kernel
theorem dX11_line_119 : decode cX11_line 119 = .ok (.iaload, 1) := by decide +kernel
theorem dX11_line_120 : decode cX11_line 120 = .ok (.ireturn, 1) := by decide +kernel
theorem dX11_takings_0 : decode cX11_takings 0 = .ok (.aload_n 0, 1) := by decide +kernel
theorem dX11_takings_1 : decode cX11_takings 1 = .ok (.getfield 10, 3) := by decide +kernel
theorem dX11_takings_4 : decode cX11_takings 4 = .ok (.getfield 122, 3) := by decide +kernel
theorem dX11_takings_7 : decode cX11_takings 7 = .ok (.iload_n 1, 1) := by decide +kernel
theorem dX11_takings_8 : decode cX11_takings 8 = .ok (.invokevirtual 132, 3) := by decide +kernel
theorem dX11_takings_11 : decode cX11_takings 11 = .ok (.ifCond .eq 19, 3) := by decide +kernel
theorem dX11_takings_14 : decode cX11_takings 14 = .ok (.aload_n 0, 1) := by decide +kernel
theorem dX11_takings_15 : decode cX11_takings 15 = .ok (.iload_n 2, 1) := by decide +kernel
theorem dX11_takings_16 : decode cX11_takings 16 = .ok (.invokevirtual 164, 3) := by decide +kernel
theorem dX11_takings_19 : decode cX11_takings 19 = .ok (.ifCond .eq 11, 3) := by decide +kernel
theorem dX11_takings_22 : decode cX11_takings 22 = .ok (.aload_n 0, 1) := by decide +kernel
theorem dX11_takings_23 : decode cX11_takings 23 = .ok (.iload_n 3, 1) := by decide +kernel
theorem dX11_takings_24 : decode cX11_takings 24 = .ok (.invokevirtual 164, 3) := by decide +kernel
theorem dX11_takings_27 : decode cX11_takings 27 = .ok (.ifCond .ne 6, 3) := by decide +kernel
theorem dX11_takings_30 : decode cX11_takings 30 = .ok (.ldc 70, 2) := by decide +kernel
theorem dX11_takings_32 : decode cX11_takings 32 = .ok (.ireturn, 1) := by decide +kernel
theorem dX11_takings_33 : decode cX11_takings 33 = .ok (.aload_n 0, 1) := by decide +kernel
theorem dX11_takings_34 : decode cX11_takings 34 = .ok (.getfield 10, 3) := by decide +kernel
theorem dX11_takings_37 : decode cX11_takings 37 = .ok (.getfield 190, 3) := by decide +kernel
theorem dX11_takings_40 : decode cX11_takings 40 = .ok (.iload_n 1, 1) := by decide +kernel
theorem dX11_takings_41 : decode cX11_takings 41 = .ok (.iload_n 2, 1) := by decide +kernel
theorem dX11_takings_42 : decode cX11_takings 42 = .ok (.iload_n 3, 1) := by decide +kernel
theorem dX11_takings_43 : decode cX11_takings 43 = .ok (.invokevirtual 216, 3) := by decide +kernel
theorem dX11_takings_46 : decode cX11_takings 46 = .ok (.ireturn, 1) := by decide +kernel
theorem dX11_beyond_0 : decode cX11_beyond 0 = .ok (.aload_n 0, 1) := by decide +kernel
theorem dX11_beyond_1 : decode cX11_beyond 1 = .ok (.getfield 10, 3) := by decide +kernel
theorem dX11_beyond_4 : decode cX11_beyond 4 = .ok (.getfield 122, 3) := by decide +kernel
theorem dX11_beyond_7 : decode cX11_beyond 7 = .ok (.iload_n 1, 1) := by decide +kernel
theorem dX11_beyond_8 : decode cX11_beyond 8 = .ok (.invokevirtual 132, 3) := by decide +kernel
theorem dX11_beyond_11 : decode cX11_beyond 11 = .ok (.ifCond .eq 19, 3) := by decide +kernel
theorem dX11_beyond_14 : decode cX11_beyond 14 = .ok (.aload_n 0, 1) := by decide +kernel
theorem dX11_beyond_15 : decode cX11_beyond 15 = .ok (.iload_n 2, 1) := by decide +kernel
theorem dX11_beyond_16 : decode cX11_beyond 16 = .ok (.invokevirtual 164, 3) := by decide +kernel
theorem dX11_beyond_19 : decode cX11_beyond 19 = .ok (.ifCond .eq 11, 3) := by decide +kernel
theorem dX11_beyond_22 : decode cX11_beyond 22 = .ok (.aload_n 0, 1) := by decide +kernel
theorem dX11_beyond_23 : decode cX11_beyond 23 = .ok (.iload_n 3, 1) := by decide +kernel
theorem dX11_beyond_24 : decode cX11_beyond 24 = .ok (.invokevirtual 164, 3) := by decide +kernel
theorem dX11_beyond_27 : decode cX11_beyond 27 = .ok (.ifCond .ne 6, 3) := by decide +kernel
theorem dX11_beyond_30 : decode cX11_beyond 30 = .ok (.ldc 70, 2) := by decide +kernel
theorem dX11_beyond_32 : decode cX11_beyond 32 = .ok (.ireturn, 1) := by decide +kernel
theorem dX11_beyond_33 : decode cX11_beyond 33 = .ok (.aload_n 0, 1) := by decide +kernel
theorem dX11_beyond_34 : decode cX11_beyond 34 = .ok (.getfield 38, 3) := by decide +kernel
theorem dX11_beyond_37 : decode cX11_beyond 37 = .ok (.iload_n 2, 1) := by decide +kernel
theorem dX11_beyond_38 : decode cX11_beyond 38 = .ok (.invokevirtual 140, 3) := by decide +kernel
theorem dX11_beyond_41 : decode cX11_beyond 41 = .ok (.aload_n 0, 1) := by decide +kernel
theorem dX11_beyond_42 : decode cX11_beyond 42 = .ok (.getfield 38, 3) := by decide +kernel
theorem dX11_beyond_45 : decode cX11_beyond 45 = .ok (.getfield 144, 3) := by decide +kernel
theorem dX11_beyond_48 : decode cX11_beyond 48 = .ok (.iload_n 1, 1) := by decide +kernel
theorem dX11_beyond_49 : decode cX11_beyond 49 = .ok (.iaload, 1) := by decide +kernel
theorem dX11_beyond_50 : decode cX11_beyond 50 = .ok (.ldc 136, 2) := by decide +kernel
theorem dX11_beyond_52 : decode cX11_beyond 52 = .ok (.if_icmp .ne 6, 3) := by decide +kernel
theorem dX11_beyond_55 : decode cX11_beyond 55 = .ok (.ldc 150, 2) := by decide +kernel
theorem dX11_beyond_57 : decode cX11_beyond 57 = .ok (.ireturn, 1) := by decide +kernel
theorem dX11_beyond_58 : decode cX11_beyond 58 = .ok (.aload_n 0, 1) := by decide +kernel
theorem dX11_beyond_59 : decode cX11_beyond 59 = .ok (.getfield 38, 3) := by decide +kernel
theorem dX11_beyond_62 : decode cX11_beyond 62 = .ok (.iload_n 1, 1) := by decide +kernel
theorem dX11_beyond_63 : decode cX11_beyond 63 = .ok (.invokevirtual 173, 3) := by decide +kernel
theorem dX11_beyond_66 : decode cX11_beyond 66 = .ok (.i2l, 1) := by decide +kernel
theorem dX11_beyond_67 : decode cX11_beyond 67 = .ok (.lstore 4, 2) := by decide +kernel
theorem dX11_beyond_69 : decode cX11_beyond 69 = .ok (.aload_n 0, 1) := by decide +kernel
theorem dX11_beyond_70 : decode cX11_beyond 70 = .ok (.getfield 10, 3) := by decide +kernel
theorem dX11_beyond_73 : decode cX11_beyond 73 = .ok (.getfield 190, 3) := by decide +kernel
theorem dX11_beyond_76 : decode cX11_beyond 76 = .ok (.iload_n 1, 1) := by decide +kernel
theorem dX11_beyond_77 : decode cX11_beyond 77 = .ok (.iload_n 2, 1) := by decide +kernel
theorem dX11_beyond_78 : decode cX11_beyond 78 = .ok (.iload_n 3, 1) := by decide +kernel
theorem dX11_beyond_79 : decode cX11_beyond 79 = .ok (.invokevirtual 216, 3) := by decide +kernel
theorem dX11_beyond_82 : decode cX11_beyond 82 = .ok (.i2l, 1) := by decide +kernel
theorem dX11_beyond_83 : decode cX11_beyond 83 = .ok (.lstore 6, 2) := by decide +kernel
theorem dX11_beyond_85 : decode cX11_beyond 85 = .ok (.lload 6, 2) := by decide +kernel
theorem dX11_beyond_87 : decode cX11_beyond 87 = .ok (.lload 4, 2) := by decide +kernel
theorem dX11_beyond_89 : decode cX11_beyond 89 = .ok (.aload_n 0, 1) := by decide +kernel
theorem dX11_beyond_90 : decode cX11_beyond 90 = .ok (.getfield 10, 3) := by decide +kernel
theorem dX11_beyond_93 : decode cX11_beyond 93 = .ok (.getfield 161, 3) := by decide +kernel
theorem dX11_beyond_96 : decode cX11_beyond 96 = .ok (.iconst 0, 1) := by decide +kernel
theorem dX11_beyond_97 : decode cX11_beyond 97 = .ok (.iaload, 1) := by decide +kernel
theorem dX11_beyond_98 : decode cX11_beyond 98 = .ok (.i2l, 1) := by decide +kernel
theorem dX11_beyond_99 : decode cX11_beyond 99 = .ok (.lmul, 1) := by decide +kernel
theorem dX11_beyond_100 : decode cX11_beyond 100 = .ok (.ldc2_w 220, 3) := by decide +kernel
theorem dX11_beyond_103 : decode cX11_beyond 103 = .ok (.ldiv, 1) := by decide +kernel
theorem dX11_beyond_104 : decode cX11_beyond 104 = .ok (.lcmp, 1) := by decide +kernel
theorem dX11_beyond_105 : decode cX11_beyond 105 = .ok (.ifCond .ge 5, 3) := by decide +kernel
theorem dX11_beyond_108 : decode cX11_beyond 108 = .ok (.iconst (-1), 1) := by decide +kernel
theorem dX11_beyond_109 : decode cX11_beyond 109 = .ok (.ireturn, 1) := by decide +kernel
theorem dX11_beyond_110 : decode cX11_beyond 110 = .ok (.lload 6, 2) := by decide +kernel
theorem dX11_beyond_112 : decode cX11_beyond 112 = .ok (.lload 4, 2) := by decide +kernel
theorem dX11_beyond_114 : decode cX11_beyond 114 = .ok (.aload_n 0, 1) := by decide +kernel
theorem dX11_beyond_115 : decode cX11_beyond 115 = .ok (.getfield 10, 3) := by decide +kernel
theorem dX11_beyond_118 : decode cX11_beyond 118 = .ok (.getfield 161, 3) := by decide +kernel
theorem dX11_beyond_121 : decode cX11_beyond 121 = .ok (.iconst 1, 1) := by decide +kernel
theorem dX11_beyond_122 : decode cX11_beyond 122 = .ok (.iaload, 1) := by decide +kernel
theorem dX11_beyond_123 : decode cX11_beyond 123 = .ok (.i2l, 1) := by decide +kernel
theorem dX11_beyond_124 : decode cX11_beyond 124 = .ok (.lmul, 1) := by decide +kernel
theorem dX11_beyond_125 : decode cX11_beyond 125 = .ok (.ldc2_w 220, 3) := by decide +kernel
theorem dX11_beyond_128 : decode cX11_beyond 128 = .ok (.ldiv, 1) := by decide +kernel
theorem dX11_beyond_129 : decode cX11_beyond 129 = .ok (.lcmp, 1) := by decide +kernel
theorem dX11_beyond_130 : decode cX11_beyond 130 = .ok (.ifCond .le 7, 3) := by decide +kernel
theorem dX11_beyond_133 : decode cX11_beyond 133 = .ok (.iconst 1, 1) := by decide +kernel
theorem dX11_beyond_134 : decode cX11_beyond 134 = .ok (.goto 4, 3) := by decide +kernel
theorem dX11_beyond_137 : decode cX11_beyond 137 = .ok (.iconst 0, 1) := by decide +kernel
theorem dX11_beyond_138 : decode cX11_beyond 138 = .ok (.ireturn, 1) := by decide +kernel
theorem dX11_feed_0 : decode cX11_feed 0 = .ok (.aload_n 0, 1) := by decide +kernel
theorem dX11_feed_1 : decode cX11_feed 1 = .ok (.getfield 22, 3) := by decide +kernel
theorem dX11_feed_4 : decode cX11_feed 4 = .ok (.getfield 222, 3) := by decide +kernel
theorem dX11_feed_7 : decode cX11_feed 7 = .ok (.bipush 12, 2) := by decide +kernel
theorem dX11_feed_9 : decode cX11_feed 9 = .ok (.iadd, 1) := by decide +kernel
theorem dX11_feed_10 : decode cX11_feed 10 = .ok (.sipush 132, 3) := by decide +kernel
theorem dX11_feed_13 : decode cX11_feed 13 = .ok (.if_icmp .le 6, 3) := by decide +kernel
theorem dX11_feed_16 : decode cX11_feed 16 = .ok (.ldc 107, 2) := by decide +kernel
theorem dX11_feed_18 : decode cX11_feed 18 = .ok (.ireturn, 1) := by decide +kernel
theorem dX11_feed_19 : decode cX11_feed 19 = .ok (.aload_n 0, 1) := by decide +kernel
theorem dX11_feed_20 : decode cX11_feed 20 = .ok (.getfield 22, 3) := by decide +kernel
theorem dX11_feed_23 : decode cX11_feed 23 = .ok (.iload_n 1, 1) := by decide +kernel
theorem dX11_feed_24 : decode cX11_feed 24 = .ok (.invokevirtual 225, 3) := by decide +kernel
theorem dX11_feed_27 : decode cX11_feed 27 = .ok (.aload_n 0, 1) := by decide +kernel
theorem dX11_feed_28 : decode cX11_feed 28 = .ok (.getfield 22, 3) := by decide +kernel
theorem dX11_feed_31 : decode cX11_feed 31 = .ok (.iload_n 2, 1) := by decide +kernel
theorem dX11_feed_32 : decode cX11_feed 32 = .ok (.invokevirtual 225, 3) := by decide +kernel
theorem dX11_feed_35 : decode cX11_feed 35 = .ok (.aload_n 0, 1) := by decide +kernel
theorem dX11_feed_36 : decode cX11_feed 36 = .ok (.getfield 22, 3) := by decide +kernel
theorem dX11_feed_39 : decode cX11_feed 39 = .ok (.iload_n 3, 1) := by decide +kernel
theorem dX11_feed_40 : decode cX11_feed 40 = .ok (.invokevirtual 225, 3) := by decide +kernel
theorem dX11_feed_43 : decode cX11_feed 43 = .ok (.aload_n 0, 1) := by decide +kernel
theorem dX11_feed_44 : decode cX11_feed 44 = .ok (.getfield 22, 3) := by decide +kernel
theorem dX11_feed_47 : decode cX11_feed 47 = .ok (.getfield 222, 3) := by decide +kernel
theorem dX11_feed_50 : decode cX11_feed 50 = .ok (.ireturn, 1) := by decide +kernel
theorem dX11_trim_0 : decode cX11_trim 0 = .ok (.iload_n 1, 1) := by decide +kernel
theorem dX11_trim_1 : decode cX11_trim 1 = .ok (.iconst 0, 1) := by decide +kernel
theorem dX11_trim_2 : decode cX11_trim 2 = .ok (.aload_n 0, 1) := by decide +kernel
theorem dX11_trim_3 : decode cX11_trim 3 = .ok (.getfield 22, 3) := by decide +kernel
theorem dX11_trim_6 : decode cX11_trim 6 = .ok (.getfield 222, 3) := by decide +kernel
theorem dX11_trim_9 : decode cX11_trim 9 = .ok (.invokestatic 117, 3) := by decide +kernel
theorem dX11_trim_12 : decode cX11_trim 12 = .ok (.ifCond .ne 6, 3) := by decide +kernel
theorem dX11_trim_15 : decode cX11_trim 15 = .ok (.ldc 70, 2) := by decide +kernel
theorem dX11_trim_17 : decode cX11_trim 17 = .ok (.ireturn, 1) := by decide +kernel
theorem dX11_trim_18 : decode cX11_trim 18 = .ok (.aload_n 0, 1) := by decide +kernel
theorem dX11_trim_19 : decode cX11_trim 19 = .ok (.getfield 22, 3) := by decide +kernel
theorem dX11_trim_22 : decode cX11_trim 22 = .ok (.iload_n 1, 1) := by decide +kernel
theorem dX11_trim_23 : decode cX11_trim 23 = .ok (.putfield 222, 3) := by decide +kernel
theorem dX11_trim_26 : decode cX11_trim 26 = .ok (.iload_n 1, 1) := by decide +kernel
theorem dX11_trim_27 : decode cX11_trim 27 = .ok (.ireturn, 1) := by decide +kernel
theorem dX11_lease_0 : decode cX11_lease 0 = .ok (.aload_n 0, 1) := by decide +kernel
theorem dX11_lease_1 : decode cX11_lease 1 = .ok (.getfield 10, 3) := by decide +kernel
theorem dX11_lease_4 : decode cX11_lease 4 = .ok (.getfield 122, 3) := by decide +kernel
theorem dX11_lease_7 : decode cX11_lease 7 = .ok (.iload_n 1, 1) := by decide +kernel
theorem dX11_lease_8 : decode cX11_lease 8 = .ok (.invokevirtual 132, 3) := by decide +kernel
theorem dX11_lease_11 : decode cX11_lease 11 = .ok (.ifCond .ne 14, 3) := by decide +kernel
theorem dX11_lease_14 : decode cX11_lease 14 = .ok (.aload_n 0, 1) := by decide +kernel
theorem dX11_lease_15 : decode cX11_lease 15 = .ok (.getfield 22, 3) := by decide +kernel
theorem dX11_lease_18 : decode cX11_lease 18 = .ok (.iconst 0, 1) := by decide +kernel
theorem dX11_lease_19 : decode cX11_lease 19 = .ok (.putfield 222, 3) := by decide +kernel
theorem dX11_lease_22 : decode cX11_lease 22 = .ok (.ldc 70, 2) := by decide +kernel
theorem dX11_lease_24 : decode cX11_lease 24 = .ok (.ireturn, 1) := by decide +kernel
theorem dX11_lease_25 : decode cX11_lease 25 = .ok (.aload_n 0, 1) := by decide +kernel
theorem dX11_lease_26 : decode cX11_lease 26 = .ok (.getfield 22, 3) := by decide +kernel
theorem dX11_lease_29 : decode cX11_lease 29 = .ok (.invokevirtual 228, 3) := by decide +kernel
theorem dX11_lease_32 : decode cX11_lease 32 = .ok (.istore_n 2, 1) := by decide +kernel
theorem dX11_lease_33 : decode cX11_lease 33 = .ok (.aload_n 0, 1) := by decide +kernel
theorem dX11_lease_34 : decode cX11_lease 34 = .ok (.getfield 22, 3) := by decide +kernel
theorem dX11_lease_37 : decode cX11_lease 37 = .ok (.iconst 0, 1) := by decide +kernel
theorem dX11_lease_38 : decode cX11_lease 38 = .ok (.putfield 222, 3) := by decide +kernel
theorem dX11_lease_41 : decode cX11_lease 41 = .ok (.iload_n 2, 1) := by decide +kernel
theorem dX11_lease_42 : decode cX11_lease 42 = .ok (.ldc 136, 2) := by decide +kernel
theorem dX11_lease_44 : decode cX11_lease 44 = .ok (.if_icmp .eq 8, 3) := by decide +kernel
theorem dX11_lease_47 : decode cX11_lease 47 = .ok (.bipush (-100), 2) := by decide +kernel
theorem dX11_lease_49 : decode cX11_lease 49 = .ok (.iload_n 2, 1) := by decide +kernel
theorem dX11_lease_50 : decode cX11_lease 50 = .ok (.isub, 1) := by decide +kernel
theorem dX11_lease_51 : decode cX11_lease 51 = .ok (.ireturn, 1) := by decide +kernel
theorem dX11_lease_52 : decode cX11_lease 52 = .ok (.aload_n 0, 1) := by decide +kernel
theorem dX11_lease_53 : decode cX11_lease 53 = .ok (.getfield 10, 3) := by decide +kernel
theorem dX11_lease_56 : decode cX11_lease 56 = .ok (.getfield 232, 3) := by decide +kernel
theorem dX11_lease_59 : decode cX11_lease 59 = .ok (.iload_n 1, 1) := by decide +kernel
theorem dX11_lease_60 : decode cX11_lease 60 = .ok (.aload_n 0, 1) := by decide +kernel
theorem dX11_lease_61 : decode cX11_lease 61 = .ok (.getfield 22, 3) := by decide +kernel
theorem dX11_lease_64 : decode cX11_lease 64 = .ok (.invokevirtual 236, 3) := by decide +kernel
theorem dX11_lease_67 : decode cX11_lease 67 = .ok (.aload_n 0, 1) := by decide +kernel
theorem dX11_lease_68 : decode cX11_lease 68 = .ok (.getfield 22, 3) := by decide +kernel
theorem dX11_lease_71 : decode cX11_lease 71 = .ok (.getfield 242, 3) := by decide +kernel
theorem dX11_lease_74 : decode cX11_lease 74 = .ok (.ireturn, 1) := by decide +kernel
theorem dX11_rent_0 : decode cX11_rent 0 = .ok (.aload_n 0, 1) := by decide +kernel
theorem dX11_rent_1 : decode cX11_rent 1 = .ok (.getfield 10, 3) := by decide +kernel
theorem dX11_rent_4 : decode cX11_rent 4 = .ok (.getfield 122, 3) := by decide +kernel
theorem dX11_rent_7 : decode cX11_rent 7 = .ok (.iload_n 1, 1) := by decide +kernel
theorem dX11_rent_8 : decode cX11_rent 8 = .ok (.invokevirtual 132, 3) := by decide +kernel
theorem dX11_rent_11 : decode cX11_rent 11 = .ok (.ifCond .eq 19, 3) := by decide +kernel
theorem dX11_rent_14 : decode cX11_rent 14 = .ok (.aload_n 0, 1) := by decide +kernel
theorem dX11_rent_15 : decode cX11_rent 15 = .ok (.iload_n 2, 1) := by decide +kernel
theorem dX11_rent_16 : decode cX11_rent 16 = .ok (.invokevirtual 164, 3) := by decide +kernel
theorem dX11_rent_19 : decode cX11_rent 19 = .ok (.ifCond .eq 11, 3) := by decide +kernel
theorem dX11_rent_22 : decode cX11_rent 22 = .ok (.aload_n 0, 1) := by decide +kernel
theorem dX11_rent_23 : decode cX11_rent 23 = .ok (.iload_n 3, 1) := by decide +kernel
theorem dX11_rent_24 : decode cX11_rent 24 = .ok (.invokevirtual 164, 3) := by decide +kernel
theorem dX11_rent_27 : decode cX11_rent 27 = .ok (.ifCond .ne 6, 3) := by decide +kernel
theorem dX11_rent_30 : decode cX11_rent 30 = .ok (.ldc 70, 2) := by decide +kernel
theorem dX11_rent_32 : decode cX11_rent 32 = .ok (.ireturn, 1) := by decide +kernel
theorem dX11_rent_33 : decode cX11_rent 33 = .ok (.aload_n 0, 1) := by decide +kernel
theorem dX11_rent_34 : decode cX11_rent 34 = .ok (.getfield 38, 3) := by decide +kernel
theorem dX11_rent_37 : decode cX11_rent 37 = .ok (.iload_n 2, 1) := by decide +kernel
theorem dX11_rent_38 : decode cX11_rent 38 = .ok (.invokevirtual 140, 3) := by decide +kernel
theorem dX11_rent_41 : decode cX11_rent 41 = .ok (.aload_n 0, 1) := by decide +kernel
theorem dX11_rent_42 : decode cX11_rent 42 = .ok (.iload_n 1, 1) := by decide +kernel
theorem dX11_rent_43 : decode cX11_rent 43 = .ok (.iload_n 3, 1) := by decide +kernel
theorem dX11_rent_44 : decode cX11_rent 44 = .ok (.invokevirtual 245, 3) := by decide +kernel
theorem dX11_rent_47 : decode cX11_rent 47 = .ok (.ireturn, 1) := by decide +kernel
theorem dX11_rents_0 : decode cX11_rents 0 = .ok (.aload_n 0, 1) := by decide +kernel
theorem dX11_rents_1 : decode cX11_rents 1 = .ok (.iload_n 1, 1) := by decide +kernel
theorem dX11_rents_2 : decode cX11_rents 2 = .ok (.invokevirtual 164, 3) := by decide +kernel
theorem dX11_rents_5 : decode cX11_rents 5 = .ok (.ifCond .eq 11, 3) := by decide +kernel
theorem dX11_rents_8 : decode cX11_rents 8 = .ok (.aload_n 0, 1) := by decide +kernel
theorem dX11_rents_9 : decode cX11_rents 9 = .ok (.iload_n 2, 1) := by decide +kernel
theorem dX11_rents_10 : decode cX11_rents 10 = .ok (.invokevirtual 164, 3) := by decide +kernel
theorem dX11_rents_13 : decode cX11_rents 13 = .ok (.ifCond .ne 6, 3) := by decide +kernel
theorem dX11_rents_16 : decode cX11_rents 16 = .ok (.ldc 70, 2) := by decide +kernel
theorem dX11_rents_18 : decode cX11_rents 18 = .ok (.ireturn, 1) := by decide +kernel
theorem dX11_rents_19 : decode cX11_rents 19 = .ok (.aload_n 0, 1) := by decide +kernel
theorem dX11_rents_20 : decode cX11_rents 20 = .ok (.getfield 38, 3) := by decide +kernel
theorem dX11_rents_23 : decode cX11_rents 23 = .ok (.iload_n 1, 1) := by decide +kernel
theorem dX11_rents_24 : decode cX11_rents 24 = .ok (.invokevirtual 140, 3) := by decide +kernel
theorem dX11_rents_27 : decode cX11_rents 27 = .ok (.iconst 0, 1) := by decide +kernel
theorem dX11_rents_28 : decode cX11_rents 28 = .ok (.istore_n 3, 1) := by decide +kernel
theorem dX11_rents_29 : decode cX11_rents 29 = .ok (.iconst 0, 1) := by decide +kernel
theorem dX11_rents_30 : decode cX11_rents 30 = .ok (.istore 4, 2) := by decide +kernel
theorem dX11_rents_32 : decode cX11_rents 32 = .ok (.iload 4, 2) := by decide +kernel
theorem dX11_rents_34 : decode cX11_rents 34 = .ok (.aload_n 0, 1) := by decide +kernel
theorem dX11_rents_35 : decode cX11_rents 35 = .ok (.getfield 10, 3) := by decide +kernel
theorem dX11_rents_38 : decode cX11_rents 38 = .ok (.getfield 122, 3) := by decide +kernel
theorem dX11_rents_41 : decode cX11_rents 41 = .ok (.getfield 126, 3) := by decide +kernel
theorem dX11_rents_44 : decode cX11_rents 44 = .ok (.if_icmp .ge 19, 3) := by decide +kernel
theorem dX11_rents_47 : decode cX11_rents 47 = .ok (.iload_n 3, 1) := by decide +kernel
theorem dX11_rents_48 : decode cX11_rents 48 = .ok (.aload_n 0, 1) := by decide +kernel
theorem dX11_rents_49 : decode cX11_rents 49 = .ok (.iload 4, 2) := by decide +kernel
theorem dX11_rents_51 : decode cX11_rents 51 = .ok (.iload_n 2, 1) := by decide +kernel
theorem dX11_rents_52 : decode cX11_rents 52 = .ok (.invokevirtual 245, 3) := by decide +kernel
theorem dX11_rents_55 : decode cX11_rents 55 = .ok (.iadd, 1) := by decide +kernel
theorem dX11_rents_56 : decode cX11_rents 56 = .ok (.istore_n 3, 1) := by decide +kernel
theorem dX11_rents_57 : decode cX11_rents 57 = .ok (.iinc 4 1, 3) := by decide +kernel
theorem dX11_rents_60 : decode cX11_rents 60 = .ok (.goto (-28), 3) := by decide +kernel
theorem dX11_rents_63 : decode cX11_rents 63 = .ok (.iload_n 3, 1) := by decide +kernel
theorem dX11_rents_64 : decode cX11_rents 64 = .ok (.ireturn, 1) := by decide +kernel
theorem dX11_charge_0 : decode cX11_charge 0 = .ok (.aload_n 0, 1) := by decide +kernel
theorem dX11_charge_1 : decode cX11_charge 1 = .ok (.getfield 10, 3) := by decide +kernel
theorem dX11_charge_4 : decode cX11_charge 4 = .ok (.getfield 122, 3) := by decide +kernel
theorem dX11_charge_7 : decode cX11_charge 7 = .ok (.iload_n 1, 1) := by decide +kernel
theorem dX11_charge_8 : decode cX11_charge 8 = .ok (.invokevirtual 132, 3) := by decide +kernel
theorem dX11_charge_11 : decode cX11_charge 11 = .ok (.ifCond .eq 21, 3) := by decide +kernel
theorem dX11_charge_14 : decode cX11_charge 14 = .ok (.aload_n 0, 1) := by decide +kernel
theorem dX11_charge_15 : decode cX11_charge 15 = .ok (.iload_n 2, 1) := by decide +kernel
theorem dX11_charge_16 : decode cX11_charge 16 = .ok (.invokevirtual 164, 3) := by decide +kernel
theorem dX11_charge_19 : decode cX11_charge 19 = .ok (.ifCond .eq 13, 3) := by decide +kernel
theorem dX11_charge_22 : decode cX11_charge 22 = .ok (.iload_n 3, 1) := by decide +kernel
theorem dX11_charge_23 : decode cX11_charge 23 = .ok (.iconst 0, 1) := by decide +kernel
theorem dX11_charge_24 : decode cX11_charge 24 = .ok (.ldc 248, 2) := by decide +kernel
theorem dX11_charge_26 : decode cX11_charge 26 = .ok (.invokestatic 117, 3) := by decide +kernel
theorem dX11_charge_29 : decode cX11_charge 29 = .ok (.ifCond .ne 6, 3) := by decide +kernel
theorem dX11_charge_32 : decode cX11_charge 32 = .ok (.ldc 70, 2) := by decide +kernel
theorem dX11_charge_34 : decode cX11_charge 34 = .ok (.ireturn, 1) := by decide +kernel
theorem dX11_charge_35 : decode cX11_charge 35 = .ok (.aload_n 0, 1) := by decide +kernel
theorem dX11_charge_36 : decode cX11_charge 36 = .ok (.getfield 38, 3) := by decide +kernel
theorem dX11_charge_39 : decode cX11_charge 39 = .ok (.iload_n 2, 1) := by decide +kernel
theorem dX11_charge_40 : decode cX11_charge 40 = .ok (.invokevirtual 140, 3) := by decide +kernel
theorem dX11_charge_43 : decode cX11_charge 43 = .ok (.iconst 0, 1) := by decide +kernel
theorem dX11_charge_44 : decode cX11_charge 44 = .ok (.istore 4, 2) := by decide +kernel
theorem dX11_charge_46 : decode cX11_charge 46 = .ok (.iconst 0, 1) := by decide +kernel
theorem dX11_charge_47 : decode cX11_charge 47 = .ok (.istore 5, 2) := by decide +kernel
theorem dX11_charge_49 : decode cX11_charge 49 = .ok (.iload 5, 2) := by decide +kernel
theorem dX11_charge_51 : decode cX11_charge 51 = .ok (.bipush 12, 2) := by decide +kernel
theorem dX11_charge_53 : decode cX11_charge 53 = .ok (.if_icmp .ge 23, 3) := by decide +kernel
theorem dX11_charge_56 : decode cX11_charge 56 = .ok (.iload 4, 2) := by decide +kernel
theorem dX11_charge_58 : decode cX11_charge 58 = .ok (.aload_n 0, 1) := by decide +kernel
theorem dX11_charge_59 : decode cX11_charge 59 = .ok (.getfield 38, 3) := by decide +kernel
theorem dX11_charge_62 : decode cX11_charge 62 = .ok (.iload 5, 2) := by decide +kernel
theorem dX11_charge_64 : decode cX11_charge 64 = .ok (.invokevirtual 249, 3) := by decide +kernel
theorem dX11_charge_67 : decode cX11_charge 67 = .ok (.iadd, 1) := by decide +kernel
theorem dX11_charge_68 : decode cX11_charge 68 = .ok (.istore 4, 2) := by decide +kernel
theorem dX11_charge_70 : decode cX11_charge 70 = .ok (.iinc 5 1, 3) := by decide +kernel
theorem dX11_charge_73 : decode cX11_charge 73 = .ok (.goto (-24), 3) := by decide +kernel
theorem dX11_charge_76 : decode cX11_charge 76 = .ok (.aload_n 0, 1) := by decide +kernel
theorem dX11_charge_77 : decode cX11_charge 77 = .ok (.getfield 38, 3) := by decide +kernel
theorem dX11_charge_80 : decode cX11_charge 80 = .ok (.getfield 144, 3) := by decide +kernel
theorem dX11_charge_83 : decode cX11_charge 83 = .ok (.iload_n 1, 1) := by decide +kernel
theorem dX11_charge_84 : decode cX11_charge 84 = .ok (.iaload, 1) := by decide +kernel
theorem dX11_charge_85 : decode cX11_charge 85 = .ok (.istore 5, 2) := by decide +kernel
theorem dX11_charge_87 : decode cX11_charge 87 = .ok (.iload 5, 2) := by decide +kernel
theorem dX11_charge_89 : decode cX11_charge 89 = .ok (.ldc 136, 2) := by decide +kernel
theorem dX11_charge_91 : decode cX11_charge 91 = .ok (.if_icmp .eq 20, 3) := by decide +kernel
theorem dX11_charge_94 : decode cX11_charge 94 = .ok (.iload 4, 2) := by decide +kernel
theorem dX11_charge_96 : decode cX11_charge 96 = .ok (.ifCond .eq 15, 3) := by decide +kernel
theorem dX11_charge_99 : decode cX11_charge 99 = .ok (.aload_n 0, 1) := by decide +kernel
theorem dX11_charge_100 : decode cX11_charge 100 = .ok (.getfield 38, 3) := by decide +kernel
theorem dX11_charge_103 : decode cX11_charge 103 = .ok (.iload 5, 2) := by decide +kernel
theorem dX11_charge_105 : decode cX11_charge 105 = .ok (.invokevirtual 249, 3) := by decide +kernel
theorem dX11_charge_108 : decode cX11_charge 108 = .ok (.ifCond .ne 5, 3) := by decide +kernel
theorem dX11_charge_111 : decode cX11_charge 111 = .ok (.iconst 0, 1) := by decide +kernel
theorem dX11_charge_112 : decode cX11_charge 112 = .ok (.ireturn, 1) := by decide +kernel
theorem dX11_charge_113 : decode cX11_charge 113 = .ok (.iload_n 3, 1) := by decide +kernel
theorem dX11_charge_114 : decode cX11_charge 114 = .ok (.istore 6, 2) := by decide +kernel
theorem dX11_charge_116 : decode cX11_charge 116 = .ok (.iconst 0, 1) := by decide +kernel
theorem dX11_charge_117 : decode cX11_charge 117 = .ok (.istore 7, 2) := by decide +kernel
theorem dX11_charge_119 : decode cX11_charge 119 = .ok (.iconst 0, 1) := by decide +kernel
theorem dX11_charge_120 : decode cX11_charge 120 = .ok (.istore 8, 2) := by decide +kernel
theorem dX11_charge_122 : decode cX11_charge 122 = .ok (.iload 8, 2) := by decide +kernel
theorem dX11_charge_124 : decode cX11_charge 124 = .ok (.bipush 12, 2) := by decide +kernel
theorem dX11_charge_126 : decode cX11_charge 126 = .ok (.if_icmp .ge 47, 3) := by decide +kernel
theorem dX11_charge_129 : decode cX11_charge 129 = .ok (.aload_n 0, 1) := by decide +kernel
theorem dX11_charge_130 : decode cX11_charge 130 = .ok (.getfield 38, 3) := by decide +kernel
theorem dX11_charge_133 : decode cX11_charge 133 = .ok (.iload 8, 2) := by decide +kernel
theorem dX11_charge_135 : decode cX11_charge 135 = .ok (.invokevirtual 249, 3) := by decide +kernel
theorem dX11_charge_138 : decode cX11_charge 138 = .ok (.istore 9, 2) := by decide +kernel
theorem dX11_charge_140 : decode cX11_charge 140 = .ok (.iload 6, 2) := by decide +kernel
theorem dX11_charge_142 : decode cX11_charge 142 = .ok (.iload_n 3, 1) := by decide +kernel
theorem dX11_charge_143 : decode cX11_charge 143 = .ok (.iload 9, 2) := by decide +kernel
theorem dX11_charge_145 : decode cX11_charge 145 = .ok (.imul, 1) := by decide +kernel
theorem dX11_charge_146 : decode cX11_charge 146 = .ok (.iload 4, 2) := by decide +kernel
theorem dX11_charge_148 : decode cX11_charge 148 = .ok (.idiv, 1) := by decide +kernel
theorem dX11_charge_149 : decode cX11_charge 149 = .ok (.isub, 1) := by decide +kernel
theorem dX11_charge_150 : decode cX11_charge 150 = .ok (.istore 6, 2) := by decide +kernel
theorem dX11_charge_152 : decode cX11_charge 152 = .ok (.iload 9, 2) := by decide +kernel
theorem dX11_charge_154 : decode cX11_charge 154 = .ok (.ifCond .le 13, 3) := by decide +kernel
theorem dX11_charge_157 : decode cX11_charge 157 = .ok (.iload 8, 2) := by decide +kernel
theorem dX11_charge_159 : decode cX11_charge 159 = .ok (.iload 5, 2) := by decide +kernel
theorem dX11_charge_161 : decode cX11_charge 161 = .ok (.if_icmp .ge 6, 3) := by decide +kernel
theorem dX11_charge_164 : decode cX11_charge 164 = .ok (.iinc 7 1, 3) := by decide +kernel
theorem dX11_charge_167 : decode cX11_charge 167 = .ok (.iinc 8 1, 3) := by decide +kernel
theorem dX11_charge_170 : decode cX11_charge 170 = .ok (.goto (-48), 3) := by decide +kernel
theorem dX11_charge_173 : decode cX11_charge 173 = .ok (.iload_n 3, 1) := by decide +kernel
theorem dX11_charge_174 : decode cX11_charge 174 = .ok (.aload_n 0, 1) := by decide +kernel
theorem dX11_charge_175 : decode cX11_charge 175 = .ok (.getfield 38, 3) := by decide +kernel
theorem dX11_charge_178 : decode cX11_charge 178 = .ok (.iload 5, 2) := by decide +kernel
theorem dX11_charge_180 : decode cX11_charge 180 = .ok (.invokevirtual 249, 3) := by decide +kernel
theorem dX11_charge_183 : decode cX11_charge 183 = .ok (.imul, 1) := by decide +kernel
theorem dX11_charge_184 : decode cX11_charge 184 = .ok (.iload 4, 2) := by decide +kernel
theorem dX11_charge_186 : decode cX11_charge 186 = .ok (.idiv, 1) := by decide +kernel
theorem dX11_charge_187 : decode cX11_charge 187 = .ok (.iload 7, 2) := by decide +kernel
theorem dX11_charge_189 : decode cX11_charge 189 = .ok (.iload 6, 2) := by decide +kernel
theorem dX11_charge_191 : decode cX11_charge 191 = .ok (.if_icmp .ge 7, 3) := by decide +kernel
theorem dX11_charge_194 : decode cX11_charge 194 = .ok (.iconst 1, 1) := by decide +kernel
theorem dX11_charge_195 : decode cX11_charge 195 = .ok (.goto 4, 3) := by decide +kernel
theorem dX11_charge_198 : decode cX11_charge 198 = .ok (.iconst 0, 1) := by decide +kernel
theorem dX11_charge_199 : decode cX11_charge 199 = .ok (.iadd, 1) := by decide +kernel
theorem dX11_charge_200 : decode cX11_charge 200 = .ok (.ireturn, 1) := by decide +kernel
theorem dX11_fall_0 : decode cX11_fall 0 = .ok (.aload_n 0, 1) := by decide +kernel
theorem dX11_fall_1 : decode cX11_fall 1 = .ok (.getfield 38, 3) := by decide +kernel
theorem dX11_fall_4 : decode cX11_fall 4 = .ok (.aload_n 0, 1) := by decide +kernel
theorem dX11_fall_5 : decode cX11_fall 5 = .ok (.getfield 10, 3) := by decide +kernel
theorem dX11_fall_8 : decode cX11_fall 8 = .ok (.getfield 137, 3) := by decide +kernel
theorem dX11_fall_11 : decode cX11_fall 11 = .ok (.invokevirtual 140, 3) := by decide +kernel
theorem dX11_fall_14 : decode cX11_fall 14 = .ok (.aload_n 0, 1) := by decide +kernel
theorem dX11_fall_15 : decode cX11_fall 15 = .ok (.invokevirtual 252, 3) := by decide +kernel
theorem dX11_fall_18 : decode cX11_fall 18 = .ok (.istore_n 1, 1) := by decide +kernel
theorem dX11_fall_19 : decode cX11_fall 19 = .ok (.aload_n 0, 1) := by decide +kernel
theorem dX11_fall_20 : decode cX11_fall 20 = .ok (.getfield 10, 3) := by decide +kernel
theorem dX11_fall_23 : decode cX11_fall 23 = .ok (.getfield 151, 3) := by decide +kernel
theorem dX11_fall_26 : decode cX11_fall 26 = .ok (.getfield 155, 3) := by decide +kernel
theorem dX11_fall_29 : decode cX11_fall 29 = .ok (.iload_n 1, 1) := by decide +kernel
theorem dX11_fall_30 : decode cX11_fall 30 = .ok (.iadd, 1) := by decide +kernel
theorem dX11_fall_31 : decode cX11_fall 31 = .ok (.sipush 200, 3) := by decide +kernel
theorem dX11_fall_34 : decode cX11_fall 34 = .ok (.if_icmp .le 6, 3) := by decide +kernel
theorem dX11_fall_37 : decode cX11_fall 37 = .ok (.ldc 107, 2) := by decide +kernel
theorem dX11_fall_39 : decode cX11_fall 39 = .ok (.ireturn, 1) := by decide +kernel
theorem dX11_fall_40 : decode cX11_fall 40 = .ok (.iconst 0, 1) := by decide +kernel
theorem dX11_fall_41 : decode cX11_fall 41 = .ok (.istore_n 2, 1) := by decide +kernel
theorem dX11_fall_42 : decode cX11_fall 42 = .ok (.iload_n 2, 1) := by decide +kernel
theorem dX11_fall_43 : decode cX11_fall 43 = .ok (.iload_n 1, 1) := by decide +kernel
theorem dX11_fall_44 : decode cX11_fall 44 = .ok (.if_icmp .ge 49, 3) := by decide +kernel
theorem dX11_fall_47 : decode cX11_fall 47 = .ok (.aload_n 0, 1) := by decide +kernel
theorem dX11_fall_48 : decode cX11_fall 48 = .ok (.getfield 10, 3) := by decide +kernel
theorem dX11_fall_51 : decode cX11_fall 51 = .ok (.getfield 151, 3) := by decide +kernel
theorem dX11_fall_54 : decode cX11_fall 54 = .ok (.aload_n 0, 1) := by decide +kernel
theorem dX11_fall_55 : decode cX11_fall 55 = .ok (.getfield 56, 3) := by decide +kernel
theorem dX11_fall_58 : decode cX11_fall 58 = .ok (.iload_n 2, 1) := by decide +kernel
theorem dX11_fall_59 : decode cX11_fall 59 = .ok (.iaload, 1) := by decide +kernel
theorem dX11_fall_60 : decode cX11_fall 60 = .ok (.aload_n 0, 1) := by decide +kernel
theorem dX11_fall_61 : decode cX11_fall 61 = .ok (.getfield 10, 3) := by decide +kernel
theorem dX11_fall_64 : decode cX11_fall 64 = .ok (.getfield 137, 3) := by decide +kernel
theorem dX11_fall_67 : decode cX11_fall 67 = .ok (.ldc 136, 2) := by decide +kernel
theorem dX11_fall_69 : decode cX11_fall 69 = .ok (.invokevirtual 158, 3) := by decide +kernel
theorem dX11_fall_72 : decode cX11_fall 72 = .ok (.aload_n 0, 1) := by decide +kernel
theorem dX11_fall_73 : decode cX11_fall 73 = .ok (.getfield 10, 3) := by decide +kernel
theorem dX11_fall_76 : decode cX11_fall 76 = .ok (.getfield 255, 3) := by decide +kernel
theorem dX11_fall_79 : decode cX11_fall 79 = .ok (.iload_n 2, 1) := by decide +kernel
theorem dX11_fall_80 : decode cX11_fall 80 = .ok (.aload_n 0, 1) := by decide +kernel
theorem dX11_fall_81 : decode cX11_fall 81 = .ok (.getfield 56, 3) := by decide +kernel
theorem dX11_fall_84 : decode cX11_fall 84 = .ok (.iload_n 2, 1) := by decide +kernel
theorem dX11_fall_85 : decode cX11_fall 85 = .ok (.iaload, 1) := by decide +kernel
theorem dX11_fall_86 : decode cX11_fall 86 = .ok (.iastore, 1) := by decide +kernel
theorem dX11_fall_87 : decode cX11_fall 87 = .ok (.iinc 2 1, 3) := by decide +kernel
theorem dX11_fall_90 : decode cX11_fall 90 = .ok (.goto (-48), 3) := by decide +kernel
theorem dX11_fall_93 : decode cX11_fall 93 = .ok (.aload_n 0, 1) := by decide +kernel
theorem dX11_fall_94 : decode cX11_fall 94 = .ok (.getfield 10, 3) := by decide +kernel
theorem dX11_fall_97 : decode cX11_fall 97 = .ok (.iload_n 1, 1) := by decide +kernel
theorem dX11_fall_98 : decode cX11_fall 98 = .ok (.putfield 258, 3) := by decide +kernel
theorem dX11_fall_101 : decode cX11_fall 101 = .ok (.iload_n 1, 1) := by decide +kernel
theorem dX11_fall_102 : decode cX11_fall 102 = .ok (.ireturn, 1) := by decide +kernel
theorem dX11_fallen_0 : decode cX11_fallen 0 = .ok (.iload_n 1, 1) := by decide +kernel
theorem dX11_fallen_1 : decode cX11_fallen 1 = .ok (.ifCond .ge 6, 3) := by decide +kernel
theorem dX11_fallen_4 : decode cX11_fallen 4 = .ok (.ldc 70, 2) := by decide +kernel
theorem dX11_fallen_6 : decode cX11_fallen 6 = .ok (.ireturn, 1) := by decide +kernel
theorem dX11_fallen_7 : decode cX11_fallen 7 = .ok (.iload_n 1, 1) := by decide +kernel
theorem dX11_fallen_8 : decode cX11_fallen 8 = .ok (.aload_n 0, 1) := by decide +kernel
theorem dX11_fallen_9 : decode cX11_fallen 9 = .ok (.getfield 10, 3) := by decide +kernel
theorem dX11_fallen_12 : decode cX11_fallen 12 = .ok (.getfield 258, 3) := by decide +kernel
theorem dX11_fallen_15 : decode cX11_fallen 15 = .ok (.if_icmp .ge 15, 3) := by decide +kernel
theorem dX11_fallen_18 : decode cX11_fallen 18 = .ok (.aload_n 0, 1) := by decide +kernel
theorem dX11_fallen_19 : decode cX11_fallen 19 = .ok (.getfield 10, 3) := by decide +kernel
theorem dX11_fallen_22 : decode cX11_fallen 22 = .ok (.getfield 255, 3) := by decide +kernel
theorem dX11_fallen_25 : decode cX11_fallen 25 = .ok (.iload_n 1, 1) := by decide +kernel
theorem dX11_fallen_26 : decode cX11_fallen 26 = .ok (.iaload, 1) := by decide +kernel
theorem dX11_fallen_27 : decode cX11_fallen 27 = .ok (.goto 5, 3) := by decide +kernel
theorem dX11_fallen_30 : decode cX11_fallen 30 = .ok (.ldc 136, 2) := by decide +kernel
theorem dX11_fallen_32 : decode cX11_fallen 32 = .ok (.ireturn, 1) := by decide +kernel
theorem dX11_without_0 : decode cX11_without 0 = .ok (.aload_n 0, 1) := by decide +kernel
theorem dX11_without_1 : decode cX11_without 1 = .ok (.getfield 10, 3) := by decide +kernel
theorem dX11_without_4 : decode cX11_without 4 = .ok (.getfield 122, 3) := by decide +kernel
theorem dX11_without_7 : decode cX11_without 7 = .ok (.iload_n 1, 1) := by decide +kernel
theorem dX11_without_8 : decode cX11_without 8 = .ok (.invokevirtual 132, 3) := by decide +kernel
theorem dX11_without_11 : decode cX11_without 11 = .ok (.ifCond .ne 6, 3) := by decide +kernel
theorem dX11_without_14 : decode cX11_without 14 = .ok (.ldc 70, 2) := by decide +kernel
theorem dX11_without_16 : decode cX11_without 16 = .ok (.ireturn, 1) := by decide +kernel
theorem dX11_without_17 : decode cX11_without 17 = .ok (.aload_n 0, 1) := by decide +kernel
theorem dX11_without_18 : decode cX11_without 18 = .ok (.getfield 38, 3) := by decide +kernel
theorem dX11_without_21 : decode cX11_without 21 = .ok (.aload_n 0, 1) := by decide +kernel
theorem dX11_without_22 : decode cX11_without 22 = .ok (.getfield 10, 3) := by decide +kernel
theorem dX11_without_25 : decode cX11_without 25 = .ok (.getfield 137, 3) := by decide +kernel
theorem dX11_without_28 : decode cX11_without 28 = .ok (.invokevirtual 140, 3) := by decide +kernel
theorem dX11_without_31 : decode cX11_without 31 = .ok (.aload_n 0, 1) := by decide +kernel
theorem dX11_without_32 : decode cX11_without 32 = .ok (.getfield 38, 3) := by decide +kernel
theorem dX11_without_35 : decode cX11_without 35 = .ok (.getfield 144, 3) := by decide +kernel
theorem dX11_without_38 : decode cX11_without 38 = .ok (.iload_n 1, 1) := by decide +kernel
theorem dX11_without_39 : decode cX11_without 39 = .ok (.iaload, 1) := by decide +kernel
theorem dX11_without_40 : decode cX11_without 40 = .ok (.ldc 136, 2) := by decide +kernel
theorem dX11_without_42 : decode cX11_without 42 = .ok (.if_icmp .ne 6, 3) := by decide +kernel
theorem dX11_without_45 : decode cX11_without 45 = .ok (.ldc 150, 2) := by decide +kernel
theorem dX11_without_47 : decode cX11_without 47 = .ok (.ireturn, 1) := by decide +kernel
theorem dX11_without_48 : decode cX11_without 48 = .ok (.aload_n 0, 1) := by decide +kernel
theorem dX11_without_49 : decode cX11_without 49 = .ok (.getfield 38, 3) := by decide +kernel
theorem dX11_without_52 : decode cX11_without 52 = .ok (.iload_n 1, 1) := by decide +kernel
theorem dX11_without_53 : decode cX11_without 53 = .ok (.invokevirtual 261, 3) := by decide +kernel
theorem dX11_without_56 : decode cX11_without 56 = .ok (.aload_n 0, 1) := by decide +kernel
theorem dX11_without_57 : decode cX11_without 57 = .ok (.invokevirtual 252, 3) := by decide +kernel
theorem dX11_without_60 : decode cX11_without 60 = .ok (.ireturn, 1) := by decide +kernel
theorem dX11_broken_0 : decode cX11_broken 0 = .ok (.aload_n 0, 1) := by decide +kernel
theorem dX11_broken_1 : decode cX11_broken 1 = .ok (.getfield 38, 3) := by decide +kernel
theorem dX11_broken_4 : decode cX11_broken 4 = .ok (.aload_n 0, 1) := by decide +kernel
theorem dX11_broken_5 : decode cX11_broken 5 = .ok (.getfield 10, 3) := by decide +kernel
theorem dX11_broken_8 : decode cX11_broken 8 = .ok (.getfield 137, 3) := by decide +kernel
theorem dX11_broken_11 : decode cX11_broken 11 = .ok (.invokevirtual 140, 3) := by decide +kernel
theorem dX11_broken_14 : decode cX11_broken 14 = .ok (.iconst 0, 1) := by decide +kernel
theorem dX11_broken_15 : decode cX11_broken 15 = .ok (.istore_n 1, 1) := by decide +kernel
theorem dX11_broken_16 : decode cX11_broken 16 = .ok (.iconst 0, 1) := by decide +kernel
theorem dX11_broken_17 : decode cX11_broken 17 = .ok (.istore_n 2, 1) := by decide +kernel
theorem dX11_broken_18 : decode cX11_broken 18 = .ok (.iload_n 2, 1) := by decide +kernel
theorem dX11_broken_19 : decode cX11_broken 19 = .ok (.aload_n 0, 1) := by decide +kernel
theorem dX11_broken_20 : decode cX11_broken 20 = .ok (.getfield 10, 3) := by decide +kernel
theorem dX11_broken_23 : decode cX11_broken 23 = .ok (.getfield 122, 3) := by decide +kernel
theorem dX11_broken_26 : decode cX11_broken 26 = .ok (.getfield 126, 3) := by decide +kernel
theorem dX11_broken_29 : decode cX11_broken 29 = .ok (.if_icmp .ge 48, 3) := by decide +kernel
theorem dX11_broken_32 : decode cX11_broken 32 = .ok (.iload_n 2, 1) := by decide +kernel
theorem dX11_broken_33 : decode cX11_broken 33 = .ok (.iconst 1, 1) := by decide +kernel
theorem dX11_broken_34 : decode cX11_broken 34 = .ok (.iadd, 1) := by decide +kernel
theorem dX11_broken_35 : decode cX11_broken 35 = .ok (.istore_n 3, 1) := by decide +kernel
theorem dX11_broken_36 : decode cX11_broken 36 = .ok (.iload_n 3, 1) := by decide +kernel
theorem dX11_broken_37 : decode cX11_broken 37 = .ok (.aload_n 0, 1) := by decide +kernel
theorem dX11_broken_38 : decode cX11_broken 38 = .ok (.getfield 10, 3) := by decide +kernel
theorem dX11_broken_41 : decode cX11_broken 41 = .ok (.getfield 122, 3) := by decide +kernel
theorem dX11_broken_44 : decode cX11_broken 44 = .ok (.getfield 126, 3) := by decide +kernel
theorem dX11_broken_47 : decode cX11_broken 47 = .ok (.if_icmp .ge 24, 3) := by decide +kernel
theorem dX11_broken_50 : decode cX11_broken 50 = .ok (.aload_n 0, 1) := by decide +kernel
theorem dX11_broken_51 : decode cX11_broken 51 = .ok (.getfield 38, 3) := by decide +kernel
theorem dX11_broken_54 : decode cX11_broken 54 = .ok (.iload_n 2, 1) := by decide +kernel
theorem dX11_broken_55 : decode cX11_broken 55 = .ok (.iload_n 3, 1) := by decide +kernel
theorem dX11_broken_56 : decode cX11_broken 56 = .ok (.invokevirtual 264, 3) := by decide +kernel
theorem dX11_broken_59 : decode cX11_broken 59 = .ok (.ifCond .eq 6, 3) := by decide +kernel
theorem dX11_broken_62 : decode cX11_broken 62 = .ok (.iinc 1 1, 3) := by decide +kernel
theorem dX11_broken_65 : decode cX11_broken 65 = .ok (.iinc 3 1, 3) := by decide +kernel
theorem dX11_broken_68 : decode cX11_broken 68 = .ok (.goto (-32), 3) := by decide +kernel
theorem dX11_broken_71 : decode cX11_broken 71 = .ok (.iinc 2 1, 3) := by decide +kernel
theorem dX11_broken_74 : decode cX11_broken 74 = .ok (.goto (-56), 3) := by decide +kernel
theorem dX11_broken_77 : decode cX11_broken 77 = .ok (.iload_n 1, 1) := by decide +kernel
theorem dX11_broken_78 : decode cX11_broken 78 = .ok (.ireturn, 1) := by decide +kernel
theorem dX11_mix_0 : decode cX11_mix 0 = .ok (.iload_n 1, 1) := by decide +kernel
theorem dX11_mix_1 : decode cX11_mix 1 = .ok (.invokestatic 268, 3) := by decide +kernel
theorem dX11_mix_4 : decode cX11_mix 4 = .ok (.ifCond .ne 6, 3) := by decide +kernel
theorem dX11_mix_7 : decode cX11_mix 7 = .ok (.ldc 70, 2) := by decide +kernel
theorem dX11_mix_9 : decode cX11_mix 9 = .ok (.ireturn, 1) := by decide +kernel
theorem dX11_mix_10 : decode cX11_mix 10 = .ok (.aload_n 0, 1) := by decide +kernel
theorem dX11_mix_11 : decode cX11_mix 11 = .ok (.iload_n 1, 1) := by decide +kernel
theorem dX11_mix_12 : decode cX11_mix 12 = .ok (.invokevirtual 271, 3) := by decide +kernel
theorem dX11_mix_15 : decode cX11_mix 15 = .ok (.ifCond .eq 13, 3) := by decide +kernel
theorem dX11_mix_18 : decode cX11_mix 18 = .ok (.aload_n 0, 1) := by decide +kernel
theorem dX11_mix_19 : decode cX11_mix 19 = .ok (.getfield 52, 3) := by decide +kernel
theorem dX11_mix_22 : decode cX11_mix 22 = .ok (.getfield 274, 3) := by decide +kernel
theorem dX11_mix_25 : decode cX11_mix 25 = .ok (.goto 6, 3) := by decide +kernel
theorem dX11_mix_28 : decode cX11_mix 28 = .ok (.ldc_w 277, 3) := by decide +kernel
theorem dX11_mix_31 : decode cX11_mix 31 = .ok (.ireturn, 1) := by decide +kernel
theorem dX11_mixed_0 : decode cX11_mixed 0 = .ok (.iload_n 1, 1) := by decide +kernel
theorem dX11_mixed_1 : decode cX11_mixed 1 = .ok (.invokestatic 268, 3) := by decide +kernel
theorem dX11_mixed_4 : decode cX11_mixed 4 = .ok (.ifCond .eq 10, 3) := by decide +kernel
theorem dX11_mixed_7 : decode cX11_mixed 7 = .ok (.iload_n 2, 1) := by decide +kernel
theorem dX11_mixed_8 : decode cX11_mixed 8 = .ok (.invokestatic 63, 3) := by decide +kernel
theorem dX11_mixed_11 : decode cX11_mixed 11 = .ok (.ifCond .ne 6, 3) := by decide +kernel
theorem dX11_mixed_14 : decode cX11_mixed 14 = .ok (.ldc 70, 2) := by decide +kernel
theorem dX11_mixed_16 : decode cX11_mixed 16 = .ok (.ireturn, 1) := by decide +kernel
theorem dX11_mixed_17 : decode cX11_mixed 17 = .ok (.aload_n 0, 1) := by decide +kernel
theorem dX11_mixed_18 : decode cX11_mixed 18 = .ok (.iload_n 1, 1) := by decide +kernel
theorem dX11_mixed_19 : decode cX11_mixed 19 = .ok (.invokevirtual 271, 3) := by decide +kernel
theorem dX11_mixed_22 : decode cX11_mixed 22 = .ok (.ifCond .eq 15, 3) := by decide +kernel
theorem dX11_mixed_25 : decode cX11_mixed 25 = .ok (.aload_n 0, 1) := by decide +kernel
theorem dX11_mixed_26 : decode cX11_mixed 26 = .ok (.getfield 52, 3) := by decide +kernel
theorem dX11_mixed_29 : decode cX11_mixed 29 = .ok (.getfield 278, 3) := by decide +kernel
theorem dX11_mixed_32 : decode cX11_mixed 32 = .ok (.iload_n 2, 1) := by decide +kernel
theorem dX11_mixed_33 : decode cX11_mixed 33 = .ok (.iaload, 1) := by decide +kernel
theorem dX11_mixed_34 : decode cX11_mixed 34 = .ok (.goto 6, 3) := by decide +kernel
theorem dX11_mixed_37 : decode cX11_mixed 37 = .ok (.ldc_w 277, 3) := by decide +kernel
theorem dX11_mixed_40 : decode cX11_mixed 40 = .ok (.ireturn, 1) := by decide +kernel
theorem dX11_tell_0 : decode cX11_tell 0 = .ok (.aload_n 0, 1) := by decide +kernel
theorem dX11_tell_1 : decode cX11_tell 1 = .ok (.getfield 281, 3) := by decide +kernel
theorem dX11_tell_4 : decode cX11_tell 4 = .ok (.bipush 24, 2) := by decide +kernel
theorem dX11_tell_6 : decode cX11_tell 6 = .ok (.if_icmp .lt 6, 3) := by decide +kernel
theorem dX11_tell_9 : decode cX11_tell 9 = .ok (.ldc 107, 2) := by decide +kernel
theorem dX11_tell_11 : decode cX11_tell 11 = .ok (.ireturn, 1) := by decide +kernel
theorem dX11_tell_12 : decode cX11_tell 12 = .ok (.aload_n 0, 1) := by decide +kernel
theorem dX11_tell_13 : decode cX11_tell 13 = .ok (.getfield 60, 3) := by decide +kernel
theorem dX11_tell_16 : decode cX11_tell 16 = .ok (.aload_n 0, 1) := by decide +kernel
theorem dX11_tell_17 : decode cX11_tell 17 = .ok (.getfield 281, 3) := by decide +kernel
theorem dX11_tell_20 : decode cX11_tell 20 = .ok (.iload_n 1, 1) := by decide +kernel
theorem dX11_tell_21 : decode cX11_tell 21 = .ok (.iastore, 1) := by decide +kernel
theorem dX11_tell_22 : decode cX11_tell 22 = .ok (.aload_n 0, 1) := by decide +kernel
theorem dX11_tell_23 : decode cX11_tell 23 = .ok (.dup, 1) := by decide +kernel
theorem dX11_tell_24 : decode cX11_tell 24 = .ok (.getfield 281, 3) := by decide +kernel
theorem dX11_tell_27 : decode cX11_tell 27 = .ok (.iconst 1, 1) := by decide +kernel
theorem dX11_tell_28 : decode cX11_tell 28 = .ok (.iadd, 1) := by decide +kernel
theorem dX11_tell_29 : decode cX11_tell 29 = .ok (.putfield 281, 3) := by decide +kernel
theorem dX11_tell_32 : decode cX11_tell 32 = .ok (.aload_n 0, 1) := by decide +kernel
theorem dX11_tell_33 : decode cX11_tell 33 = .ok (.getfield 281, 3) := by decide +kernel
theorem dX11_tell_36 : decode cX11_tell 36 = .ok (.ireturn, 1) := by decide +kernel
theorem dX11_check_0 : decode cX11_check 0 = .ok (.aload_n 0, 1) := by decide +kernel
theorem dX11_check_1 : decode cX11_check 1 = .ok (.getfield 281, 3) := by decide +kernel
theorem dX11_check_4 : decode cX11_check 4 = .ok (.istore_n 1, 1) := by decide +kernel
theorem dX11_check_5 : decode cX11_check 5 = .ok (.aload_n 0, 1) := by decide +kernel
theorem dX11_check_6 : decode cX11_check 6 = .ok (.iconst 0, 1) := by decide +kernel
theorem dX11_check_7 : decode cX11_check 7 = .ok (.putfield 281, 3) := by decide +kernel
theorem dX11_check_10 : decode cX11_check 10 = .ok (.aload_n 0, 1) := by decide +kernel
theorem dX11_check_11 : decode cX11_check 11 = .ok (.ldc_w 284, 3) := by decide +kernel
theorem dX11_check_14 : decode cX11_check 14 = .ok (.invokevirtual 271, 3) := by decide +kernel
theorem dX11_check_17 : decode cX11_check 17 = .ok (.ifCond .ne 7, 3) := by decide +kernel
theorem dX11_check_20 : decode cX11_check 20 = .ok (.ldc_w 277, 3) := by decide +kernel
theorem dX11_check_23 : decode cX11_check 23 = .ok (.ireturn, 1) := by decide +kernel
theorem dX11_check_24 : decode cX11_check 24 = .ok (.iconst 0, 1) := by decide +kernel
theorem dX11_check_25 : decode cX11_check 25 = .ok (.istore_n 2, 1) := by decide +kernel
theorem dX11_check_26 : decode cX11_check 26 = .ok (.iconst 0, 1) := by decide +kernel
theorem dX11_check_27 : decode cX11_check 27 = .ok (.istore_n 3, 1) := by decide +kernel
theorem dX11_check_28 : decode cX11_check 28 = .ok (.iload_n 3, 1) := by decide +kernel
theorem dX11_check_29 : decode cX11_check 29 = .ok (.bipush 12, 2) := by decide +kernel
theorem dX11_check_31 : decode cX11_check 31 = .ok (.if_icmp .ge 75, 3) := by decide +kernel
theorem dX11_check_34 : decode cX11_check 34 = .ok (.aload_n 0, 1) := by decide +kernel
theorem dX11_check_35 : decode cX11_check 35 = .ok (.getfield 52, 3) := by decide +kernel
theorem dX11_check_38 : decode cX11_check 38 = .ok (.getfield 278, 3) := by decide +kernel
theorem dX11_check_41 : decode cX11_check 41 = .ok (.iload_n 3, 1) := by decide +kernel
theorem dX11_check_42 : decode cX11_check 42 = .ok (.iaload, 1) := by decide +kernel
theorem dX11_check_43 : decode cX11_check 43 = .ok (.istore 4, 2) := by decide +kernel
theorem dX11_check_45 : decode cX11_check 45 = .ok (.iload 4, 2) := by decide +kernel
theorem dX11_check_47 : decode cX11_check 47 = .ok (.ldc 136, 2) := by decide +kernel
theorem dX11_check_49 : decode cX11_check 49 = .ok (.if_icmp .ne 6, 3) := by decide +kernel
theorem dX11_check_52 : decode cX11_check 52 = .ok (.goto 48, 3) := by decide +kernel
theorem dX11_check_55 : decode cX11_check 55 = .ok (.iload_n 2, 1) := by decide +kernel
theorem dX11_check_56 : decode cX11_check 56 = .ok (.iload_n 1, 1) := by decide +kernel
theorem dX11_check_57 : decode cX11_check 57 = .ok (.if_icmp .ge 13, 3) := by decide +kernel
theorem dX11_check_60 : decode cX11_check 60 = .ok (.aload_n 0, 1) := by decide +kernel
theorem dX11_check_61 : decode cX11_check 61 = .ok (.getfield 60, 3) := by decide +kernel
theorem dX11_check_64 : decode cX11_check 64 = .ok (.iload_n 2, 1) := by decide +kernel
theorem dX11_check_65 : decode cX11_check 65 = .ok (.iaload, 1) := by decide +kernel
theorem dX11_check_66 : decode cX11_check 66 = .ok (.iload_n 3, 1) := by decide +kernel
theorem dX11_check_67 : decode cX11_check 67 = .ok (.if_icmp .eq 7, 3) := by decide +kernel
theorem dX11_check_70 : decode cX11_check 70 = .ok (.iconst 1, 1) := by decide +kernel
theorem dX11_check_71 : decode cX11_check 71 = .ok (.iload_n 2, 1) := by decide +kernel
theorem dX11_check_72 : decode cX11_check 72 = .ok (.iadd, 1) := by decide +kernel
theorem dX11_check_73 : decode cX11_check 73 = .ok (.ireturn, 1) := by decide +kernel
theorem dX11_check_74 : decode cX11_check 74 = .ok (.iinc 2 1, 3) := by decide +kernel
theorem dX11_check_77 : decode cX11_check 77 = .ok (.iload_n 2, 1) := by decide +kernel
theorem dX11_check_78 : decode cX11_check 78 = .ok (.iload_n 1, 1) := by decide +kernel
theorem dX11_check_79 : decode cX11_check 79 = .ok (.if_icmp .ge 14, 3) := by decide +kernel
theorem dX11_check_82 : decode cX11_check 82 = .ok (.aload_n 0, 1) := by decide +kernel
theorem dX11_check_83 : decode cX11_check 83 = .ok (.getfield 60, 3) := by decide +kernel
theorem dX11_check_86 : decode cX11_check 86 = .ok (.iload_n 2, 1) := by decide +kernel
theorem dX11_check_87 : decode cX11_check 87 = .ok (.iaload, 1) := by decide +kernel
theorem dX11_check_88 : decode cX11_check 88 = .ok (.iload 4, 2) := by decide +kernel
theorem dX11_check_90 : decode cX11_check 90 = .ok (.if_icmp .eq 7, 3) := by decide +kernel
theorem dX11_check_93 : decode cX11_check 93 = .ok (.iconst 1, 1) := by decide +kernel
theorem dX11_check_94 : decode cX11_check 94 = .ok (.iload_n 2, 1) := by decide +kernel
theorem dX11_check_95 : decode cX11_check 95 = .ok (.iadd, 1) := by decide +kernel
theorem dX11_check_96 : decode cX11_check 96 = .ok (.ireturn, 1) := by decide +kernel
theorem dX11_check_97 : decode cX11_check 97 = .ok (.iinc 2 1, 3) := by decide +kernel
theorem dX11_check_100 : decode cX11_check 100 = .ok (.iinc 3 1, 3) := by decide +kernel
theorem dX11_check_103 : decode cX11_check 103 = .ok (.goto (-75), 3) := by decide +kernel
theorem dX11_check_106 : decode cX11_check 106 = .ok (.iload_n 2, 1) := by decide +kernel
theorem dX11_check_107 : decode cX11_check 107 = .ok (.iload_n 1, 1) := by decide +kernel
theorem dX11_check_108 : decode cX11_check 108 = .ok (.if_icmp .ne 7, 3) := by decide +kernel
theorem dX11_check_111 : decode cX11_check 111 = .ok (.iconst 0, 1) := by decide +kernel
theorem dX11_check_112 : decode cX11_check 112 = .ok (.goto 6, 3) := by decide +kernel
theorem dX11_check_115 : decode cX11_check 115 = .ok (.iconst 1, 1) := by decide +kernel
theorem dX11_check_116 : decode cX11_check 116 = .ok (.iload_n 2, 1) := by decide +kernel
theorem dX11_check_117 : decode cX11_check 117 = .ok (.iadd, 1) := by decide +kernel
theorem dX11_check_118 : decode cX11_check 118 = .ok (.ireturn, 1) := by decide +kernel
theorem dX11_keep_0 : decode cX11_keep 0 = .ok (.aload_n 0, 1) := by decide +kernel
theorem dX11_keep_1 : decode cX11_keep 1 = .ok (.getfield 16, 3) := by decide +kernel
theorem dX11_keep_4 : decode cX11_keep 4 = .ok (.aload_n 0, 1) := by decide +kernel
theorem dX11_keep_5 : decode cX11_keep 5 = .ok (.getfield 10, 3) := by decide +kernel
theorem dX11_keep_8 : decode cX11_keep 8 = .ok (.invokevirtual 285, 3) := by decide +kernel
theorem dX11_keep_11 : decode cX11_keep 11 = .ok (.aload_n 0, 1) := by decide +kernel
theorem dX11_keep_12 : decode cX11_keep 12 = .ok (.iconst 1, 1) := by decide +kernel
theorem dX11_keep_13 : decode cX11_keep 13 = .ok (.putfield 288, 3) := by decide +kernel
theorem dX11_keep_16 : decode cX11_keep 16 = .ok (.aload_n 0, 1) := by decide +kernel
theorem dX11_keep_17 : decode cX11_keep 17 = .ok (.getfield 10, 3) := by decide +kernel
theorem dX11_keep_20 : decode cX11_keep 20 = .ok (.getfield 137, 3) := by decide +kernel
theorem dX11_keep_23 : decode cX11_keep 23 = .ok (.ireturn, 1) := by decide +kernel
theorem dX11_back_0 : decode cX11_back 0 = .ok (.aload_n 0, 1) := by decide +kernel
theorem dX11_back_1 : decode cX11_back 1 = .ok (.getfield 288, 3) := by decide +kernel
theorem dX11_back_4 : decode cX11_back 4 = .ok (.ifCond .ne 6, 3) := by decide +kernel
theorem dX11_back_7 : decode cX11_back 7 = .ok (.ldc 150, 2) := by decide +kernel
theorem dX11_back_9 : decode cX11_back 9 = .ok (.ireturn, 1) := by decide +kernel
theorem dX11_back_10 : decode cX11_back 10 = .ok (.aload_n 0, 1) := by decide +kernel
theorem dX11_back_11 : decode cX11_back 11 = .ok (.getfield 10, 3) := by decide +kernel
theorem dX11_back_14 : decode cX11_back 14 = .ok (.aload_n 0, 1) := by decide +kernel
theorem dX11_back_15 : decode cX11_back 15 = .ok (.getfield 16, 3) := by decide +kernel
theorem dX11_back_18 : decode cX11_back 18 = .ok (.invokevirtual 285, 3) := by decide +kernel
theorem dX11_back_21 : decode cX11_back 21 = .ok (.aload_n 0, 1) := by decide +kernel
theorem dX11_back_22 : decode cX11_back 22 = .ok (.getfield 10, 3) := by decide +kernel
theorem dX11_back_25 : decode cX11_back 25 = .ok (.getfield 137, 3) := by decide +kernel
theorem dX11_back_28 : decode cX11_back 28 = .ok (.ireturn, 1) := by decide +kernel
theorem dX11_sheet_0 : decode cX11_sheet 0 = .ok (.iload_n 1, 1) := by decide +kernel
theorem dX11_sheet_1 : decode cX11_sheet 1 = .ok (.invokestatic 74, 3) := by decide +kernel
theorem dX11_sheet_4 : decode cX11_sheet 4 = .ok (.ifCond .eq 9, 3) := by decide +kernel
theorem dX11_sheet_7 : decode cX11_sheet 7 = .ok (.iload_n 2, 1) := by decide +kernel
theorem dX11_sheet_8 : decode cX11_sheet 8 = .ok (.bipush 16, 2) := by decide +kernel
theorem dX11_sheet_10 : decode cX11_sheet 10 = .ok (.if_icmp .le 6, 3) := by decide +kernel
theorem dX11_sheet_13 : decode cX11_sheet 13 = .ok (.ldc 70, 2) := by decide +kernel
theorem dX11_sheet_15 : decode cX11_sheet 15 = .ok (.ireturn, 1) := by decide +kernel
theorem dX11_sheet_16 : decode cX11_sheet 16 = .ok (.iload_n 2, 1) := by decide +kernel
theorem dX11_sheet_17 : decode cX11_sheet 17 = .ok (.ifCond .ge 7, 3) := by decide +kernel
theorem dX11_sheet_20 : decode cX11_sheet 20 = .ok (.ldc_w 292, 3) := by decide +kernel
theorem dX11_sheet_23 : decode cX11_sheet 23 = .ok (.ireturn, 1) := by decide +kernel
theorem dX11_sheet_24 : decode cX11_sheet 24 = .ok (.aload_n 0, 1) := by decide +kernel
theorem dX11_sheet_25 : decode cX11_sheet 25 = .ok (.getfield 29, 3) := by decide +kernel
theorem dX11_sheet_28 : decode cX11_sheet 28 = .ok (.iload_n 1, 1) := by decide +kernel
theorem dX11_sheet_29 : decode cX11_sheet 29 = .ok (.iload_n 2, 1) := by decide +kernel
theorem dX11_sheet_30 : decode cX11_sheet 30 = .ok (.invokevirtual 293, 3) := by decide +kernel
theorem dX11_sheet_33 : decode cX11_sheet 33 = .ok (.iload_n 2, 1) := by decide +kernel
theorem dX11_sheet_34 : decode cX11_sheet 34 = .ok (.ireturn, 1) := by decide +kernel
theorem dX11_mark_0 : decode cX11_mark 0 = .ok (.iload_n 1, 1) := by decide +kernel
theorem dX11_mark_1 : decode cX11_mark 1 = .ok (.invokestatic 74, 3) := by decide +kernel
theorem dX11_mark_4 : decode cX11_mark 4 = .ok (.ifCond .ne 6, 3) := by decide +kernel
theorem dX11_mark_7 : decode cX11_mark 7 = .ok (.ldc 70, 2) := by decide +kernel
theorem dX11_mark_9 : decode cX11_mark 9 = .ok (.ireturn, 1) := by decide +kernel
theorem dX11_mark_10 : decode cX11_mark 10 = .ok (.aload_n 0, 1) := by decide +kernel
theorem dX11_mark_11 : decode cX11_mark 11 = .ok (.getfield 29, 3) := by decide +kernel
theorem dX11_mark_14 : decode cX11_mark 14 = .ok (.iload_n 1, 1) := by decide +kernel
theorem dX11_mark_15 : decode cX11_mark 15 = .ok (.invokevirtual 77, 3) := by decide +kernel
theorem dX11_mark_18 : decode cX11_mark 18 = .ok (.ifCond .eq 6, 3) := by decide +kernel
theorem dX11_mark_21 : decode cX11_mark 21 = .ok (.ldc 80, 2) := by decide +kernel
theorem dX11_mark_23 : decode cX11_mark 23 = .ok (.ireturn, 1) := by decide +kernel
theorem dX11_mark_24 : decode cX11_mark 24 = .ok (.aload_n 0, 1) := by decide +kernel
theorem dX11_mark_25 : decode cX11_mark 25 = .ok (.getfield 29, 3) := by decide +kernel
theorem dX11_mark_28 : decode cX11_mark 28 = .ok (.iload_n 1, 1) := by decide +kernel
theorem dX11_mark_29 : decode cX11_mark 29 = .ok (.iload_n 2, 1) := by decide +kernel
theorem dX11_mark_30 : decode cX11_mark 30 = .ok (.iconst 1, 1) := by decide +kernel
theorem dX11_mark_31 : decode cX11_mark 31 = .ok (.invokevirtual 297, 3) := by decide +kernel
theorem dX11_mark_34 : decode cX11_mark 34 = .ok (.ifCond .ne 7, 3) := by decide +kernel
theorem dX11_mark_37 : decode cX11_mark 37 = .ok (.ldc_w 300, 3) := by decide +kernel
theorem dX11_mark_40 : decode cX11_mark 40 = .ok (.ireturn, 1) := by decide +kernel
theorem dX11_mark_41 : decode cX11_mark 41 = .ok (.aload_n 0, 1) := by decide +kernel
theorem dX11_mark_42 : decode cX11_mark 42 = .ok (.getfield 29, 3) := by decide +kernel
theorem dX11_mark_45 : decode cX11_mark 45 = .ok (.getfield 90, 3) := by decide +kernel
theorem dX11_mark_48 : decode cX11_mark 48 = .ok (.iload_n 1, 1) := by decide +kernel
theorem dX11_mark_49 : decode cX11_mark 49 = .ok (.aaload, 1) := by decide +kernel
theorem dX11_mark_50 : decode cX11_mark 50 = .ok (.iload_n 2, 1) := by decide +kernel
theorem dX11_mark_51 : decode cX11_mark 51 = .ok (.saload, 1) := by decide +kernel
theorem dX11_mark_52 : decode cX11_mark 52 = .ok (.istore 4, 2) := by decide +kernel
theorem dX11_mark_54 : decode cX11_mark 54 = .ok (.aload_n 0, 1) := by decide +kernel
theorem dX11_mark_55 : decode cX11_mark 55 = .ok (.getfield 29, 3) := by decide +kernel
theorem dX11_mark_58 : decode cX11_mark 58 = .ok (.getfield 90, 3) := by decide +kernel
theorem dX11_mark_61 : decode cX11_mark 61 = .ok (.iload_n 1, 1) := by decide +kernel
theorem dX11_mark_62 : decode cX11_mark 62 = .ok (.aaload, 1) := by decide +kernel
theorem dX11_mark_63 : decode cX11_mark 63 = .ok (.iload_n 2, 1) := by decide +kernel
theorem dX11_mark_64 : decode cX11_mark 64 = .ok (.iload_n 3, 1) := by decide +kernel
theorem dX11_mark_65 : decode cX11_mark 65 = .ok (.i2s, 1) := by decide +kernel
theorem dX11_mark_66 : decode cX11_mark 66 = .ok (.sastore, 1) := by decide +kernel
theorem dX11_mark_67 : decode cX11_mark 67 = .ok (.iload 4, 2) := by decide +kernel
theorem dX11_mark_69 : decode cX11_mark 69 = .ok (.ireturn, 1) := by decide +kernel
theorem dX11_copy_0 : decode cX11_copy 0 = .ok (.iload_n 1, 1) := by decide +kernel
theorem dX11_copy_1 : decode cX11_copy 1 = .ok (.invokestatic 74, 3) := by decide +kernel
theorem dX11_copy_4 : decode cX11_copy 4 = .ok (.ifCond .eq 10, 3) := by decide +kernel
theorem dX11_copy_7 : decode cX11_copy 7 = .ok (.iload_n 3, 1) := by decide +kernel
theorem dX11_copy_8 : decode cX11_copy 8 = .ok (.invokestatic 74, 3) := by decide +kernel
theorem dX11_copy_11 : decode cX11_copy 11 = .ok (.ifCond .ne 6, 3) := by decide +kernel
theorem dX11_copy_14 : decode cX11_copy 14 = .ok (.ldc 70, 2) := by decide +kernel
theorem dX11_copy_16 : decode cX11_copy 16 = .ok (.ireturn, 1) := by decide +kernel
theorem dX11_copy_17 : decode cX11_copy 17 = .ok (.aload_n 0, 1) := by decide +kernel
theorem dX11_copy_18 : decode cX11_copy 18 = .ok (.getfield 29, 3) := by decide +kernel
theorem dX11_copy_21 : decode cX11_copy 21 = .ok (.iload_n 1, 1) := by decide +kernel
theorem dX11_copy_22 : decode cX11_copy 22 = .ok (.invokevirtual 77, 3) := by decide +kernel
theorem dX11_copy_25 : decode cX11_copy 25 = .ok (.ifCond .ne 14, 3) := by decide +kernel
theorem dX11_copy_28 : decode cX11_copy 28 = .ok (.aload_n 0, 1) := by decide +kernel
theorem dX11_copy_29 : decode cX11_copy 29 = .ok (.getfield 29, 3) := by decide +kernel
theorem dX11_copy_32 : decode cX11_copy 32 = .ok (.iload_n 3, 1) := by decide +kernel
theorem dX11_copy_33 : decode cX11_copy 33 = .ok (.invokevirtual 77, 3) := by decide +kernel
theorem dX11_copy_36 : decode cX11_copy 36 = .ok (.ifCond .eq 6, 3) := by decide +kernel
theorem dX11_copy_39 : decode cX11_copy 39 = .ok (.ldc 80, 2) := by decide +kernel
theorem dX11_copy_41 : decode cX11_copy 41 = .ok (.ireturn, 1) := by decide +kernel
theorem dX11_copy_42 : decode cX11_copy 42 = .ok (.aload_n 0, 1) := by decide +kernel
theorem dX11_copy_43 : decode cX11_copy 43 = .ok (.getfield 29, 3) := by decide +kernel
theorem dX11_copy_46 : decode cX11_copy 46 = .ok (.iload_n 1, 1) := by decide +kernel
theorem dX11_copy_47 : decode cX11_copy 47 = .ok (.iload_n 2, 1) := by decide +kernel
theorem dX11_copy_48 : decode cX11_copy 48 = .ok (.iload 5, 2) := by decide +kernel
theorem dX11_copy_50 : decode cX11_copy 50 = .ok (.invokevirtual 297, 3) := by decide +kernel
theorem dX11_copy_53 : decode cX11_copy 53 = .ok (.ifCond .eq 18, 3) := by decide +kernel
theorem dX11_copy_56 : decode cX11_copy 56 = .ok (.aload_n 0, 1) := by decide +kernel
theorem dX11_copy_57 : decode cX11_copy 57 = .ok (.getfield 29, 3) := by decide +kernel
theorem dX11_copy_60 : decode cX11_copy 60 = .ok (.iload_n 3, 1) := by decide +kernel
theorem dX11_copy_61 : decode cX11_copy 61 = .ok (.iload 4, 2) := by decide +kernel
theorem dX11_copy_63 : decode cX11_copy 63 = .ok (.iload 5, 2) := by decide +kernel
theorem dX11_copy_65 : decode cX11_copy 65 = .ok (.invokevirtual 297, 3) := by decide +kernel
theorem dX11_copy_68 : decode cX11_copy 68 = .ok (.ifCond .ne 7, 3) := by decide +kernel
theorem dX11_copy_71 : decode cX11_copy 71 = .ok (.ldc_w 300, 3) := by decide +kernel
theorem dX11_copy_74 : decode cX11_copy 74 = .ok (.ireturn, 1) := by decide +kernel
theorem dX11_copy_75 : decode cX11_copy 75 = .ok (.aload_n 0, 1) := by decide +kernel
theorem dX11_copy_76 : decode cX11_copy 76 = .ok (.getfield 29, 3) := by decide +kernel
theorem dX11_copy_79 : decode cX11_copy 79 = .ok (.getfield 90, 3) := by decide +kernel
theorem dX11_copy_82 : decode cX11_copy 82 = .ok (.iload_n 1, 1) := by decide +kernel
theorem dX11_copy_83 : decode cX11_copy 83 = .ok (.aaload, 1) := by decide +kernel
theorem dX11_copy_84 : decode cX11_copy 84 = .ok (.iload_n 2, 1) := by decide +kernel
theorem dX11_copy_85 : decode cX11_copy 85 = .ok (.aload_n 0, 1) := by decide +kernel
theorem dX11_copy_86 : decode cX11_copy 86 = .ok (.getfield 29, 3) := by decide +kernel
theorem dX11_copy_89 : decode cX11_copy 89 = .ok (.getfield 90, 3) := by decide +kernel
theorem dX11_copy_92 : decode cX11_copy 92 = .ok (.iload_n 3, 1) := by decide +kernel
theorem dX11_copy_93 : decode cX11_copy 93 = .ok (.aaload, 1) := by decide +kernel
theorem dX11_copy_94 : decode cX11_copy 94 = .ok (.iload 4, 2) := by decide +kernel
theorem dX11_copy_96 : decode cX11_copy 96 = .ok (.iload 5, 2) := by decide +kernel
theorem dX11_copy_98 : decode cX11_copy 98 = .ok (.invokestatic 301, 3) := by decide +kernel
theorem dX11_copy_101 : decode cX11_copy 101 = .ok (.iload 5, 2) := by decide +kernel
theorem dX11_copy_103 : decode cX11_copy 103 = .ok (.ireturn, 1) := by decide +kernel
theorem dX11_count_0 : decode cX11_count 0 = .ok (.iload_n 1, 1) := by decide +kernel
theorem dX11_count_1 : decode cX11_count 1 = .ok (.tableswitch 147 0 9 #[55, 66, 77, 82, 93, 104, 115, 126, 131, 139], 55) := by decide +kernel
theorem dX11_count_56 : decode cX11_count 56 = .ok (.aload_n 0, 1) := by decide +kernel
theorem dX11_count_57 : decode cX11_count 57 = .ok (.getfield 10, 3) := by decide +kernel
theorem dX11_count_60 : decode cX11_count 60 = .ok (.getfield 97, 3) := by decide +kernel
theorem dX11_count_63 : decode cX11_count 63 = .ok (.getfield 101, 3) := by decide +kernel
theorem dX11_count_66 : decode cX11_count 66 = .ok (.ireturn, 1) := by decide +kernel
theorem dX11_count_67 : decode cX11_count 67 = .ok (.aload_n 0, 1) := by decide +kernel
theorem dX11_count_68 : decode cX11_count 68 = .ok (.getfield 10, 3) := by decide +kernel
theorem dX11_count_71 : decode cX11_count 71 = .ok (.getfield 122, 3) := by decide +kernel
theorem dX11_count_74 : decode cX11_count 74 = .ok (.getfield 126, 3) := by decide +kernel
theorem dX11_count_77 : decode cX11_count 77 = .ok (.ireturn, 1) := by decide +kernel
theorem dX11_count_78 : decode cX11_count 78 = .ok (.aload_n 0, 1) := by decide +kernel
theorem dX11_count_79 : decode cX11_count 79 = .ok (.invokevirtual 307, 3) := by decide +kernel
theorem dX11_count_82 : decode cX11_count 82 = .ok (.ireturn, 1) := by decide +kernel
theorem dX11_count_83 : decode cX11_count 83 = .ok (.aload_n 0, 1) := by decide +kernel
theorem dX11_count_84 : decode cX11_count 84 = .ok (.getfield 10, 3) := by decide +kernel
theorem dX11_count_87 : decode cX11_count 87 = .ok (.getfield 190, 3) := by decide +kernel
theorem dX11_count_90 : decode cX11_count 90 = .ok (.getfield 194, 3) := by decide +kernel
theorem dX11_count_93 : decode cX11_count 93 = .ok (.ireturn, 1) := by decide +kernel
theorem dX11_count_94 : decode cX11_count 94 = .ok (.aload_n 0, 1) := by decide +kernel
theorem dX11_count_95 : decode cX11_count 95 = .ok (.getfield 10, 3) := by decide +kernel
theorem dX11_count_98 : decode cX11_count 98 = .ok (.getfield 190, 3) := by decide +kernel
theorem dX11_count_101 : decode cX11_count 101 = .ok (.invokevirtual 310, 3) := by decide +kernel
theorem dX11_count_104 : decode cX11_count 104 = .ok (.ireturn, 1) := by decide +kernel
theorem dX11_count_105 : decode cX11_count 105 = .ok (.aload_n 0, 1) := by decide +kernel
theorem dX11_count_106 : decode cX11_count 106 = .ok (.getfield 10, 3) := by decide +kernel
theorem dX11_count_109 : decode cX11_count 109 = .ok (.getfield 232, 3) := by decide +kernel
theorem dX11_count_112 : decode cX11_count 112 = .ok (.invokevirtual 313, 3) := by decide +kernel
theorem dX11_count_115 : decode cX11_count 115 = .ok (.ireturn, 1) := by decide +kernel
theorem dX11_count_116 : decode cX11_count 116 = .ok (.aload_n 0, 1) := by decide +kernel
theorem dX11_count_117 : decode cX11_count 117 = .ok (.getfield 10, 3) := by decide +kernel
theorem dX11_count_120 : decode cX11_count 120 = .ok (.getfield 151, 3) := by decide +kernel
theorem dX11_count_123 : decode cX11_count 123 = .ok (.getfield 155, 3) := by decide +kernel
theorem dX11_count_126 : decode cX11_count 126 = .ok (.ireturn, 1) := by decide +kernel
theorem dX11_count_127 : decode cX11_count 127 = .ok (.aload_n 0, 1) := by decide +kernel
theorem dX11_count_128 : decode cX11_count 128 = .ok (.getfield 281, 3) := by decide +kernel
theorem dX11_count_131 : decode cX11_count 131 = .ok (.ireturn, 1) := by decide +kernel
theorem dX11_count_132 : decode cX11_count 132 = .ok (.aload_n 0, 1) := by decide +kernel
theorem dX11_count_133 : decode cX11_count 133 = .ok (.getfield 22, 3) := by decide +kernel
theorem dX11_count_136 : decode cX11_count 136 = .ok (.getfield 222, 3) := by decide +kernel
theorem dX11_count_139 : decode cX11_count 139 = .ok (.ireturn, 1) := by decide +kernel
theorem dX11_count_140 : decode cX11_count 140 = .ok (.aload_n 0, 1) := by decide +kernel
theorem dX11_count_141 : decode cX11_count 141 = .ok (.getfield 10, 3) := by decide +kernel
theorem dX11_count_144 : decode cX11_count 144 = .ok (.getfield 137, 3) := by decide +kernel
theorem dX11_count_147 : decode cX11_count 147 = .ok (.ireturn, 1) := by decide +kernel
theorem dX11_count_148 : decode cX11_count 148 = .ok (.ldc 70, 2) := by decide +kernel
theorem dX11_count_150 : decode cX11_count 150 = .ok (.ireturn, 1) := by decide +kernel
theorem dX11_within_0 : decode cX11_within 0 = .ok (.iload_n 0, 1) := by decide +kernel
theorem dX11_within_1 : decode cX11_within 1 = .ok (.iload_n 1, 1) := by decide +kernel
theorem dX11_within_2 : decode cX11_within 2 = .ok (.if_icmp .lt 12, 3) := by decide +kernel
theorem dX11_within_5 : decode cX11_within 5 = .ok (.iload_n 0, 1) := by decide +kernel
theorem dX11_within_6 : decode cX11_within 6 = .ok (.iload_n 2, 1) := by decide +kernel
theorem dX11_within_7 : decode cX11_within 7 = .ok (.if_icmp .gt 7, 3) := by decide +kernel
theorem dX11_within_10 : decode cX11_within 10 = .ok (.iconst 1, 1) := by decide +kernel
theorem dX11_within_11 : decode cX11_within 11 = .ok (.goto 4, 3) := by decide +kernel
theorem dX11_within_14 : decode cX11_within 14 = .ok (.iconst 0, 1) := by decide +kernel
theorem dX11_within_15 : decode cX11_within 15 = .ok (.ireturn, 1) := by decide +kernel
theorem dX11_isPlace_0 : decode cX11_isPlace 0 = .ok (.iload_n 0, 1) := by decide +kernel
theorem dX11_isPlace_1 : decode cX11_isPlace 1 = .ok (.iconst 0, 1) := by decide +kernel
theorem dX11_isPlace_2 : decode cX11_isPlace 2 = .ok (.bipush 11, 2) := by decide +kernel
theorem dX11_isPlace_4 : decode cX11_isPlace 4 = .ok (.invokestatic 117, 3) := by decide +kernel
theorem dX11_isPlace_7 : decode cX11_isPlace 7 = .ok (.ireturn, 1) := by decide +kernel
theorem dX11_isFeet_0 : decode cX11_isFeet 0 = .ok (.iload_n 0, 1) := by decide +kernel
theorem dX11_isFeet_1 : decode cX11_isFeet 1 = .ok (.bipush 10, 2) := by decide +kernel
theorem dX11_isFeet_3 : decode cX11_isFeet 3 = .ok (.sipush 999, 3) := by decide +kernel
theorem dX11_isFeet_6 : decode cX11_isFeet 6 = .ok (.invokestatic 117, 3) := by decide +kernel
theorem dX11_isFeet_9 : decode cX11_isFeet 9 = .ok (.ireturn, 1) := by decide +kernel
theorem dX11_isPeople_0 : decode cX11_isPeople 0 = .ok (.iload_n 0, 1) := by decide +kernel
theorem dX11_isPeople_1 : decode cX11_isPeople 1 = .ok (.iconst 0, 1) := by decide +kernel
theorem dX11_isPeople_2 : decode cX11_isPeople 2 = .ok (.sipush 9999, 3) := by decide +kernel
theorem dX11_isPeople_5 : decode cX11_isPeople 5 = .ok (.invokestatic 117, 3) := by decide +kernel
theorem dX11_isPeople_8 : decode cX11_isPeople 8 = .ok (.ireturn, 1) := by decide +kernel
theorem dX11_isTries_0 : decode cX11_isTries 0 = .ok (.iload_n 0, 1) := by decide +kernel
theorem dX11_isTries_1 : decode cX11_isTries 1 = .ok (.iconst 1, 1) := by decide +kernel
theorem dX11_isTries_2 : decode cX11_isTries 2 = .ok (.ldc_w 284, 3) := by decide +kernel
theorem dX11_isTries_5 : decode cX11_isTries 5 = .ok (.invokestatic 117, 3) := by decide +kernel
theorem dX11_isTries_8 : decode cX11_isTries 8 = .ok (.ireturn, 1) := by decide +kernel
theorem dX11_isMonth_0 : decode cX11_isMonth 0 = .ok (.iload_n 1, 1) := by decide +kernel
theorem dX11_isMonth_1 : decode cX11_isMonth 1 = .ok (.iconst 0, 1) := by decide +kernel
theorem dX11_isMonth_2 : decode cX11_isMonth 2 = .ok (.aload_n 0, 1) := by decide +kernel
theorem dX11_isMonth_3 : decode cX11_isMonth 3 = .ok (.getfield 10, 3) := by decide +kernel
theorem dX11_isMonth_6 : decode cX11_isMonth 6 = .ok (.getfield 137, 3) := by decide +kernel
theorem dX11_isMonth_9 : decode cX11_isMonth 9 = .ok (.invokestatic 117, 3) := by decide +kernel
theorem dX11_isMonth_12 : decode cX11_isMonth 12 = .ok (.ireturn, 1) := by decide +kernel
theorem dX11_countIn_0 : decode cX11_countIn 0 = .ok (.aload_n 0, 1) := by decide +kernel
theorem dX11_countIn_1 : decode cX11_countIn 1 = .ok (.getfield 38, 3) := by decide +kernel
theorem dX11_countIn_4 : decode cX11_countIn 4 = .ok (.aload_n 0, 1) := by decide +kernel
theorem dX11_countIn_5 : decode cX11_countIn 5 = .ok (.getfield 10, 3) := by decide +kernel
theorem dX11_countIn_8 : decode cX11_countIn 8 = .ok (.getfield 137, 3) := by decide +kernel
theorem dX11_countIn_11 : decode cX11_countIn 11 = .ok (.invokevirtual 140, 3) := by decide +kernel
theorem dX11_countIn_14 : decode cX11_countIn 14 = .ok (.aload_n 0, 1) := by decide +kernel
theorem dX11_countIn_15 : decode cX11_countIn 15 = .ok (.getfield 38, 3) := by decide +kernel
theorem dX11_countIn_18 : decode cX11_countIn 18 = .ok (.getfield 316, 3) := by decide +kernel
theorem dX11_countIn_21 : decode cX11_countIn 21 = .ok (.ireturn, 1) := by decide +kernel
theorem dX11_rentOf_0 : decode cX11_rentOf 0 = .ok (.aload_n 0, 1) := by decide +kernel
theorem dX11_rentOf_1 : decode cX11_rentOf 1 = .ok (.getfield 38, 3) := by decide +kernel
theorem dX11_rentOf_4 : decode cX11_rentOf 4 = .ok (.getfield 144, 3) := by decide +kernel
theorem dX11_rentOf_7 : decode cX11_rentOf 7 = .ok (.iload_n 1, 1) := by decide +kernel
theorem dX11_rentOf_8 : decode cX11_rentOf 8 = .ok (.iaload, 1) := by decide +kernel
theorem dX11_rentOf_9 : decode cX11_rentOf 9 = .ok (.ldc 136, 2) := by decide +kernel
theorem dX11_rentOf_11 : decode cX11_rentOf 11 = .ok (.if_icmp .eq 18, 3) := by decide +kernel
theorem dX11_rentOf_14 : decode cX11_rentOf 14 = .ok (.aload_n 0, 1) := by decide +kernel
theorem dX11_rentOf_15 : decode cX11_rentOf 15 = .ok (.getfield 10, 3) := by decide +kernel
theorem dX11_rentOf_18 : decode cX11_rentOf 18 = .ok (.getfield 232, 3) := by decide +kernel
theorem dX11_rentOf_21 : decode cX11_rentOf 21 = .ok (.getfield 319, 3) := by decide +kernel
theorem dX11_rentOf_24 : decode cX11_rentOf 24 = .ok (.iload_n 1, 1) := by decide +kernel
theorem dX11_rentOf_25 : decode cX11_rentOf 25 = .ok (.baload, 1) := by decide +kernel
theorem dX11_rentOf_26 : decode cX11_rentOf 26 = .ok (.ifCond .ne 5, 3) := by decide +kernel
theorem dX11_rentOf_29 : decode cX11_rentOf 29 = .ok (.iconst 0, 1) := by decide +kernel
theorem dX11_rentOf_30 : decode cX11_rentOf 30 = .ok (.ireturn, 1) := by decide +kernel
theorem dX11_rentOf_31 : decode cX11_rentOf 31 = .ok (.aload_n 0, 1) := by decide +kernel
theorem dX11_rentOf_32 : decode cX11_rentOf 32 = .ok (.iload_n 1, 1) := by decide +kernel
theorem dX11_rentOf_33 : decode cX11_rentOf 33 = .ok (.iconst 0, 1) := by decide +kernel
theorem dX11_rentOf_34 : decode cX11_rentOf 34 = .ok (.iload_n 2, 1) := by decide +kernel
theorem dX11_rentOf_35 : decode cX11_rentOf 35 = .ok (.invokevirtual 323, 3) := by decide +kernel
theorem dX11_rentOf_38 : decode cX11_rentOf 38 = .ok (.aload_n 0, 1) := by decide +kernel
theorem dX11_rentOf_39 : decode cX11_rentOf 39 = .ok (.iload_n 1, 1) := by decide +kernel
theorem dX11_rentOf_40 : decode cX11_rentOf 40 = .ok (.iconst 1, 1) := by decide +kernel
theorem dX11_rentOf_41 : decode cX11_rentOf 41 = .ok (.iload_n 2, 1) := by decide +kernel
theorem dX11_rentOf_42 : decode cX11_rentOf 42 = .ok (.invokevirtual 323, 3) := by decide +kernel
theorem dX11_rentOf_45 : decode cX11_rentOf 45 = .ok (.iadd, 1) := by decide +kernel
theorem dX11_rentOf_46 : decode cX11_rentOf 46 = .ok (.ireturn, 1) := by decide +kernel
theorem dX11_rentPart_0 : decode cX11_rentPart 0 = .ok (.aload_n 0, 1) := by decide +kernel
theorem dX11_rentPart_1 : decode cX11_rentPart 1 = .ok (.getfield 45, 3) := by decide +kernel
theorem dX11_rentPart_4 : decode cX11_rentPart 4 = .ok (.aload_n 0, 1) := by decide +kernel
theorem dX11_rentPart_5 : decode cX11_rentPart 5 = .ok (.getfield 38, 3) := by decide +kernel
theorem dX11_rentPart_8 : decode cX11_rentPart 8 = .ok (.iload_n 1, 1) := by decide +kernel
theorem dX11_rentPart_9 : decode cX11_rentPart 9 = .ok (.iload_n 2, 1) := by decide +kernel
theorem dX11_rentPart_10 : decode cX11_rentPart 10 = .ok (.iload_n 3, 1) := by decide +kernel
theorem dX11_rentPart_11 : decode cX11_rentPart 11 = .ok (.invokevirtual 326, 3) := by decide +kernel
theorem dX11_rentPart_14 : decode cX11_rentPart 14 = .ok (.istore 4, 2) := by decide +kernel
theorem dX11_rentPart_16 : decode cX11_rentPart 16 = .ok (.iconst 0, 1) := by decide +kernel
theorem dX11_rentPart_17 : decode cX11_rentPart 17 = .ok (.ldc 121, 2) := by decide +kernel
theorem dX11_rentPart_19 : decode cX11_rentPart 19 = .ok (.iload 4, 2) := by decide +kernel
theorem dX11_rentPart_21 : decode cX11_rentPart 21 = .ok (.invokestatic 84, 3) := by decide +kernel
theorem dX11_rentPart_24 : decode cX11_rentPart 24 = .ok (.invokestatic 330, 3) := by decide +kernel
theorem dX11_rentPart_27 : decode cX11_rentPart 27 = .ok (.ireturn, 1) := by decide +kernel
theorem dX11_letFall_0 : decode cX11_letFall 0 = .ok (.iconst 0, 1) := by decide +kernel
theorem dX11_letFall_1 : decode cX11_letFall 1 = .ok (.istore_n 1, 1) := by decide +kernel
theorem dX11_letFall_2 : decode cX11_letFall 2 = .ok (.iconst 0, 1) := by decide +kernel
theorem dX11_letFall_3 : decode cX11_letFall 3 = .ok (.istore_n 2, 1) := by decide +kernel
theorem dX11_letFall_4 : decode cX11_letFall 4 = .ok (.iload_n 2, 1) := by decide +kernel
theorem dX11_letFall_5 : decode cX11_letFall 5 = .ok (.bipush 12, 2) := by decide +kernel
theorem dX11_letFall_7 : decode cX11_letFall 7 = .ok (.if_icmp .ge 41, 3) := by decide +kernel
theorem dX11_letFall_10 : decode cX11_letFall 10 = .ok (.aload_n 0, 1) := by decide +kernel
theorem dX11_letFall_11 : decode cX11_letFall 11 = .ok (.invokevirtual 333, 3) := by decide +kernel
theorem dX11_letFall_14 : decode cX11_letFall 14 = .ok (.istore_n 3, 1) := by decide +kernel
theorem dX11_letFall_15 : decode cX11_letFall 15 = .ok (.iload_n 3, 1) := by decide +kernel
theorem dX11_letFall_16 : decode cX11_letFall 16 = .ok (.ldc 136, 2) := by decide +kernel
theorem dX11_letFall_18 : decode cX11_letFall 18 = .ok (.if_icmp .ne 6, 3) := by decide +kernel
theorem dX11_letFall_21 : decode cX11_letFall 21 = .ok (.goto 27, 3) := by decide +kernel
theorem dX11_letFall_24 : decode cX11_letFall 24 = .ok (.aload_n 0, 1) := by decide +kernel
theorem dX11_letFall_25 : decode cX11_letFall 25 = .ok (.getfield 38, 3) := by decide +kernel
theorem dX11_letFall_28 : decode cX11_letFall 28 = .ok (.iload_n 3, 1) := by decide +kernel
theorem dX11_letFall_29 : decode cX11_letFall 29 = .ok (.invokevirtual 261, 3) := by decide +kernel
theorem dX11_letFall_32 : decode cX11_letFall 32 = .ok (.aload_n 0, 1) := by decide +kernel
theorem dX11_letFall_33 : decode cX11_letFall 33 = .ok (.getfield 56, 3) := by decide +kernel
theorem dX11_letFall_36 : decode cX11_letFall 36 = .ok (.iload_n 1, 1) := by decide +kernel
theorem dX11_letFall_37 : decode cX11_letFall 37 = .ok (.iload_n 3, 1) := by decide +kernel
theorem dX11_letFall_38 : decode cX11_letFall 38 = .ok (.iastore, 1) := by decide +kernel
theorem dX11_letFall_39 : decode cX11_letFall 39 = .ok (.iinc 1 1, 3) := by decide +kernel
theorem dX11_letFall_42 : decode cX11_letFall 42 = .ok (.iinc 2 1, 3) := by decide +kernel
theorem dX11_letFall_45 : decode cX11_letFall 45 = .ok (.goto (-41), 3) := by decide +kernel
theorem dX11_letFall_48 : decode cX11_letFall 48 = .ok (.iload_n 1, 1) := by decide +kernel
theorem dX11_letFall_49 : decode cX11_letFall 49 = .ok (.ireturn, 1) := by decide +kernel
theorem dX11_firstToLeave_0 : decode cX11_firstToLeave 0 = .ok (.iconst 0, 1) := by decide +kernel
theorem dX11_firstToLeave_1 : decode cX11_firstToLeave 1 = .ok (.istore_n 1, 1) := by decide +kernel
theorem dX11_firstToLeave_2 : decode cX11_firstToLeave 2 = .ok (.iload_n 1, 1) := by decide +kernel
theorem dX11_firstToLeave_3 : decode cX11_firstToLeave 3 = .ok (.aload_n 0, 1) := by decide +kernel
theorem dX11_firstToLeave_4 : decode cX11_firstToLeave 4 = .ok (.getfield 10, 3) := by decide +kernel
theorem dX11_firstToLeave_7 : decode cX11_firstToLeave 7 = .ok (.getfield 122, 3) := by decide +kernel
theorem dX11_firstToLeave_10 : decode cX11_firstToLeave 10 = .ok (.getfield 126, 3) := by decide +kernel
theorem dX11_firstToLeave_13 : decode cX11_firstToLeave 13 = .ok (.if_icmp .ge 73, 3) := by decide +kernel
theorem dX11_firstToLeave_16 : decode cX11_firstToLeave 16 = .ok (.aload_n 0, 1) := by decide +kernel
theorem dX11_firstToLeave_17 : decode cX11_firstToLeave 17 = .ok (.getfield 38, 3) := by decide +kernel
theorem dX11_firstToLeave_20 : decode cX11_firstToLeave 20 = .ok (.getfield 144, 3) := by decide +kernel
theorem dX11_firstToLeave_23 : decode cX11_firstToLeave 23 = .ok (.iload_n 1, 1) := by decide +kernel
theorem dX11_firstToLeave_24 : decode cX11_firstToLeave 24 = .ok (.iaload, 1) := by decide +kernel
theorem dX11_firstToLeave_25 : decode cX11_firstToLeave 25 = .ok (.ldc 136, 2) := by decide +kernel
theorem dX11_firstToLeave_27 : decode cX11_firstToLeave 27 = .ok (.if_icmp .eq 22, 3) := by decide +kernel
theorem dX11_firstToLeave_30 : decode cX11_firstToLeave 30 = .ok (.aload_n 0, 1) := by decide +kernel
theorem dX11_firstToLeave_31 : decode cX11_firstToLeave 31 = .ok (.getfield 10, 3) := by decide +kernel
theorem dX11_firstToLeave_34 : decode cX11_firstToLeave 34 = .ok (.getfield 232, 3) := by decide +kernel
theorem dX11_firstToLeave_37 : decode cX11_firstToLeave 37 = .ok (.getfield 319, 3) := by decide +kernel
theorem dX11_firstToLeave_40 : decode cX11_firstToLeave 40 = .ok (.iload_n 1, 1) := by decide +kernel
theorem dX11_firstToLeave_41 : decode cX11_firstToLeave 41 = .ok (.baload, 1) := by decide +kernel
theorem dX11_firstToLeave_42 : decode cX11_firstToLeave 42 = .ok (.ifCond .eq 7, 3) := by decide +kernel
theorem dX11_firstToLeave_45 : decode cX11_firstToLeave 45 = .ok (.iconst 1, 1) := by decide +kernel
theorem dX11_firstToLeave_46 : decode cX11_firstToLeave 46 = .ok (.goto 4, 3) := by decide +kernel
theorem dX11_firstToLeave_49 : decode cX11_firstToLeave 49 = .ok (.iconst 0, 1) := by decide +kernel
theorem dX11_firstToLeave_50 : decode cX11_firstToLeave 50 = .ok (.istore_n 2, 1) := by decide +kernel
theorem dX11_firstToLeave_51 : decode cX11_firstToLeave 51 = .ok (.iload_n 2, 1) := by decide +kernel
theorem dX11_firstToLeave_52 : decode cX11_firstToLeave 52 = .ok (.ifCond .eq 28, 3) := by decide +kernel
theorem dX11_firstToLeave_55 : decode cX11_firstToLeave 55 = .ok (.aload_n 0, 1) := by decide +kernel
theorem dX11_firstToLeave_56 : decode cX11_firstToLeave 56 = .ok (.getfield 45, 3) := by decide +kernel
theorem dX11_firstToLeave_59 : decode cX11_firstToLeave 59 = .ok (.aload_n 0, 1) := by decide +kernel
theorem dX11_firstToLeave_60 : decode cX11_firstToLeave 60 = .ok (.getfield 38, 3) := by decide +kernel
theorem dX11_firstToLeave_63 : decode cX11_firstToLeave 63 = .ok (.iload_n 1, 1) := by decide +kernel
theorem dX11_firstToLeave_64 : decode cX11_firstToLeave 64 = .ok (.iconst 2, 1) := by decide +kernel
theorem dX11_firstToLeave_65 : decode cX11_firstToLeave 65 = .ok (.aload_n 0, 1) := by decide +kernel
theorem dX11_firstToLeave_66 : decode cX11_firstToLeave 66 = .ok (.getfield 10, 3) := by decide +kernel
theorem dX11_firstToLeave_69 : decode cX11_firstToLeave 69 = .ok (.getfield 137, 3) := by decide +kernel
theorem dX11_firstToLeave_72 : decode cX11_firstToLeave 72 = .ok (.invokevirtual 326, 3) := by decide +kernel
theorem dX11_firstToLeave_75 : decode cX11_firstToLeave 75 = .ok (.ifCond .eq 5, 3) := by decide +kernel
theorem dX11_firstToLeave_78 : decode cX11_firstToLeave 78 = .ok (.iload_n 1, 1) := by decide +kernel
theorem dX11_firstToLeave_79 : decode cX11_firstToLeave 79 = .ok (.ireturn, 1) := by decide +kernel
theorem dX11_firstToLeave_80 : decode cX11_firstToLeave 80 = .ok (.iinc 1 1, 3) := by decide +kernel
theorem dX11_firstToLeave_83 : decode cX11_firstToLeave 83 = .ok (.goto (-81), 3) := by decide +kernel
theorem dX11_firstToLeave_86 : decode cX11_firstToLeave 86 = .ok (.ldc 136, 2) := by decide +kernel
theorem dX11_firstToLeave_88 : decode cX11_firstToLeave 88 = .ok (.ireturn, 1) := by decide +kernel
theorem dX11_seek_0 : decode cX11_seek 0 = .ok (.aload_n 0, 1) := by decide +kernel
theorem dX11_seek_1 : decode cX11_seek 1 = .ok (.getfield 38, 3) := by decide +kernel
theorem dX11_seek_4 : decode cX11_seek 4 = .ok (.aload_n 0, 1) := by decide +kernel
theorem dX11_seek_5 : decode cX11_seek 5 = .ok (.getfield 10, 3) := by decide +kernel
theorem dX11_seek_8 : decode cX11_seek 8 = .ok (.getfield 137, 3) := by decide +kernel
theorem dX11_seek_11 : decode cX11_seek 11 = .ok (.invokevirtual 140, 3) := by decide +kernel
theorem dX11_seek_14 : decode cX11_seek 14 = .ok (.aload_n 0, 1) := by decide +kernel
theorem dX11_seek_15 : decode cX11_seek 15 = .ok (.getfield 52, 3) := by decide +kernel
theorem dX11_seek_18 : decode cX11_seek 18 = .ok (.aload_n 0, 1) := by decide +kernel
theorem dX11_seek_19 : decode cX11_seek 19 = .ok (.getfield 38, 3) := by decide +kernel
theorem dX11_seek_22 : decode cX11_seek 22 = .ok (.iload_n 1, 1) := by decide +kernel
theorem dX11_seek_23 : decode cX11_seek 23 = .ok (.invokevirtual 336, 3) := by decide +kernel
theorem dX11_seek_26 : decode cX11_seek 26 = .ok (.ireturn, 1) := by decide +kernel
theorem dX12_within_0 : decode cX12_within 0 = .ok (.iload_n 0, 1) := by decide +kernel
theorem dX12_within_1 : decode cX12_within 1 = .ok (.iload_n 1, 1) := by decide +kernel
theorem dX12_within_2 : decode cX12_within 2 = .ok (.if_icmp .lt 12, 3) := by decide +kernel
theorem dX12_within_5 : decode cX12_within 5 = .ok (.iload_n 0, 1) := by decide +kernel
theorem dX12_within_6 : decode cX12_within 6 = .ok (.iload_n 2, 1) := by decide +kernel
theorem dX12_within_7 : decode cX12_within 7 = .ok (.if_icmp .gt 7, 3) := by decide +kernel
theorem dX12_within_10 : decode cX12_within 10 = .ok (.iconst 1, 1) := by decide +kernel
theorem dX12_within_11 : decode cX12_within 11 = .ok (.goto 4, 3) := by decide +kernel
theorem dX12_within_14 : decode cX12_within 14 = .ok (.iconst 0, 1) := by decide +kernel
theorem dX12_within_15 : decode cX12_within 15 = .ok (.ireturn, 1) := by decide +kernel
theorem dX12_isPlace_0 : decode cX12_isPlace 0 = .ok (.iload_n 0, 1) := by decide +kernel
theorem dX12_isPlace_1 : decode cX12_isPlace 1 = .ok (.iconst 0, 1) := by decide +kernel
theorem dX12_isPlace_2 : decode cX12_isPlace 2 = .ok (.bipush 11, 2) := by decide +kernel
theorem dX12_isPlace_4 : decode cX12_isPlace 4 = .ok (.invokestatic 49, 3) := by decide +kernel
theorem dX12_isPlace_7 : decode cX12_isPlace 7 = .ok (.ireturn, 1) := by decide +kernel
theorem dX12_isShop_0 : decode cX12_isShop 0 = .ok (.iload_n 1, 1) := by decide +kernel
theorem dX12_isShop_1 : decode cX12_isShop 1 = .ok (.iconst 0, 1) := by decide +kernel
theorem dX12_isShop_2 : decode cX12_isShop 2 = .ok (.aload_n 0, 1) := by decide +kernel
theorem dX12_isShop_3 : decode cX12_isShop 3 = .ok (.getfield 9, 3) := by decide +kernel
theorem dX12_isShop_6 : decode cX12_isShop 6 = .ok (.iconst 2, 1) := by decide +kernel
theorem dX12_isShop_7 : decode cX12_isShop 7 = .ok (.iaload, 1) := by decide +kernel
theorem dX12_isShop_8 : decode cX12_isShop 8 = .ok (.iconst 1, 1) := by decide +kernel
theorem dX12_isShop_9 : decode cX12_isShop 9 = .ok (.isub, 1) := by decide +kernel
theorem dX12_isShop_10 : decode cX12_isShop 10 = .ok (.invokestatic 49, 3) := by decide +kernel
theorem dX12_isShop_13 : decode cX12_isShop 13 = .ok (.ireturn, 1) := by decide +kernel
theorem dX12_isPast_0 : decode cX12_isPast 0 = .ok (.iload_n 1, 1) := by decide +kernel
theorem dX12_isPast_1 : decode cX12_isPast 1 = .ok (.iconst 0, 1) := by decide +kernel
theorem dX12_isPast_2 : decode cX12_isPast 2 = .ok (.aload_n 0, 1) := by decide +kernel
theorem dX12_isPast_3 : decode cX12_isPast 3 = .ok (.getfield 9, 3) := by decide +kernel
theorem dX12_isPast_6 : decode cX12_isPast 6 = .ok (.iconst 0, 1) := by decide +kernel
theorem dX12_isPast_7 : decode cX12_isPast 7 = .ok (.iaload, 1) := by decide +kernel
theorem dX12_isPast_8 : decode cX12_isPast 8 = .ok (.invokestatic 49, 3) := by decide +kernel
theorem dX12_isPast_11 : decode cX12_isPast 11 = .ok (.ireturn, 1) := by decide +kernel
theorem dX12_of_0 : decode cX12_of 0 = .ok (.bipush 30, 2) := by decide +kernel
theorem dX12_of_2 : decode cX12_of 2 = .ok (.bipush 8, 2) := by decide +kernel
theorem dX12_of_4 : decode cX12_of 4 = .ok (.iload_n 0, 1) := by decide +kernel
theorem dX12_of_5 : decode cX12_of 5 = .ok (.imul, 1) := by decide +kernel
theorem dX12_of_6 : decode cX12_of 6 = .ok (.iadd, 1) := by decide +kernel
theorem dX12_of_7 : decode cX12_of 7 = .ok (.iload_n 1, 1) := by decide +kernel
theorem dX12_of_8 : decode cX12_of 8 = .ok (.iadd, 1) := by decide +kernel
theorem dX12_of_9 : decode cX12_of 9 = .ok (.ireturn, 1) := by decide +kernel
theorem dX12_feet_0 : decode cX12_feet 0 = .ok (.iload_n 1, 1) := by decide +kernel
theorem dX12_feet_1 : decode cX12_feet 1 = .ok (.invokestatic 53, 3) := by decide +kernel
theorem dX12_feet_4 : decode cX12_feet 4 = .ok (.ifCond .eq 15, 3) := by decide +kernel
theorem dX12_feet_7 : decode cX12_feet 7 = .ok (.iload_n 2, 1) := by decide +kernel
theorem dX12_feet_8 : decode cX12_feet 8 = .ok (.bipush 10, 2) := by decide +kernel
theorem dX12_feet_10 : decode cX12_feet 10 = .ok (.sipush 999, 3) := by decide +kernel
theorem dX12_feet_13 : decode cX12_feet 13 = .ok (.invokestatic 49, 3) := by decide +kernel
theorem dX12_feet_16 : decode cX12_feet 16 = .ok (.ifCond .ne 6, 3) := by decide +kernel
theorem dX12_feet_19 : decode cX12_feet 19 = .ok (.ldc 57, 2) := by decide +kernel
theorem dX12_feet_21 : decode cX12_feet 21 = .ok (.ireturn, 1) := by decide +kernel
theorem dX12_feet_22 : decode cX12_feet 22 = .ok (.aload_n 0, 1) := by decide +kernel
theorem dX12_feet_23 : decode cX12_feet 23 = .ok (.getfield 9, 3) := by decide +kernel
theorem dX12_feet_26 : decode cX12_feet 26 = .ok (.bipush 10, 2) := by decide +kernel
theorem dX12_feet_28 : decode cX12_feet 28 = .ok (.iload_n 1, 1) := by decide +kernel
theorem dX12_feet_29 : decode cX12_feet 29 = .ok (.iadd, 1) := by decide +kernel
theorem dX12_feet_30 : decode cX12_feet 30 = .ok (.iaload, 1) := by decide +kernel
theorem dX12_feet_31 : decode cX12_feet 31 = .ok (.istore_n 3, 1) := by decide +kernel
theorem dX12_feet_32 : decode cX12_feet 32 = .ok (.aload_n 0, 1) := by decide +kernel
theorem dX12_feet_33 : decode cX12_feet 33 = .ok (.getfield 9, 3) := by decide +kernel
theorem dX12_feet_36 : decode cX12_feet 36 = .ok (.bipush 10, 2) := by decide +kernel
theorem dX12_feet_38 : decode cX12_feet 38 = .ok (.iload_n 1, 1) := by decide +kernel
theorem dX12_feet_39 : decode cX12_feet 39 = .ok (.iadd, 1) := by decide +kernel
theorem dX12_feet_40 : decode cX12_feet 40 = .ok (.iload_n 2, 1) := by decide +kernel
theorem dX12_feet_41 : decode cX12_feet 41 = .ok (.iastore, 1) := by decide +kernel
theorem dX12_feet_42 : decode cX12_feet 42 = .ok (.iload_n 3, 1) := by decide +kernel
theorem dX12_feet_43 : decode cX12_feet 43 = .ok (.ireturn, 1) := by decide +kernel
theorem dX12_lay_0 : decode cX12_lay 0 = .ok (.iload_n 1, 1) := by decide +kernel
theorem dX12_lay_1 : decode cX12_lay 1 = .ok (.iconst 0, 1) := by decide +kernel
theorem dX12_lay_2 : decode cX12_lay 2 = .ok (.iconst 1, 1) := by decide +kernel
theorem dX12_lay_3 : decode cX12_lay 3 = .ok (.invokestatic 49, 3) := by decide +kernel
theorem dX12_lay_6 : decode cX12_lay 6 = .ok (.ifCond .ne 6, 3) := by decide +kernel
theorem dX12_lay_9 : decode cX12_lay 9 = .ok (.ldc 57, 2) := by decide +kernel
theorem dX12_lay_11 : decode cX12_lay 11 = .ok (.ireturn, 1) := by decide +kernel
theorem dX12_lay_12 : decode cX12_lay 12 = .ok (.aload_n 0, 1) := by decide +kernel
theorem dX12_lay_13 : decode cX12_lay 13 = .ok (.getfield 22, 3) := by decide +kernel
theorem dX12_lay_16 : decode cX12_lay 16 = .ok (.iload_n 1, 1) := by decide +kernel
theorem dX12_lay_17 : decode cX12_lay 17 = .ok (.iaload, 1) := by decide +kernel
theorem dX12_lay_18 : decode cX12_lay 18 = .ok (.ifCond .ge 6, 3) := by decide +kernel
theorem dX12_lay_21 : decode cX12_lay 21 = .ok (.ldc 58, 2) := by decide +kernel
theorem dX12_lay_23 : decode cX12_lay 23 = .ok (.ireturn, 1) := by decide +kernel
theorem dX12_lay_24 : decode cX12_lay 24 = .ok (.iconst 0, 1) := by decide +kernel
theorem dX12_lay_25 : decode cX12_lay 25 = .ok (.istore_n 2, 1) := by decide +kernel
theorem dX12_lay_26 : decode cX12_lay 26 = .ok (.iconst 0, 1) := by decide +kernel
theorem dX12_lay_27 : decode cX12_lay 27 = .ok (.istore_n 3, 1) := by decide +kernel
theorem dX12_lay_28 : decode cX12_lay 28 = .ok (.iload_n 3, 1) := by decide +kernel
theorem dX12_lay_29 : decode cX12_lay 29 = .ok (.bipush 12, 2) := by decide +kernel
theorem dX12_lay_31 : decode cX12_lay 31 = .ok (.if_icmp .ge 59, 3) := by decide +kernel
theorem dX12_lay_34 : decode cX12_lay 34 = .ok (.iload_n 3, 1) := by decide +kernel
theorem dX12_lay_35 : decode cX12_lay 35 = .ok (.aload_n 0, 1) := by decide +kernel
theorem dX12_lay_36 : decode cX12_lay 36 = .ok (.getfield 22, 3) := by decide +kernel
theorem dX12_lay_39 : decode cX12_lay 39 = .ok (.iload_n 1, 1) := by decide +kernel
theorem dX12_lay_40 : decode cX12_lay 40 = .ok (.iaload, 1) := by decide +kernel
theorem dX12_lay_41 : decode cX12_lay 41 = .ok (.if_icmp .ge 49, 3) := by decide +kernel
theorem dX12_lay_44 : decode cX12_lay 44 = .ok (.aload_n 0, 1) := by decide +kernel
theorem dX12_lay_45 : decode cX12_lay 45 = .ok (.getfield 25, 3) := by decide +kernel
theorem dX12_lay_48 : decode cX12_lay 48 = .ok (.bipush 16, 2) := by decide +kernel
theorem dX12_lay_50 : decode cX12_lay 50 = .ok (.iload_n 1, 1) := by decide +kernel
theorem dX12_lay_51 : decode cX12_lay 51 = .ok (.imul, 1) := by decide +kernel
theorem dX12_lay_52 : decode cX12_lay 52 = .ok (.iload_n 3, 1) := by decide +kernel
theorem dX12_lay_53 : decode cX12_lay 53 = .ok (.iadd, 1) := by decide +kernel
theorem dX12_lay_54 : decode cX12_lay 54 = .ok (.iaload, 1) := by decide +kernel
theorem dX12_lay_55 : decode cX12_lay 55 = .ok (.istore 4, 2) := by decide +kernel
theorem dX12_lay_57 : decode cX12_lay 57 = .ok (.iload 4, 2) := by decide +kernel
theorem dX12_lay_59 : decode cX12_lay 59 = .ok (.bipush 10, 2) := by decide +kernel
theorem dX12_lay_61 : decode cX12_lay 61 = .ok (.sipush 999, 3) := by decide +kernel
theorem dX12_lay_64 : decode cX12_lay 64 = .ok (.invokestatic 49, 3) := by decide +kernel
theorem dX12_lay_67 : decode cX12_lay 67 = .ok (.ifCond .eq 17, 3) := by decide +kernel
theorem dX12_lay_70 : decode cX12_lay 70 = .ok (.aload_n 0, 1) := by decide +kernel
theorem dX12_lay_71 : decode cX12_lay 71 = .ok (.getfield 9, 3) := by decide +kernel
theorem dX12_lay_74 : decode cX12_lay 74 = .ok (.bipush 10, 2) := by decide +kernel
theorem dX12_lay_76 : decode cX12_lay 76 = .ok (.iload_n 3, 1) := by decide +kernel
theorem dX12_lay_77 : decode cX12_lay 77 = .ok (.iadd, 1) := by decide +kernel
theorem dX12_lay_78 : decode cX12_lay 78 = .ok (.iload 4, 2) := by decide +kernel
theorem dX12_lay_80 : decode cX12_lay 80 = .ok (.iastore, 1) := by decide +kernel
theorem dX12_lay_81 : decode cX12_lay 81 = .ok (.iinc 2 1, 3) := by decide +kernel
theorem dX12_lay_84 : decode cX12_lay 84 = .ok (.iinc 3 1, 3) := by decide +kernel
theorem dX12_lay_87 : decode cX12_lay 87 = .ok (.goto (-59), 3) := by decide +kernel
theorem dX12_lay_90 : decode cX12_lay 90 = .ok (.iload_n 2, 1) := by decide +kernel
theorem dX12_lay_91 : decode cX12_lay 91 = .ok (.ireturn, 1) := by decide +kernel
theorem dX12_door_0 : decode cX12_door 0 = .ok (.iload_n 1, 1) := by decide +kernel
theorem dX12_door_1 : decode cX12_door 1 = .ok (.invokestatic 53, 3) := by decide +kernel
theorem dX12_door_4 : decode cX12_door 4 = .ok (.ifCond .eq 14, 3) := by decide +kernel
theorem dX12_door_7 : decode cX12_door 7 = .ok (.iload_n 2, 1) := by decide +kernel
theorem dX12_door_8 : decode cX12_door 8 = .ok (.iconst 0, 1) := by decide +kernel
theorem dX12_door_9 : decode cX12_door 9 = .ok (.sipush 9999, 3) := by decide +kernel
theorem dX12_door_12 : decode cX12_door 12 = .ok (.invokestatic 49, 3) := by decide +kernel
theorem dX12_door_15 : decode cX12_door 15 = .ok (.ifCond .ne 6, 3) := by decide +kernel
theorem dX12_door_18 : decode cX12_door 18 = .ok (.ldc 57, 2) := by decide +kernel
theorem dX12_door_20 : decode cX12_door 20 = .ok (.ireturn, 1) := by decide +kernel
theorem dX12_door_21 : decode cX12_door 21 = .ok (.aload_n 0, 1) := by decide +kernel
theorem dX12_door_22 : decode cX12_door 22 = .ok (.getfield 9, 3) := by decide +kernel
theorem dX12_door_25 : decode cX12_door 25 = .ok (.iconst 1, 1) := by decide +kernel
theorem dX12_door_26 : decode cX12_door 26 = .ok (.iaload, 1) := by decide +kernel
theorem dX12_door_27 : decode cX12_door 27 = .ok (.istore_n 3, 1) := by decide +kernel
theorem dX12_door_28 : decode cX12_door 28 = .ok (.iload_n 3, 1) := by decide +kernel
theorem dX12_door_29 : decode cX12_door 29 = .ok (.iconst 4, 1) := by decide +kernel
theorem dX12_door_30 : decode cX12_door 30 = .ok (.if_icmp .ne 6, 3) := by decide +kernel
theorem dX12_door_33 : decode cX12_door 33 = .ok (.ldc 59, 2) := by decide +kernel
theorem dX12_door_35 : decode cX12_door 35 = .ok (.ireturn, 1) := by decide +kernel
theorem dX12_door_36 : decode cX12_door 36 = .ok (.aload_n 0, 1) := by decide +kernel
theorem dX12_door_37 : decode cX12_door 37 = .ok (.getfield 9, 3) := by decide +kernel
theorem dX12_door_40 : decode cX12_door 40 = .ok (.bipush 22, 2) := by decide +kernel
theorem dX12_door_42 : decode cX12_door 42 = .ok (.iconst 2, 1) := by decide +kernel
theorem dX12_door_43 : decode cX12_door 43 = .ok (.iload_n 3, 1) := by decide +kernel
theorem dX12_door_44 : decode cX12_door 44 = .ok (.imul, 1) := by decide +kernel
theorem dX12_door_45 : decode cX12_door 45 = .ok (.iadd, 1) := by decide +kernel
theorem dX12_door_46 : decode cX12_door 46 = .ok (.iload_n 1, 1) := by decide +kernel
theorem dX12_door_47 : decode cX12_door 47 = .ok (.iastore, 1) := by decide +kernel
theorem dX12_door_48 : decode cX12_door 48 = .ok (.aload_n 0, 1) := by decide +kernel
theorem dX12_door_49 : decode cX12_door 49 = .ok (.getfield 9, 3) := by decide +kernel
theorem dX12_door_52 : decode cX12_door 52 = .ok (.bipush 22, 2) := by decide +kernel
theorem dX12_door_54 : decode cX12_door 54 = .ok (.iconst 2, 1) := by decide +kernel
theorem dX12_door_55 : decode cX12_door 55 = .ok (.iload_n 3, 1) := by decide +kernel
theorem dX12_door_56 : decode cX12_door 56 = .ok (.imul, 1) := by decide +kernel
theorem dX12_door_57 : decode cX12_door 57 = .ok (.iadd, 1) := by decide +kernel
theorem dX12_door_58 : decode cX12_door 58 = .ok (.iconst 1, 1) := by decide +kernel
theorem dX12_door_59 : decode cX12_door 59 = .ok (.iadd, 1) := by decide +kernel
theorem dX12_door_60 : decode cX12_door 60 = .ok (.iload_n 2, 1) := by decide +kernel
theorem dX12_door_61 : decode cX12_door 61 = .ok (.iastore, 1) := by decide +kernel
theorem dX12_door_62 : decode cX12_door 62 = .ok (.aload_n 0, 1) := by decide +kernel
theorem dX12_door_63 : decode cX12_door 63 = .ok (.getfield 9, 3) := by decide +kernel
theorem dX12_door_66 : decode cX12_door 66 = .ok (.iconst 1, 1) := by decide +kernel
theorem dX12_door_67 : decode cX12_door 67 = .ok (.dup2, 1) := by decide +kernel
theorem dX12_door_68 : decode cX12_door 68 = .ok (.iaload, 1) := by decide +kernel
theorem dX12_door_69 : decode cX12_door 69 = .ok (.iconst 1, 1) := by decide +kernel
theorem dX12_door_70 : decode cX12_door 70 = .ok (.iadd, 1) := by decide +kernel
theorem dX12_door_71 : decode cX12_door 71 = .ok (.iastore, 1) := by decide +kernel
theorem dX12_door_72 : decode cX12_door 72 = .ok (.iload_n 3, 1) := by decide +kernel
theorem dX12_door_73 : decode cX12_door 73 = .ok (.ireturn, 1) := by decide +kernel
theorem dX12_people_0 : decode cX12_people 0 = .ok (.iload_n 1, 1) := by decide +kernel
theorem dX12_people_1 : decode cX12_people 1 = .ok (.iconst 0, 1) := by decide +kernel
theorem dX12_people_2 : decode cX12_people 2 = .ok (.aload_n 0, 1) := by decide +kernel
theorem dX12_people_3 : decode cX12_people 3 = .ok (.getfield 9, 3) := by decide +kernel
theorem dX12_people_6 : decode cX12_people 6 = .ok (.iconst 1, 1) := by decide +kernel
theorem dX12_people_7 : decode cX12_people 7 = .ok (.iaload, 1) := by decide +kernel
theorem dX12_people_8 : decode cX12_people 8 = .ok (.iconst 1, 1) := by decide +kernel
theorem dX12_people_9 : decode cX12_people 9 = .ok (.isub, 1) := by decide +kernel
theorem dX12_people_10 : decode cX12_people 10 = .ok (.invokestatic 49, 3) := by decide +kernel
theorem dX12_people_13 : decode cX12_people 13 = .ok (.ifCond .eq 14, 3) := by decide +kernel
theorem dX12_people_16 : decode cX12_people 16 = .ok (.iload_n 2, 1) := by decide +kernel
theorem dX12_people_17 : decode cX12_people 17 = .ok (.iconst 0, 1) := by decide +kernel
theorem dX12_people_18 : decode cX12_people 18 = .ok (.sipush 9999, 3) := by decide +kernel
theorem dX12_people_21 : decode cX12_people 21 = .ok (.invokestatic 49, 3) := by decide +kernel
theorem dX12_people_24 : decode cX12_people 24 = .ok (.ifCond .ne 6, 3) := by decide +kernel
theorem dX12_people_27 : decode cX12_people 27 = .ok (.ldc 57, 2) := by decide +kernel
theorem dX12_people_29 : decode cX12_people 29 = .ok (.ireturn, 1) := by decide +kernel
theorem dX12_people_30 : decode cX12_people 30 = .ok (.aload_n 0, 1) := by decide +kernel
theorem dX12_people_31 : decode cX12_people 31 = .ok (.getfield 9, 3) := by decide +kernel
theorem dX12_people_34 : decode cX12_people 34 = .ok (.bipush 22, 2) := by decide +kernel
theorem dX12_people_36 : decode cX12_people 36 = .ok (.iconst 2, 1) := by decide +kernel
theorem dX12_people_37 : decode cX12_people 37 = .ok (.iload_n 1, 1) := by decide +kernel
theorem dX12_people_38 : decode cX12_people 38 = .ok (.imul, 1) := by decide +kernel
theorem dX12_people_39 : decode cX12_people 39 = .ok (.iadd, 1) := by decide +kernel
theorem dX12_people_40 : decode cX12_people 40 = .ok (.iconst 1, 1) := by decide +kernel
theorem dX12_people_41 : decode cX12_people 41 = .ok (.iadd, 1) := by decide +kernel
theorem dX12_people_42 : decode cX12_people 42 = .ok (.iaload, 1) := by decide +kernel
theorem dX12_people_43 : decode cX12_people 43 = .ok (.istore_n 3, 1) := by decide +kernel
theorem dX12_people_44 : decode cX12_people 44 = .ok (.aload_n 0, 1) := by decide +kernel
theorem dX12_people_45 : decode cX12_people 45 = .ok (.getfield 9, 3) := by decide +kernel
theorem dX12_people_48 : decode cX12_people 48 = .ok (.bipush 22, 2) := by decide +kernel
theorem dX12_people_50 : decode cX12_people 50 = .ok (.iconst 2, 1) := by decide +kernel
theorem dX12_people_51 : decode cX12_people 51 = .ok (.iload_n 1, 1) := by decide +kernel
theorem dX12_people_52 : decode cX12_people 52 = .ok (.imul, 1) := by decide +kernel
theorem dX12_people_53 : decode cX12_people 53 = .ok (.iadd, 1) := by decide +kernel
theorem dX12_people_54 : decode cX12_people 54 = .ok (.iconst 1, 1) := by decide +kernel
theorem dX12_people_55 : decode cX12_people 55 = .ok (.iadd, 1) := by decide +kernel
theorem dX12_people_56 : decode cX12_people 56 = .ok (.iload_n 2, 1) := by decide +kernel
theorem dX12_people_57 : decode cX12_people 57 = .ok (.iastore, 1) := by decide +kernel
theorem dX12_people_58 : decode cX12_people 58 = .ok (.iload_n 3, 1) := by decide +kernel
theorem dX12_people_59 : decode cX12_people 59 = .ok (.ireturn, 1) := by decide +kernel
theorem dX12_shop_0 : decode cX12_shop 0 = .ok (.iload_n 1, 1) := by decide +kernel
theorem dX12_shop_1 : decode cX12_shop 1 = .ok (.iconst 0, 1) := by decide +kernel
theorem dX12_shop_2 : decode cX12_shop 2 = .ok (.iconst 3, 1) := by decide +kernel
theorem dX12_shop_3 : decode cX12_shop 3 = .ok (.invokestatic 49, 3) := by decide +kernel
theorem dX12_shop_6 : decode cX12_shop 6 = .ok (.ifCond .eq 58, 3) := by decide +kernel
theorem dX12_shop_9 : decode cX12_shop 9 = .ok (.iload_n 2, 1) := by decide +kernel
theorem dX12_shop_10 : decode cX12_shop 10 = .ok (.iconst 0, 1) := by decide +kernel
theorem dX12_shop_11 : decode cX12_shop 11 = .ok (.bipush 7, 2) := by decide +kernel
theorem dX12_shop_13 : decode cX12_shop 13 = .ok (.invokestatic 49, 3) := by decide +kernel
theorem dX12_shop_16 : decode cX12_shop 16 = .ok (.ifCond .eq 48, 3) := by decide +kernel
theorem dX12_shop_19 : decode cX12_shop 19 = .ok (.iload_n 3, 1) := by decide +kernel
theorem dX12_shop_20 : decode cX12_shop 20 = .ok (.iconst 0, 1) := by decide +kernel
theorem dX12_shop_21 : decode cX12_shop 21 = .ok (.ldc 60, 2) := by decide +kernel
theorem dX12_shop_23 : decode cX12_shop 23 = .ok (.invokestatic 49, 3) := by decide +kernel
theorem dX12_shop_26 : decode cX12_shop 26 = .ok (.ifCond .eq 38, 3) := by decide +kernel
theorem dX12_shop_29 : decode cX12_shop 29 = .ok (.iload 4, 2) := by decide +kernel
theorem dX12_shop_31 : decode cX12_shop 31 = .ok (.ifCond .lt 33, 3) := by decide +kernel
theorem dX12_shop_34 : decode cX12_shop 34 = .ok (.iload 4, 2) := by decide +kernel
theorem dX12_shop_36 : decode cX12_shop 36 = .ok (.bipush 100, 2) := by decide +kernel
theorem dX12_shop_38 : decode cX12_shop 38 = .ok (.idiv, 1) := by decide +kernel
theorem dX12_shop_39 : decode cX12_shop 39 = .ok (.bipush 11, 2) := by decide +kernel
theorem dX12_shop_41 : decode cX12_shop 41 = .ok (.if_icmp .gt 23, 3) := by decide +kernel
theorem dX12_shop_44 : decode cX12_shop 44 = .ok (.iload 4, 2) := by decide +kernel
theorem dX12_shop_46 : decode cX12_shop 46 = .ok (.bipush 100, 2) := by decide +kernel
theorem dX12_shop_48 : decode cX12_shop 48 = .ok (.irem, 1) := by decide +kernel
theorem dX12_shop_49 : decode cX12_shop 49 = .ok (.ifCond .eq 15, 3) := by decide +kernel
theorem dX12_shop_52 : decode cX12_shop 52 = .ok (.iload 5, 2) := by decide +kernel
theorem dX12_shop_54 : decode cX12_shop 54 = .ok (.iconst 1, 1) := by decide +kernel
theorem dX12_shop_55 : decode cX12_shop 55 = .ok (.sipush 999, 3) := by decide +kernel
theorem dX12_shop_58 : decode cX12_shop 58 = .ok (.invokestatic 49, 3) := by decide +kernel
theorem dX12_shop_61 : decode cX12_shop 61 = .ok (.ifCond .ne 6, 3) := by decide +kernel
theorem dX12_shop_64 : decode cX12_shop 64 = .ok (.ldc 57, 2) := by decide +kernel
theorem dX12_shop_66 : decode cX12_shop 66 = .ok (.ireturn, 1) := by decide +kernel
theorem dX12_shop_67 : decode cX12_shop 67 = .ok (.aload_n 0, 1) := by decide +kernel
theorem dX12_shop_68 : decode cX12_shop 68 = .ok (.getfield 9, 3) := by decide +kernel
theorem dX12_shop_71 : decode cX12_shop 71 = .ok (.iconst 2, 1) := by decide +kernel
theorem dX12_shop_72 : decode cX12_shop 72 = .ok (.iaload, 1) := by decide +kernel
theorem dX12_shop_73 : decode cX12_shop 73 = .ok (.istore 6, 2) := by decide +kernel
theorem dX12_shop_75 : decode cX12_shop 75 = .ok (.iload 6, 2) := by decide +kernel
theorem dX12_shop_77 : decode cX12_shop 77 = .ok (.bipush 12, 2) := by decide +kernel
theorem dX12_shop_79 : decode cX12_shop 79 = .ok (.if_icmp .ne 6, 3) := by decide +kernel
theorem dX12_shop_82 : decode cX12_shop 82 = .ok (.ldc 59, 2) := by decide +kernel
theorem dX12_shop_84 : decode cX12_shop 84 = .ok (.ireturn, 1) := by decide +kernel
theorem dX12_shop_85 : decode cX12_shop 85 = .ok (.aload_n 0, 1) := by decide +kernel
theorem dX12_shop_86 : decode cX12_shop 86 = .ok (.getfield 9, 3) := by decide +kernel
theorem dX12_shop_89 : decode cX12_shop 89 = .ok (.iload 6, 2) := by decide +kernel
theorem dX12_shop_91 : decode cX12_shop 91 = .ok (.iconst 0, 1) := by decide +kernel
theorem dX12_shop_92 : decode cX12_shop 92 = .ok (.invokestatic 61, 3) := by decide +kernel
theorem dX12_shop_95 : decode cX12_shop 95 = .ok (.iload_n 1, 1) := by decide +kernel
theorem dX12_shop_96 : decode cX12_shop 96 = .ok (.iastore, 1) := by decide +kernel
theorem dX12_shop_97 : decode cX12_shop 97 = .ok (.aload_n 0, 1) := by decide +kernel
theorem dX12_shop_98 : decode cX12_shop 98 = .ok (.getfield 9, 3) := by decide +kernel
theorem dX12_shop_101 : decode cX12_shop 101 = .ok (.iload 6, 2) := by decide +kernel
theorem dX12_shop_103 : decode cX12_shop 103 = .ok (.iconst 1, 1) := by decide +kernel
theorem dX12_shop_104 : decode cX12_shop 104 = .ok (.invokestatic 61, 3) := by decide +kernel
theorem dX12_shop_107 : decode cX12_shop 107 = .ok (.iload_n 2, 1) := by decide +kernel
theorem dX12_shop_108 : decode cX12_shop 108 = .ok (.iastore, 1) := by decide +kernel
theorem dX12_shop_109 : decode cX12_shop 109 = .ok (.aload_n 0, 1) := by decide +kernel
theorem dX12_shop_110 : decode cX12_shop 110 = .ok (.getfield 9, 3) := by decide +kernel
theorem dX12_shop_113 : decode cX12_shop 113 = .ok (.iload 6, 2) := by decide +kernel
theorem dX12_shop_115 : decode cX12_shop 115 = .ok (.iconst 2, 1) := by decide +kernel
theorem dX12_shop_116 : decode cX12_shop 116 = .ok (.invokestatic 61, 3) := by decide +kernel
theorem dX12_shop_119 : decode cX12_shop 119 = .ok (.iload_n 3, 1) := by decide +kernel
theorem dX12_shop_120 : decode cX12_shop 120 = .ok (.sipush 1000, 3) := by decide +kernel
theorem dX12_shop_123 : decode cX12_shop 123 = .ok (.idiv, 1) := by decide +kernel
theorem dX12_shop_124 : decode cX12_shop 124 = .ok (.iastore, 1) := by decide +kernel
theorem dX12_shop_125 : decode cX12_shop 125 = .ok (.aload_n 0, 1) := by decide +kernel
theorem dX12_shop_126 : decode cX12_shop 126 = .ok (.getfield 9, 3) := by decide +kernel
theorem dX12_shop_129 : decode cX12_shop 129 = .ok (.iload 6, 2) := by decide +kernel
theorem dX12_shop_131 : decode cX12_shop 131 = .ok (.iconst 4, 1) := by decide +kernel
theorem dX12_shop_132 : decode cX12_shop 132 = .ok (.invokestatic 61, 3) := by decide +kernel
theorem dX12_shop_135 : decode cX12_shop 135 = .ok (.iload_n 3, 1) := by decide +kernel
theorem dX12_shop_136 : decode cX12_shop 136 = .ok (.sipush 1000, 3) := by decide +kernel
theorem dX12_shop_139 : decode cX12_shop 139 = .ok (.irem, 1) := by decide +kernel
theorem dX12_shop_140 : decode cX12_shop 140 = .ok (.iastore, 1) := by decide +kernel
theorem dX12_shop_141 : decode cX12_shop 141 = .ok (.aload_n 0, 1) := by decide +kernel
theorem dX12_shop_142 : decode cX12_shop 142 = .ok (.getfield 9, 3) := by decide +kernel
theorem dX12_shop_145 : decode cX12_shop 145 = .ok (.iload 6, 2) := by decide +kernel
theorem dX12_shop_147 : decode cX12_shop 147 = .ok (.iconst 5, 1) := by decide +kernel
theorem dX12_shop_148 : decode cX12_shop 148 = .ok (.invokestatic 61, 3) := by decide +kernel
theorem dX12_shop_151 : decode cX12_shop 151 = .ok (.iload 4, 2) := by decide +kernel
theorem dX12_shop_153 : decode cX12_shop 153 = .ok (.bipush 100, 2) := by decide +kernel
theorem dX12_shop_155 : decode cX12_shop 155 = .ok (.idiv, 1) := by decide +kernel
theorem dX12_shop_156 : decode cX12_shop 156 = .ok (.iastore, 1) := by decide +kernel
theorem dX12_shop_157 : decode cX12_shop 157 = .ok (.aload_n 0, 1) := by decide +kernel
theorem dX12_shop_158 : decode cX12_shop 158 = .ok (.getfield 9, 3) := by decide +kernel
theorem dX12_shop_161 : decode cX12_shop 161 = .ok (.iload 6, 2) := by decide +kernel
