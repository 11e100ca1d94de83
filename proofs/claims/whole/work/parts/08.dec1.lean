theorem dX0_become_0 : decode cX0_become 0 = .ok (.aload_n 1, 1) := by decide +kernel
theorem dX0_become_1 : decode cX0_become 1 = .ok (.getfield 9, 3) := by decide +kernel
theorem dX0_become_4 : decode cX0_become 4 = .ok (.iconst 0, 1) := by decide +kernel
theorem dX0_become_5 : decode cX0_become 5 = .ok (.aload_n 0, 1) := by decide +kernel
theorem dX0_become_6 : decode cX0_become 6 = .ok (.getfield 9, 3) := by decide +kernel
theorem dX0_become_9 : decode cX0_become 9 = .ok (.iconst 0, 1) := by decide +kernel
theorem dX0_become_10 : decode cX0_become 10 = .ok (.bipush 12, 2) := by decide +kernel
theorem dX0_become_12 : decode cX0_become 12 = .ok (.invokestatic 62, 3) := by decide +kernel
theorem dX0_become_15 : decode cX0_become 15 = .ok (.aload_n 1, 1) := by decide +kernel
theorem dX0_become_16 : decode cX0_become 16 = .ok (.getfield 15, 3) := by decide +kernel
theorem dX0_become_19 : decode cX0_become 19 = .ok (.iconst 0, 1) := by decide +kernel
theorem dX0_become_20 : decode cX0_become 20 = .ok (.aload_n 0, 1) := by decide +kernel
theorem dX0_become_21 : decode cX0_become 21 = .ok (.getfield 15, 3) := by decide +kernel
theorem dX0_become_24 : decode cX0_become 24 = .ok (.iconst 0, 1) := by decide +kernel
theorem dX0_become_25 : decode cX0_become 25 = .ok (.iconst 2, 1) := by decide +kernel
theorem dX0_become_26 : decode cX0_become 26 = .ok (.invokestatic 62, 3) := by decide +kernel
theorem dX0_become_29 : decode cX0_become 29 = .ok (.aload_n 0, 1) := by decide +kernel
theorem dX0_become_30 : decode cX0_become 30 = .ok (.getfield 21, 3) := by decide +kernel
theorem dX0_become_33 : decode cX0_become 33 = .ok (.aload_n 1, 1) := by decide +kernel
theorem dX0_become_34 : decode cX0_become 34 = .ok (.getfield 21, 3) := by decide +kernel
theorem dX0_become_37 : decode cX0_become 37 = .ok (.invokevirtual 68, 3) := by decide +kernel
theorem dX0_become_40 : decode cX0_become 40 = .ok (.aload_n 0, 1) := by decide +kernel
theorem dX0_become_41 : decode cX0_become 41 = .ok (.getfield 28, 3) := by decide +kernel
theorem dX0_become_44 : decode cX0_become 44 = .ok (.aload_n 1, 1) := by decide +kernel
theorem dX0_become_45 : decode cX0_become 45 = .ok (.getfield 28, 3) := by decide +kernel
theorem dX0_become_48 : decode cX0_become 48 = .ok (.invokevirtual 72, 3) := by decide +kernel
theorem dX0_become_51 : decode cX0_become 51 = .ok (.aload_n 0, 1) := by decide +kernel
theorem dX0_become_52 : decode cX0_become 52 = .ok (.getfield 35, 3) := by decide +kernel
theorem dX0_become_55 : decode cX0_become 55 = .ok (.aload_n 1, 1) := by decide +kernel
theorem dX0_become_56 : decode cX0_become 56 = .ok (.getfield 35, 3) := by decide +kernel
theorem dX0_become_59 : decode cX0_become 59 = .ok (.invokevirtual 75, 3) := by decide +kernel
theorem dX0_become_62 : decode cX0_become 62 = .ok (.aload_n 0, 1) := by decide +kernel
theorem dX0_become_63 : decode cX0_become 63 = .ok (.getfield 42, 3) := by decide +kernel
theorem dX0_become_66 : decode cX0_become 66 = .ok (.aload_n 1, 1) := by decide +kernel
theorem dX0_become_67 : decode cX0_become 67 = .ok (.getfield 42, 3) := by decide +kernel
theorem dX0_become_70 : decode cX0_become 70 = .ok (.invokevirtual 78, 3) := by decide +kernel
theorem dX0_become_73 : decode cX0_become 73 = .ok (.aload_n 0, 1) := by decide +kernel
theorem dX0_become_74 : decode cX0_become 74 = .ok (.getfield 49, 3) := by decide +kernel
theorem dX0_become_77 : decode cX0_become 77 = .ok (.aload_n 1, 1) := by decide +kernel
theorem dX0_become_78 : decode cX0_become 78 = .ok (.getfield 49, 3) := by decide +kernel
theorem dX0_become_81 : decode cX0_become 81 = .ok (.invokevirtual 81, 3) := by decide +kernel
theorem dX0_become_84 : decode cX0_become 84 = .ok (.aload_n 1, 1) := by decide +kernel
theorem dX0_become_85 : decode cX0_become 85 = .ok (.getfield 53, 3) := by decide +kernel
theorem dX0_become_88 : decode cX0_become 88 = .ok (.iconst 0, 1) := by decide +kernel
theorem dX0_become_89 : decode cX0_become 89 = .ok (.aload_n 0, 1) := by decide +kernel
theorem dX0_become_90 : decode cX0_become 90 = .ok (.getfield 53, 3) := by decide +kernel
theorem dX0_become_93 : decode cX0_become 93 = .ok (.iconst 0, 1) := by decide +kernel
theorem dX0_become_94 : decode cX0_become 94 = .ok (.bipush 12, 2) := by decide +kernel
theorem dX0_become_96 : decode cX0_become 96 = .ok (.invokestatic 62, 3) := by decide +kernel
theorem dX0_become_99 : decode cX0_become 99 = .ok (.aload_n 0, 1) := by decide +kernel
theorem dX0_become_100 : decode cX0_become 100 = .ok (.aload_n 1, 1) := by decide +kernel
theorem dX0_become_101 : decode cX0_become 101 = .ok (.getfield 84, 3) := by decide +kernel
theorem dX0_become_104 : decode cX0_become 104 = .ok (.putfield 84, 3) := by decide +kernel
theorem dX0_become_107 : decode cX0_become 107 = .ok (.aload_n 0, 1) := by decide +kernel
theorem dX0_become_108 : decode cX0_become 108 = .ok (.aload_n 1, 1) := by decide +kernel
theorem dX0_become_109 : decode cX0_become 109 = .ok (.getfield 88, 3) := by decide +kernel
theorem dX0_become_112 : decode cX0_become 112 = .ok (.putfield 88, 3) := by decide +kernel
theorem dX0_become_115 : decode cX0_become 115 = .ok (.return_, 1) := by decide +kernel
theorem dX1_work_0 : decode cX1_work 0 = .ok (.aload_n 1, 1) := by decide +kernel
theorem dX1_work_1 : decode cX1_work 1 = .ok (.getfield 15, 3) := by decide +kernel
theorem dX1_work_4 : decode cX1_work 4 = .ok (.getfield 21, 3) := by decide +kernel
theorem dX1_work_7 : decode cX1_work 7 = .ok (.astore 5, 2) := by decide +kernel
theorem dX1_work_9 : decode cX1_work 9 = .ok (.iload_n 3, 1) := by decide +kernel
theorem dX1_work_10 : decode cX1_work 10 = .ok (.ifCond .ne 7, 3) := by decide +kernel
theorem dX1_work_13 : decode cX1_work 13 = .ok (.iconst 0, 1) := by decide +kernel
theorem dX1_work_14 : decode cX1_work 14 = .ok (.goto 14, 3) := by decide +kernel
theorem dX1_work_17 : decode cX1_work 17 = .ok (.aload 5, 2) := by decide +kernel
theorem dX1_work_19 : decode cX1_work 19 = .ok (.getfield 27, 3) := by decide +kernel
theorem dX1_work_22 : decode cX1_work 22 = .ok (.iload_n 2, 1) := by decide +kernel
theorem dX1_work_23 : decode cX1_work 23 = .ok (.aaload, 1) := by decide +kernel
theorem dX1_work_24 : decode cX1_work 24 = .ok (.iload_n 3, 1) := by decide +kernel
theorem dX1_work_25 : decode cX1_work 25 = .ok (.iconst 1, 1) := by decide +kernel
theorem dX1_work_26 : decode cX1_work 26 = .ok (.isub, 1) := by decide +kernel
theorem dX1_work_27 : decode cX1_work 27 = .ok (.iaload, 1) := by decide +kernel
theorem dX1_work_28 : decode cX1_work 28 = .ok (.istore 6, 2) := by decide +kernel
theorem dX1_work_30 : decode cX1_work 30 = .ok (.aload 5, 2) := by decide +kernel
theorem dX1_work_32 : decode cX1_work 32 = .ok (.getfield 27, 3) := by decide +kernel
theorem dX1_work_35 : decode cX1_work 35 = .ok (.iload_n 2, 1) := by decide +kernel
theorem dX1_work_36 : decode cX1_work 36 = .ok (.aaload, 1) := by decide +kernel
theorem dX1_work_37 : decode cX1_work 37 = .ok (.iload_n 3, 1) := by decide +kernel
theorem dX1_work_38 : decode cX1_work 38 = .ok (.iaload, 1) := by decide +kernel
theorem dX1_work_39 : decode cX1_work 39 = .ok (.istore 7, 2) := by decide +kernel
theorem dX1_work_41 : decode cX1_work 41 = .ok (.aload_n 0, 1) := by decide +kernel
theorem dX1_work_42 : decode cX1_work 42 = .ok (.iconst 0, 1) := by decide +kernel
theorem dX1_work_43 : decode cX1_work 43 = .ok (.putfield 33, 3) := by decide +kernel
theorem dX1_work_46 : decode cX1_work 46 = .ok (.iload 6, 2) := by decide +kernel
theorem dX1_work_48 : decode cX1_work 48 = .ok (.istore 8, 2) := by decide +kernel
theorem dX1_work_50 : decode cX1_work 50 = .ok (.iload 8, 2) := by decide +kernel
theorem dX1_work_52 : decode cX1_work 52 = .ok (.iload 7, 2) := by decide +kernel
theorem dX1_work_54 : decode cX1_work 54 = .ok (.if_icmp .ge 73, 3) := by decide +kernel
theorem dX1_work_57 : decode cX1_work 57 = .ok (.aload 5, 2) := by decide +kernel
theorem dX1_work_59 : decode cX1_work 59 = .ok (.getfield 37, 3) := by decide +kernel
theorem dX1_work_62 : decode cX1_work 62 = .ok (.iload_n 2, 1) := by decide +kernel
theorem dX1_work_63 : decode cX1_work 63 = .ok (.aaload, 1) := by decide +kernel
theorem dX1_work_64 : decode cX1_work 64 = .ok (.iload 8, 2) := by decide +kernel
theorem dX1_work_66 : decode cX1_work 66 = .ok (.iaload, 1) := by decide +kernel
theorem dX1_work_67 : decode cX1_work 67 = .ok (.istore 9, 2) := by decide +kernel
theorem dX1_work_69 : decode cX1_work 69 = .ok (.iload 9, 2) := by decide +kernel
theorem dX1_work_71 : decode cX1_work 71 = .ok (.ifCond .lt 12, 3) := by decide +kernel
theorem dX1_work_74 : decode cX1_work 74 = .ok (.aload_n 0, 1) := by decide +kernel
theorem dX1_work_75 : decode cX1_work 75 = .ok (.iload 9, 2) := by decide +kernel
theorem dX1_work_77 : decode cX1_work 77 = .ok (.invokevirtual 40, 3) := by decide +kernel
theorem dX1_work_80 : decode cX1_work 80 = .ok (.goto 41, 3) := by decide +kernel
theorem dX1_work_83 : decode cX1_work 83 = .ok (.iload 9, 2) := by decide +kernel
theorem dX1_work_85 : decode cX1_work 85 = .ok (.bipush (-97), 2) := by decide +kernel
theorem dX1_work_87 : decode cX1_work 87 = .ok (.if_icmp .gt 27, 3) := by decide +kernel
theorem dX1_work_90 : decode cX1_work 90 = .ok (.iload 9, 2) := by decide +kernel
theorem dX1_work_92 : decode cX1_work 92 = .ok (.bipush (-122), 2) := by decide +kernel
theorem dX1_work_94 : decode cX1_work 94 = .ok (.if_icmp .lt 20, 3) := by decide +kernel
theorem dX1_work_97 : decode cX1_work 97 = .ok (.aload_n 0, 1) := by decide +kernel
theorem dX1_work_98 : decode cX1_work 98 = .ok (.iload 9, 2) := by decide +kernel
theorem dX1_work_100 : decode cX1_work 100 = .ok (.ineg, 1) := by decide +kernel
theorem dX1_work_101 : decode cX1_work 101 = .ok (.aload_n 1, 1) := by decide +kernel
theorem dX1_work_102 : decode cX1_work 102 = .ok (.iload_n 2, 1) := by decide +kernel
theorem dX1_work_103 : decode cX1_work 103 = .ok (.iload 4, 2) := by decide +kernel
theorem dX1_work_105 : decode cX1_work 105 = .ok (.invokestatic 44, 3) := by decide +kernel
theorem dX1_work_108 : decode cX1_work 108 = .ok (.invokevirtual 40, 3) := by decide +kernel
theorem dX1_work_111 : decode cX1_work 111 = .ok (.goto 10, 3) := by decide +kernel
theorem dX1_work_114 : decode cX1_work 114 = .ok (.aload_n 0, 1) := by decide +kernel
theorem dX1_work_115 : decode cX1_work 115 = .ok (.iload 9, 2) := by decide +kernel
theorem dX1_work_117 : decode cX1_work 117 = .ok (.ineg, 1) := by decide +kernel
theorem dX1_work_118 : decode cX1_work 118 = .ok (.invokevirtual 48, 3) := by decide +kernel
theorem dX1_work_121 : decode cX1_work 121 = .ok (.iinc 8 1, 3) := by decide +kernel
theorem dX1_work_124 : decode cX1_work 124 = .ok (.goto (-74), 3) := by decide +kernel
theorem dX1_work_127 : decode cX1_work 127 = .ok (.aload_n 0, 1) := by decide +kernel
theorem dX1_work_128 : decode cX1_work 128 = .ok (.getfield 33, 3) := by decide +kernel
theorem dX1_work_131 : decode cX1_work 131 = .ok (.ifCond .le 17, 3) := by decide +kernel
theorem dX1_work_134 : decode cX1_work 134 = .ok (.aload_n 0, 1) := by decide +kernel
theorem dX1_work_135 : decode cX1_work 135 = .ok (.getfield 9, 3) := by decide +kernel
theorem dX1_work_138 : decode cX1_work 138 = .ok (.aload_n 0, 1) := by decide +kernel
theorem dX1_work_139 : decode cX1_work 139 = .ok (.getfield 33, 3) := by decide +kernel
theorem dX1_work_142 : decode cX1_work 142 = .ok (.iconst 1, 1) := by decide +kernel
theorem dX1_work_143 : decode cX1_work 143 = .ok (.isub, 1) := by decide +kernel
theorem dX1_work_144 : decode cX1_work 144 = .ok (.iaload, 1) := by decide +kernel
theorem dX1_work_145 : decode cX1_work 145 = .ok (.goto 4, 3) := by decide +kernel
theorem dX1_work_148 : decode cX1_work 148 = .ok (.iconst 0, 1) := by decide +kernel
theorem dX1_work_149 : decode cX1_work 149 = .ok (.ireturn, 1) := by decide +kernel
theorem dX1_push_0 : decode cX1_push 0 = .ok (.aload_n 0, 1) := by decide +kernel
theorem dX1_push_1 : decode cX1_push 1 = .ok (.getfield 33, 3) := by decide +kernel
theorem dX1_push_4 : decode cX1_push 4 = .ok (.sipush 132, 3) := by decide +kernel
theorem dX1_push_7 : decode cX1_push 7 = .ok (.if_icmp .ge 23, 3) := by decide +kernel
theorem dX1_push_10 : decode cX1_push 10 = .ok (.aload_n 0, 1) := by decide +kernel
theorem dX1_push_11 : decode cX1_push 11 = .ok (.getfield 9, 3) := by decide +kernel
theorem dX1_push_14 : decode cX1_push 14 = .ok (.aload_n 0, 1) := by decide +kernel
theorem dX1_push_15 : decode cX1_push 15 = .ok (.getfield 33, 3) := by decide +kernel
theorem dX1_push_18 : decode cX1_push 18 = .ok (.iload_n 1, 1) := by decide +kernel
theorem dX1_push_19 : decode cX1_push 19 = .ok (.iastore, 1) := by decide +kernel
theorem dX1_push_20 : decode cX1_push 20 = .ok (.aload_n 0, 1) := by decide +kernel
theorem dX1_push_21 : decode cX1_push 21 = .ok (.dup, 1) := by decide +kernel
theorem dX1_push_22 : decode cX1_push 22 = .ok (.getfield 33, 3) := by decide +kernel
theorem dX1_push_25 : decode cX1_push 25 = .ok (.iconst 1, 1) := by decide +kernel
theorem dX1_push_26 : decode cX1_push 26 = .ok (.iadd, 1) := by decide +kernel
theorem dX1_push_27 : decode cX1_push 27 = .ok (.putfield 33, 3) := by decide +kernel
theorem dX1_push_30 : decode cX1_push 30 = .ok (.return_, 1) := by decide +kernel
theorem dX1_apply_0 : decode cX1_apply 0 = .ok (.iload_n 1, 1) := by decide +kernel
theorem dX1_apply_1 : decode cX1_apply 1 = .ok (.bipush 33, 2) := by decide +kernel
theorem dX1_apply_3 : decode cX1_apply 3 = .ok (.if_icmp .ne 44, 3) := by decide +kernel
theorem dX1_apply_6 : decode cX1_apply 6 = .ok (.aload_n 0, 1) := by decide +kernel
theorem dX1_apply_7 : decode cX1_apply 7 = .ok (.getfield 33, 3) := by decide +kernel
theorem dX1_apply_10 : decode cX1_apply 10 = .ok (.iconst 1, 1) := by decide +kernel
theorem dX1_apply_11 : decode cX1_apply 11 = .ok (.if_icmp .lt 36, 3) := by decide +kernel
theorem dX1_apply_14 : decode cX1_apply 14 = .ok (.aload_n 0, 1) := by decide +kernel
theorem dX1_apply_15 : decode cX1_apply 15 = .ok (.getfield 9, 3) := by decide +kernel
theorem dX1_apply_18 : decode cX1_apply 18 = .ok (.aload_n 0, 1) := by decide +kernel
theorem dX1_apply_19 : decode cX1_apply 19 = .ok (.getfield 33, 3) := by decide +kernel
theorem dX1_apply_22 : decode cX1_apply 22 = .ok (.iconst 1, 1) := by decide +kernel
theorem dX1_apply_23 : decode cX1_apply 23 = .ok (.isub, 1) := by decide +kernel
theorem dX1_apply_24 : decode cX1_apply 24 = .ok (.aload_n 0, 1) := by decide +kernel
theorem dX1_apply_25 : decode cX1_apply 25 = .ok (.getfield 9, 3) := by decide +kernel
theorem dX1_apply_28 : decode cX1_apply 28 = .ok (.aload_n 0, 1) := by decide +kernel
theorem dX1_apply_29 : decode cX1_apply 29 = .ok (.getfield 33, 3) := by decide +kernel
theorem dX1_apply_32 : decode cX1_apply 32 = .ok (.iconst 1, 1) := by decide +kernel
theorem dX1_apply_33 : decode cX1_apply 33 = .ok (.isub, 1) := by decide +kernel
theorem dX1_apply_34 : decode cX1_apply 34 = .ok (.iaload, 1) := by decide +kernel
theorem dX1_apply_35 : decode cX1_apply 35 = .ok (.ifCond .ne 7, 3) := by decide +kernel
theorem dX1_apply_38 : decode cX1_apply 38 = .ok (.iconst 1, 1) := by decide +kernel
theorem dX1_apply_39 : decode cX1_apply 39 = .ok (.goto 4, 3) := by decide +kernel
theorem dX1_apply_42 : decode cX1_apply 42 = .ok (.iconst 0, 1) := by decide +kernel
theorem dX1_apply_43 : decode cX1_apply 43 = .ok (.iastore, 1) := by decide +kernel
theorem dX1_apply_44 : decode cX1_apply 44 = .ok (.goto 56, 3) := by decide +kernel
theorem dX1_apply_47 : decode cX1_apply 47 = .ok (.aload_n 0, 1) := by decide +kernel
theorem dX1_apply_48 : decode cX1_apply 48 = .ok (.getfield 33, 3) := by decide +kernel
theorem dX1_apply_51 : decode cX1_apply 51 = .ok (.iconst 2, 1) := by decide +kernel
theorem dX1_apply_52 : decode cX1_apply 52 = .ok (.if_icmp .lt 48, 3) := by decide +kernel
theorem dX1_apply_55 : decode cX1_apply 55 = .ok (.aload_n 0, 1) := by decide +kernel
theorem dX1_apply_56 : decode cX1_apply 56 = .ok (.dup, 1) := by decide +kernel
theorem dX1_apply_57 : decode cX1_apply 57 = .ok (.getfield 33, 3) := by decide +kernel
theorem dX1_apply_60 : decode cX1_apply 60 = .ok (.iconst 1, 1) := by decide +kernel
theorem dX1_apply_61 : decode cX1_apply 61 = .ok (.isub, 1) := by decide +kernel
theorem dX1_apply_62 : decode cX1_apply 62 = .ok (.putfield 33, 3) := by decide +kernel
theorem dX1_apply_65 : decode cX1_apply 65 = .ok (.aload_n 0, 1) := by decide +kernel
theorem dX1_apply_66 : decode cX1_apply 66 = .ok (.getfield 9, 3) := by decide +kernel
theorem dX1_apply_69 : decode cX1_apply 69 = .ok (.aload_n 0, 1) := by decide +kernel
theorem dX1_apply_70 : decode cX1_apply 70 = .ok (.getfield 33, 3) := by decide +kernel
theorem dX1_apply_73 : decode cX1_apply 73 = .ok (.iconst 1, 1) := by decide +kernel
theorem dX1_apply_74 : decode cX1_apply 74 = .ok (.isub, 1) := by decide +kernel
theorem dX1_apply_75 : decode cX1_apply 75 = .ok (.iload_n 1, 1) := by decide +kernel
theorem dX1_apply_76 : decode cX1_apply 76 = .ok (.aload_n 0, 1) := by decide +kernel
theorem dX1_apply_77 : decode cX1_apply 77 = .ok (.getfield 9, 3) := by decide +kernel
theorem dX1_apply_80 : decode cX1_apply 80 = .ok (.aload_n 0, 1) := by decide +kernel
theorem dX1_apply_81 : decode cX1_apply 81 = .ok (.getfield 33, 3) := by decide +kernel
theorem dX1_apply_84 : decode cX1_apply 84 = .ok (.iconst 1, 1) := by decide +kernel
theorem dX1_apply_85 : decode cX1_apply 85 = .ok (.isub, 1) := by decide +kernel
theorem dX1_apply_86 : decode cX1_apply 86 = .ok (.iaload, 1) := by decide +kernel
theorem dX1_apply_87 : decode cX1_apply 87 = .ok (.aload_n 0, 1) := by decide +kernel
theorem dX1_apply_88 : decode cX1_apply 88 = .ok (.getfield 9, 3) := by decide +kernel
theorem dX1_apply_91 : decode cX1_apply 91 = .ok (.aload_n 0, 1) := by decide +kernel
theorem dX1_apply_92 : decode cX1_apply 92 = .ok (.getfield 33, 3) := by decide +kernel
theorem dX1_apply_95 : decode cX1_apply 95 = .ok (.iaload, 1) := by decide +kernel
theorem dX1_apply_96 : decode cX1_apply 96 = .ok (.invokestatic 51, 3) := by decide +kernel
theorem dX1_apply_99 : decode cX1_apply 99 = .ok (.iastore, 1) := by decide +kernel
theorem dX1_apply_100 : decode cX1_apply 100 = .ok (.return_, 1) := by decide +kernel
theorem dX1_join_0 : decode cX1_join 0 = .ok (.iload_n 0, 1) := by decide +kernel
theorem dX1_join_1 : decode cX1_join 1 = .ok (.tableswitch 186 38 62 #[172, 186, 186, 186, 123, 115, 186, 119, 186, 127, 186, 186, 186, 186, 186, 186, 186, 186, 186, 186, 186, 186, 139, 150, 161], 115) := by decide +kernel
theorem dX1_join_116 : decode cX1_join 116 = .ok (.iload_n 1, 1) := by decide +kernel
theorem dX1_join_117 : decode cX1_join 117 = .ok (.iload_n 2, 1) := by decide +kernel
theorem dX1_join_118 : decode cX1_join 118 = .ok (.iadd, 1) := by decide +kernel
theorem dX1_join_119 : decode cX1_join 119 = .ok (.ireturn, 1) := by decide +kernel
theorem dX1_join_120 : decode cX1_join 120 = .ok (.iload_n 1, 1) := by decide +kernel
theorem dX1_join_121 : decode cX1_join 121 = .ok (.iload_n 2, 1) := by decide +kernel
theorem dX1_join_122 : decode cX1_join 122 = .ok (.isub, 1) := by decide +kernel
theorem dX1_join_123 : decode cX1_join 123 = .ok (.ireturn, 1) := by decide +kernel
theorem dX1_join_124 : decode cX1_join 124 = .ok (.iload_n 1, 1) := by decide +kernel
theorem dX1_join_125 : decode cX1_join 125 = .ok (.iload_n 2, 1) := by decide +kernel
theorem dX1_join_126 : decode cX1_join 126 = .ok (.imul, 1) := by decide +kernel
theorem dX1_join_127 : decode cX1_join 127 = .ok (.ireturn, 1) := by decide +kernel
theorem dX1_join_128 : decode cX1_join 128 = .ok (.iload_n 2, 1) := by decide +kernel
theorem dX1_join_129 : decode cX1_join 129 = .ok (.ifCond .ne 7, 3) := by decide +kernel
theorem dX1_join_132 : decode cX1_join 132 = .ok (.iconst 0, 1) := by decide +kernel
theorem dX1_join_133 : decode cX1_join 133 = .ok (.goto 6, 3) := by decide +kernel
theorem dX1_join_136 : decode cX1_join 136 = .ok (.iload_n 1, 1) := by decide +kernel
theorem dX1_join_137 : decode cX1_join 137 = .ok (.iload_n 2, 1) := by decide +kernel
theorem dX1_join_138 : decode cX1_join 138 = .ok (.idiv, 1) := by decide +kernel
theorem dX1_join_139 : decode cX1_join 139 = .ok (.ireturn, 1) := by decide +kernel
theorem dX1_join_140 : decode cX1_join 140 = .ok (.iload_n 1, 1) := by decide +kernel
theorem dX1_join_141 : decode cX1_join 141 = .ok (.iload_n 2, 1) := by decide +kernel
theorem dX1_join_142 : decode cX1_join 142 = .ok (.if_icmp .ge 7, 3) := by decide +kernel
theorem dX1_join_145 : decode cX1_join 145 = .ok (.iconst 1, 1) := by decide +kernel
theorem dX1_join_146 : decode cX1_join 146 = .ok (.goto 4, 3) := by decide +kernel
theorem dX1_join_149 : decode cX1_join 149 = .ok (.iconst 0, 1) := by decide +kernel
theorem dX1_join_150 : decode cX1_join 150 = .ok (.ireturn, 1) := by decide +kernel
theorem dX1_join_151 : decode cX1_join 151 = .ok (.iload_n 1, 1) := by decide +kernel
theorem dX1_join_152 : decode cX1_join 152 = .ok (.iload_n 2, 1) := by decide +kernel
theorem dX1_join_153 : decode cX1_join 153 = .ok (.if_icmp .ne 7, 3) := by decide +kernel
theorem dX1_join_156 : decode cX1_join 156 = .ok (.iconst 1, 1) := by decide +kernel
theorem dX1_join_157 : decode cX1_join 157 = .ok (.goto 4, 3) := by decide +kernel
theorem dX1_join_160 : decode cX1_join 160 = .ok (.iconst 0, 1) := by decide +kernel
theorem dX1_join_161 : decode cX1_join 161 = .ok (.ireturn, 1) := by decide +kernel
theorem dX1_join_162 : decode cX1_join 162 = .ok (.iload_n 1, 1) := by decide +kernel
theorem dX1_join_163 : decode cX1_join 163 = .ok (.iload_n 2, 1) := by decide +kernel
theorem dX1_join_164 : decode cX1_join 164 = .ok (.if_icmp .le 7, 3) := by decide +kernel
theorem dX1_join_167 : decode cX1_join 167 = .ok (.iconst 1, 1) := by decide +kernel
theorem dX1_join_168 : decode cX1_join 168 = .ok (.goto 4, 3) := by decide +kernel
theorem dX1_join_171 : decode cX1_join 171 = .ok (.iconst 0, 1) := by decide +kernel
theorem dX1_join_172 : decode cX1_join 172 = .ok (.ireturn, 1) := by decide +kernel
theorem dX1_join_173 : decode cX1_join 173 = .ok (.iload_n 1, 1) := by decide +kernel
theorem dX1_join_174 : decode cX1_join 174 = .ok (.ifCond .eq 11, 3) := by decide +kernel
theorem dX1_join_177 : decode cX1_join 177 = .ok (.iload_n 2, 1) := by decide +kernel
theorem dX1_join_178 : decode cX1_join 178 = .ok (.ifCond .eq 7, 3) := by decide +kernel
theorem dX1_join_181 : decode cX1_join 181 = .ok (.iconst 1, 1) := by decide +kernel
theorem dX1_join_182 : decode cX1_join 182 = .ok (.goto 4, 3) := by decide +kernel
theorem dX1_join_185 : decode cX1_join 185 = .ok (.iconst 0, 1) := by decide +kernel
theorem dX1_join_186 : decode cX1_join 186 = .ok (.ireturn, 1) := by decide +kernel
theorem dX1_join_187 : decode cX1_join 187 = .ok (.iload_n 1, 1) := by decide +kernel
theorem dX1_join_188 : decode cX1_join 188 = .ok (.ifCond .ne 7, 3) := by decide +kernel
theorem dX1_join_191 : decode cX1_join 191 = .ok (.iload_n 2, 1) := by decide +kernel
theorem dX1_join_192 : decode cX1_join 192 = .ok (.ifCond .eq 7, 3) := by decide +kernel
theorem dX1_join_195 : decode cX1_join 195 = .ok (.iconst 1, 1) := by decide +kernel
theorem dX1_join_196 : decode cX1_join 196 = .ok (.goto 4, 3) := by decide +kernel
theorem dX1_join_199 : decode cX1_join 199 = .ok (.iconst 0, 1) := by decide +kernel
theorem dX1_join_200 : decode cX1_join 200 = .ok (.ireturn, 1) := by decide +kernel
theorem dX1_valueOf_0 : decode cX1_valueOf 0 = .ok (.aload_n 1, 1) := by decide +kernel
theorem dX1_valueOf_1 : decode cX1_valueOf 1 = .ok (.getfield 55, 3) := by decide +kernel
theorem dX1_valueOf_4 : decode cX1_valueOf 4 = .ok (.iload_n 2, 1) := by decide +kernel
theorem dX1_valueOf_5 : decode cX1_valueOf 5 = .ok (.iaload, 1) := by decide +kernel
theorem dX1_valueOf_6 : decode cX1_valueOf 6 = .ok (.istore 4, 2) := by decide +kernel
theorem dX1_valueOf_8 : decode cX1_valueOf 8 = .ok (.iload 4, 2) := by decide +kernel
theorem dX1_valueOf_10 : decode cX1_valueOf 10 = .ok (.ldc 58, 2) := by decide +kernel
theorem dX1_valueOf_12 : decode cX1_valueOf 12 = .ok (.if_icmp .ne 5, 3) := by decide +kernel
theorem dX1_valueOf_15 : decode cX1_valueOf 15 = .ok (.iconst 0, 1) := by decide +kernel
theorem dX1_valueOf_16 : decode cX1_valueOf 16 = .ok (.ireturn, 1) := by decide +kernel
theorem dX1_valueOf_17 : decode cX1_valueOf 17 = .ok (.iload_n 0, 1) := by decide +kernel
theorem dX1_valueOf_18 : decode cX1_valueOf 18 = .ok (.tableswitch 197 97 120 #[138, 197, 197, 197, 197, 127, 197, 197, 197, 197, 158, 197, 178, 171, 144, 197, 197, 197, 197, 110, 197, 150, 197, 183], 110) := by decide +kernel
theorem dX1_valueOf_128 : decode cX1_valueOf 128 = .ok (.aload_n 1, 1) := by decide +kernel
theorem dX1_valueOf_129 : decode cX1_valueOf 129 = .ok (.getfield 15, 3) := by decide +kernel
theorem dX1_valueOf_132 : decode cX1_valueOf 132 = .ok (.getfield 59, 3) := by decide +kernel
theorem dX1_valueOf_135 : decode cX1_valueOf 135 = .ok (.iload_n 2, 1) := by decide +kernel
theorem dX1_valueOf_136 : decode cX1_valueOf 136 = .ok (.aload_n 1, 1) := by decide +kernel
theorem dX1_valueOf_137 : decode cX1_valueOf 137 = .ok (.getfield 63, 3) := by decide +kernel
theorem dX1_valueOf_140 : decode cX1_valueOf 140 = .ok (.iload_n 3, 1) := by decide +kernel
theorem dX1_valueOf_141 : decode cX1_valueOf 141 = .ok (.invokevirtual 66, 3) := by decide +kernel
theorem dX1_valueOf_144 : decode cX1_valueOf 144 = .ok (.ireturn, 1) := by decide +kernel
theorem dX1_valueOf_145 : decode cX1_valueOf 145 = .ok (.aload_n 1, 1) := by decide +kernel
theorem dX1_valueOf_146 : decode cX1_valueOf 146 = .ok (.getfield 15, 3) := by decide +kernel
theorem dX1_valueOf_149 : decode cX1_valueOf 149 = .ok (.getfield 71, 3) := by decide +kernel
theorem dX1_valueOf_152 : decode cX1_valueOf 152 = .ok (.iload 4, 2) := by decide +kernel
theorem dX1_valueOf_154 : decode cX1_valueOf 154 = .ok (.iaload, 1) := by decide +kernel
theorem dX1_valueOf_155 : decode cX1_valueOf 155 = .ok (.ireturn, 1) := by decide +kernel
theorem dX1_valueOf_156 : decode cX1_valueOf 156 = .ok (.aload_n 1, 1) := by decide +kernel
theorem dX1_valueOf_157 : decode cX1_valueOf 157 = .ok (.iload_n 2, 1) := by decide +kernel
theorem dX1_valueOf_158 : decode cX1_valueOf 158 = .ok (.invokevirtual 74, 3) := by decide +kernel
theorem dX1_valueOf_161 : decode cX1_valueOf 161 = .ok (.ireturn, 1) := by decide +kernel
theorem dX1_valueOf_162 : decode cX1_valueOf 162 = .ok (.aload_n 1, 1) := by decide +kernel
theorem dX1_valueOf_163 : decode cX1_valueOf 163 = .ok (.iload_n 2, 1) := by decide +kernel
theorem dX1_valueOf_164 : decode cX1_valueOf 164 = .ok (.invokevirtual 78, 3) := by decide +kernel
theorem dX1_valueOf_167 : decode cX1_valueOf 167 = .ok (.ireturn, 1) := by decide +kernel
theorem dX1_valueOf_168 : decode cX1_valueOf 168 = .ok (.aload_n 1, 1) := by decide +kernel
theorem dX1_valueOf_169 : decode cX1_valueOf 169 = .ok (.getfield 81, 3) := by decide +kernel
theorem dX1_valueOf_172 : decode cX1_valueOf 172 = .ok (.iload 4, 2) := by decide +kernel
theorem dX1_valueOf_174 : decode cX1_valueOf 174 = .ok (.iaload, 1) := by decide +kernel
theorem dX1_valueOf_175 : decode cX1_valueOf 175 = .ok (.ireturn, 1) := by decide +kernel
theorem dX1_valueOf_176 : decode cX1_valueOf 176 = .ok (.aload_n 1, 1) := by decide +kernel
theorem dX1_valueOf_177 : decode cX1_valueOf 177 = .ok (.getfield 15, 3) := by decide +kernel
theorem dX1_valueOf_180 : decode cX1_valueOf 180 = .ok (.getfield 84, 3) := by decide +kernel
theorem dX1_valueOf_183 : decode cX1_valueOf 183 = .ok (.getfield 88, 3) := by decide +kernel
theorem dX1_valueOf_186 : decode cX1_valueOf 186 = .ok (.iload_n 2, 1) := by decide +kernel
theorem dX1_valueOf_187 : decode cX1_valueOf 187 = .ok (.iaload, 1) := by decide +kernel
theorem dX1_valueOf_188 : decode cX1_valueOf 188 = .ok (.ireturn, 1) := by decide +kernel
theorem dX1_valueOf_189 : decode cX1_valueOf 189 = .ok (.aload_n 1, 1) := by decide +kernel
theorem dX1_valueOf_190 : decode cX1_valueOf 190 = .ok (.iload 4, 2) := by decide +kernel
theorem dX1_valueOf_192 : decode cX1_valueOf 192 = .ok (.invokevirtual 93, 3) := by decide +kernel
theorem dX1_valueOf_195 : decode cX1_valueOf 195 = .ok (.ireturn, 1) := by decide +kernel
theorem dX1_valueOf_196 : decode cX1_valueOf 196 = .ok (.aload_n 1, 1) := by decide +kernel
theorem dX1_valueOf_197 : decode cX1_valueOf 197 = .ok (.getfield 63, 3) := by decide +kernel
theorem dX1_valueOf_200 : decode cX1_valueOf 200 = .ok (.ireturn, 1) := by decide +kernel
theorem dX1_valueOf_201 : decode cX1_valueOf 201 = .ok (.aload_n 1, 1) := by decide +kernel
theorem dX1_valueOf_202 : decode cX1_valueOf 202 = .ok (.iload_n 2, 1) := by decide +kernel
theorem dX1_valueOf_203 : decode cX1_valueOf 203 = .ok (.invokevirtual 96, 3) := by decide +kernel
theorem dX1_valueOf_206 : decode cX1_valueOf 206 = .ok (.ifCond .eq 7, 3) := by decide +kernel
theorem dX1_valueOf_209 : decode cX1_valueOf 209 = .ok (.iconst 1, 1) := by decide +kernel
theorem dX1_valueOf_210 : decode cX1_valueOf 210 = .ok (.goto 4, 3) := by decide +kernel
theorem dX1_valueOf_213 : decode cX1_valueOf 213 = .ok (.iconst 0, 1) := by decide +kernel
theorem dX1_valueOf_214 : decode cX1_valueOf 214 = .ok (.ireturn, 1) := by decide +kernel
theorem dX1_valueOf_215 : decode cX1_valueOf 215 = .ok (.aload_n 1, 1) := by decide +kernel
theorem dX1_valueOf_216 : decode cX1_valueOf 216 = .ok (.getfield 100, 3) := by decide +kernel
theorem dX1_valueOf_219 : decode cX1_valueOf 219 = .ok (.iload_n 2, 1) := by decide +kernel
theorem dX1_valueOf_220 : decode cX1_valueOf 220 = .ok (.iaload, 1) := by decide +kernel
theorem dX1_valueOf_221 : decode cX1_valueOf 221 = .ok (.ireturn, 1) := by decide +kernel
theorem dX2_look_0 : decode cX2_look 0 = .ok (.aload_n 0, 1) := by decide +kernel
theorem dX2_look_1 : decode cX2_look 1 = .ok (.iload_n 1, 1) := by decide +kernel
theorem dX2_look_2 : decode cX2_look 2 = .ok (.putfield 28, 3) := by decide +kernel
theorem dX2_look_5 : decode cX2_look 5 = .ok (.aload_n 0, 1) := by decide +kernel
theorem dX2_look_6 : decode cX2_look 6 = .ok (.getfield 9, 3) := by decide +kernel
theorem dX2_look_9 : decode cX2_look 9 = .ok (.ldc 32, 2) := by decide +kernel
theorem dX2_look_11 : decode cX2_look 11 = .ok (.invokestatic 33, 3) := by decide +kernel
theorem dX2_look_14 : decode cX2_look 14 = .ok (.aload_n 0, 1) := by decide +kernel
theorem dX2_look_15 : decode cX2_look 15 = .ok (.getfield 24, 3) := by decide +kernel
theorem dX2_look_18 : decode cX2_look 18 = .ok (.getfield 39, 3) := by decide +kernel
theorem dX2_look_21 : decode cX2_look 21 = .ok (.astore_n 2, 1) := by decide +kernel
theorem dX2_look_22 : decode cX2_look 22 = .ok (.iconst 0, 1) := by decide +kernel
theorem dX2_look_23 : decode cX2_look 23 = .ok (.istore_n 3, 1) := by decide +kernel
theorem dX2_look_24 : decode cX2_look 24 = .ok (.iload_n 3, 1) := by decide +kernel
theorem dX2_look_25 : decode cX2_look 25 = .ok (.aload_n 2, 1) := by decide +kernel
theorem dX2_look_26 : decode cX2_look 26 = .ok (.getfield 45, 3) := by decide +kernel
theorem dX2_look_29 : decode cX2_look 29 = .ok (.if_icmp .ge 36, 3) := by decide +kernel
theorem dX2_look_32 : decode cX2_look 32 = .ok (.aload_n 2, 1) := by decide +kernel
theorem dX2_look_33 : decode cX2_look 33 = .ok (.getfield 50, 3) := by decide +kernel
theorem dX2_look_36 : decode cX2_look 36 = .ok (.iload_n 3, 1) := by decide +kernel
theorem dX2_look_37 : decode cX2_look 37 = .ok (.iaload, 1) := by decide +kernel
theorem dX2_look_38 : decode cX2_look 38 = .ok (.iload_n 1, 1) := by decide +kernel
theorem dX2_look_39 : decode cX2_look 39 = .ok (.if_icmp .gt 26, 3) := by decide +kernel
theorem dX2_look_42 : decode cX2_look 42 = .ok (.aload_n 0, 1) := by decide +kernel
theorem dX2_look_43 : decode cX2_look 43 = .ok (.getfield 9, 3) := by decide +kernel
theorem dX2_look_46 : decode cX2_look 46 = .ok (.aload_n 2, 1) := by decide +kernel
theorem dX2_look_47 : decode cX2_look 47 = .ok (.getfield 52, 3) := by decide +kernel
theorem dX2_look_50 : decode cX2_look 50 = .ok (.iload_n 3, 1) := by decide +kernel
theorem dX2_look_51 : decode cX2_look 51 = .ok (.iaload, 1) := by decide +kernel
theorem dX2_look_52 : decode cX2_look 52 = .ok (.aload_n 2, 1) := by decide +kernel
theorem dX2_look_53 : decode cX2_look 53 = .ok (.getfield 55, 3) := by decide +kernel
theorem dX2_look_56 : decode cX2_look 56 = .ok (.iload_n 3, 1) := by decide +kernel
theorem dX2_look_57 : decode cX2_look 57 = .ok (.iaload, 1) := by decide +kernel
theorem dX2_look_58 : decode cX2_look 58 = .ok (.iastore, 1) := by decide +kernel
theorem dX2_look_59 : decode cX2_look 59 = .ok (.iinc 3 1, 3) := by decide +kernel
theorem dX2_look_62 : decode cX2_look 62 = .ok (.goto (-38), 3) := by decide +kernel
theorem dX2_look_65 : decode cX2_look 65 = .ok (.aload_n 0, 1) := by decide +kernel
theorem dX2_look_66 : decode cX2_look 66 = .ok (.invokevirtual 58, 3) := by decide +kernel
theorem dX2_look_69 : decode cX2_look 69 = .ok (.return_, 1) := by decide +kernel
theorem dX2_sendOut_0 : decode cX2_sendOut 0 = .ok (.aload_n 0, 1) := by decide +kernel
theorem dX2_sendOut_1 : decode cX2_sendOut 1 = .ok (.getfield 9, 3) := by decide +kernel
theorem dX2_sendOut_4 : decode cX2_sendOut 4 = .ok (.iload_n 1, 1) := by decide +kernel
theorem dX2_sendOut_5 : decode cX2_sendOut 5 = .ok (.ldc 32, 2) := by decide +kernel
theorem dX2_sendOut_7 : decode cX2_sendOut 7 = .ok (.iastore, 1) := by decide +kernel
theorem dX2_sendOut_8 : decode cX2_sendOut 8 = .ok (.aload_n 0, 1) := by decide +kernel
theorem dX2_sendOut_9 : decode cX2_sendOut 9 = .ok (.invokevirtual 58, 3) := by decide +kernel
theorem dX2_sendOut_12 : decode cX2_sendOut 12 = .ok (.return_, 1) := by decide +kernel
theorem dX2_settle_0 : decode cX2_settle 0 = .ok (.aload_n 0, 1) := by decide +kernel
theorem dX2_settle_1 : decode cX2_settle 1 = .ok (.getfield 15, 3) := by decide +kernel
theorem dX2_settle_4 : decode cX2_settle 4 = .ok (.ldc 32, 2) := by decide +kernel
theorem dX2_settle_6 : decode cX2_settle 6 = .ok (.invokestatic 33, 3) := by decide +kernel
theorem dX2_settle_9 : decode cX2_settle 9 = .ok (.aload_n 0, 1) := by decide +kernel
theorem dX2_settle_10 : decode cX2_settle 10 = .ok (.getfield 18, 3) := by decide +kernel
theorem dX2_settle_13 : decode cX2_settle 13 = .ok (.iconst 0, 1) := by decide +kernel
theorem dX2_settle_14 : decode cX2_settle 14 = .ok (.invokestatic 33, 3) := by decide +kernel
theorem dX2_settle_17 : decode cX2_settle 17 = .ok (.aload_n 0, 1) := by decide +kernel
theorem dX2_settle_18 : decode cX2_settle 18 = .ok (.getfield 21, 3) := by decide +kernel
theorem dX2_settle_21 : decode cX2_settle 21 = .ok (.iconst 0, 1) := by decide +kernel
theorem dX2_settle_22 : decode cX2_settle 22 = .ok (.invokestatic 33, 3) := by decide +kernel
theorem dX2_settle_25 : decode cX2_settle 25 = .ok (.aload_n 0, 1) := by decide +kernel
theorem dX2_settle_26 : decode cX2_settle 26 = .ok (.iconst 0, 1) := by decide +kernel
theorem dX2_settle_27 : decode cX2_settle 27 = .ok (.putfield 61, 3) := by decide +kernel
theorem dX2_settle_30 : decode cX2_settle 30 = .ok (.iconst 0, 1) := by decide +kernel
theorem dX2_settle_31 : decode cX2_settle 31 = .ok (.istore_n 1, 1) := by decide +kernel
theorem dX2_settle_32 : decode cX2_settle 32 = .ok (.iconst 0, 1) := by decide +kernel
theorem dX2_settle_33 : decode cX2_settle 33 = .ok (.istore_n 2, 1) := by decide +kernel
theorem dX2_settle_34 : decode cX2_settle 34 = .ok (.iload_n 2, 1) := by decide +kernel
theorem dX2_settle_35 : decode cX2_settle 35 = .ok (.aload_n 0, 1) := by decide +kernel
theorem dX2_settle_36 : decode cX2_settle 36 = .ok (.getfield 24, 3) := by decide +kernel
theorem dX2_settle_39 : decode cX2_settle 39 = .ok (.getfield 64, 3) := by decide +kernel
theorem dX2_settle_42 : decode cX2_settle 42 = .ok (.getfield 68, 3) := by decide +kernel
theorem dX2_settle_45 : decode cX2_settle 45 = .ok (.if_icmp .ge 54, 3) := by decide +kernel
theorem dX2_settle_48 : decode cX2_settle 48 = .ok (.aload_n 0, 1) := by decide +kernel
theorem dX2_settle_49 : decode cX2_settle 49 = .ok (.getfield 9, 3) := by decide +kernel
theorem dX2_settle_52 : decode cX2_settle 52 = .ok (.iload_n 2, 1) := by decide +kernel
theorem dX2_settle_53 : decode cX2_settle 53 = .ok (.iaload, 1) := by decide +kernel
theorem dX2_settle_54 : decode cX2_settle 54 = .ok (.istore_n 3, 1) := by decide +kernel
theorem dX2_settle_55 : decode cX2_settle 55 = .ok (.iload_n 3, 1) := by decide +kernel
theorem dX2_settle_56 : decode cX2_settle 56 = .ok (.ldc 32, 2) := by decide +kernel
theorem dX2_settle_58 : decode cX2_settle 58 = .ok (.if_icmp .eq 35, 3) := by decide +kernel
theorem dX2_settle_61 : decode cX2_settle 61 = .ok (.aload_n 0, 1) := by decide +kernel
theorem dX2_settle_62 : decode cX2_settle 62 = .ok (.getfield 15, 3) := by decide +kernel
theorem dX2_settle_65 : decode cX2_settle 65 = .ok (.iload_n 3, 1) := by decide +kernel
theorem dX2_settle_66 : decode cX2_settle 66 = .ok (.iload_n 2, 1) := by decide +kernel
theorem dX2_settle_67 : decode cX2_settle 67 = .ok (.iastore, 1) := by decide +kernel
theorem dX2_settle_68 : decode cX2_settle 68 = .ok (.aload_n 0, 1) := by decide +kernel
theorem dX2_settle_69 : decode cX2_settle 69 = .ok (.dup, 1) := by decide +kernel
theorem dX2_settle_70 : decode cX2_settle 70 = .ok (.getfield 61, 3) := by decide +kernel
theorem dX2_settle_73 : decode cX2_settle 73 = .ok (.iconst 1, 1) := by decide +kernel
theorem dX2_settle_74 : decode cX2_settle 74 = .ok (.iadd, 1) := by decide +kernel
theorem dX2_settle_75 : decode cX2_settle 75 = .ok (.putfield 61, 3) := by decide +kernel
theorem dX2_settle_78 : decode cX2_settle 78 = .ok (.iload_n 1, 1) := by decide +kernel
theorem dX2_settle_79 : decode cX2_settle 79 = .ok (.aload_n 0, 1) := by decide +kernel
theorem dX2_settle_80 : decode cX2_settle 80 = .ok (.getfield 24, 3) := by decide +kernel
theorem dX2_settle_83 : decode cX2_settle 83 = .ok (.getfield 64, 3) := by decide +kernel
theorem dX2_settle_86 : decode cX2_settle 86 = .ok (.getfield 71, 3) := by decide +kernel
theorem dX2_settle_89 : decode cX2_settle 89 = .ok (.iload_n 2, 1) := by decide +kernel
theorem dX2_settle_90 : decode cX2_settle 90 = .ok (.iaload, 1) := by decide +kernel
theorem dX2_settle_91 : decode cX2_settle 91 = .ok (.iadd, 1) := by decide +kernel
theorem dX2_settle_92 : decode cX2_settle 92 = .ok (.istore_n 1, 1) := by decide +kernel
theorem dX2_settle_93 : decode cX2_settle 93 = .ok (.iinc 2 1, 3) := by decide +kernel
theorem dX2_settle_96 : decode cX2_settle 96 = .ok (.goto (-62), 3) := by decide +kernel
theorem dX2_settle_99 : decode cX2_settle 99 = .ok (.iload_n 1, 1) := by decide +kernel
theorem dX2_settle_100 : decode cX2_settle 100 = .ok (.ifCond .ne 4, 3) := by decide +kernel
theorem dX2_settle_103 : decode cX2_settle 103 = .ok (.return_, 1) := by decide +kernel
theorem dX2_settle_104 : decode cX2_settle 104 = .ok (.iconst 0, 1) := by decide +kernel
theorem dX2_settle_105 : decode cX2_settle 105 = .ok (.istore_n 2, 1) := by decide +kernel
theorem dX2_settle_106 : decode cX2_settle 106 = .ok (.iload_n 2, 1) := by decide +kernel
theorem dX2_settle_107 : decode cX2_settle 107 = .ok (.aload_n 0, 1) := by decide +kernel
theorem dX2_settle_108 : decode cX2_settle 108 = .ok (.getfield 24, 3) := by decide +kernel
theorem dX2_settle_111 : decode cX2_settle 111 = .ok (.getfield 74, 3) := by decide +kernel
theorem dX2_settle_114 : decode cX2_settle 114 = .ok (.getfield 78, 3) := by decide +kernel
theorem dX2_settle_117 : decode cX2_settle 117 = .ok (.if_icmp .ge 30, 3) := by decide +kernel
theorem dX2_settle_120 : decode cX2_settle 120 = .ok (.iconst 0, 1) := by decide +kernel
theorem dX2_settle_121 : decode cX2_settle 121 = .ok (.istore_n 3, 1) := by decide +kernel
theorem dX2_settle_122 : decode cX2_settle 122 = .ok (.iload_n 3, 1) := by decide +kernel
theorem dX2_settle_123 : decode cX2_settle 123 = .ok (.bipush 12, 2) := by decide +kernel
theorem dX2_settle_125 : decode cX2_settle 125 = .ok (.if_icmp .ge 16, 3) := by decide +kernel
theorem dX2_settle_128 : decode cX2_settle 128 = .ok (.aload_n 0, 1) := by decide +kernel
theorem dX2_settle_129 : decode cX2_settle 129 = .ok (.iload_n 2, 1) := by decide +kernel
theorem dX2_settle_130 : decode cX2_settle 130 = .ok (.iload_n 3, 1) := by decide +kernel
theorem dX2_settle_131 : decode cX2_settle 131 = .ok (.iload_n 1, 1) := by decide +kernel
theorem dX2_settle_132 : decode cX2_settle 132 = .ok (.invokevirtual 81, 3) := by decide +kernel
theorem dX2_settle_135 : decode cX2_settle 135 = .ok (.iinc 3 1, 3) := by decide +kernel
theorem dX2_settle_138 : decode cX2_settle 138 = .ok (.goto (-16), 3) := by decide +kernel
theorem dX2_settle_141 : decode cX2_settle 141 = .ok (.iinc 2 1, 3) := by decide +kernel
theorem dX2_settle_144 : decode cX2_settle 144 = .ok (.goto (-38), 3) := by decide +kernel
theorem dX2_settle_147 : decode cX2_settle 147 = .ok (.return_, 1) := by decide +kernel
theorem dX2_walk_0 : decode cX2_walk 0 = .ok (.aload_n 0, 1) := by decide +kernel
theorem dX2_walk_1 : decode cX2_walk 1 = .ok (.getfield 15, 3) := by decide +kernel
theorem dX2_walk_4 : decode cX2_walk 4 = .ok (.iload_n 2, 1) := by decide +kernel
theorem dX2_walk_5 : decode cX2_walk 5 = .ok (.iaload, 1) := by decide +kernel
theorem dX2_walk_6 : decode cX2_walk 6 = .ok (.istore 4, 2) := by decide +kernel
theorem dX2_walk_8 : decode cX2_walk 8 = .ok (.iload 4, 2) := by decide +kernel
theorem dX2_walk_10 : decode cX2_walk 10 = .ok (.ldc 32, 2) := by decide +kernel
theorem dX2_walk_12 : decode cX2_walk 12 = .ok (.if_icmp .eq 7, 3) := by decide +kernel
theorem dX2_walk_15 : decode cX2_walk 15 = .ok (.iload_n 3, 1) := by decide +kernel
theorem dX2_walk_16 : decode cX2_walk 16 = .ok (.ifCond .ne 4, 3) := by decide +kernel
theorem dX2_walk_19 : decode cX2_walk 19 = .ok (.return_, 1) := by decide +kernel
theorem dX2_walk_20 : decode cX2_walk 20 = .ok (.aload_n 0, 1) := by decide +kernel
theorem dX2_walk_21 : decode cX2_walk 21 = .ok (.getfield 24, 3) := by decide +kernel
theorem dX2_walk_24 : decode cX2_walk 24 = .ok (.getfield 74, 3) := by decide +kernel
theorem dX2_walk_27 : decode cX2_walk 27 = .ok (.getfield 85, 3) := by decide +kernel
theorem dX2_walk_30 : decode cX2_walk 30 = .ok (.iload_n 1, 1) := by decide +kernel
theorem dX2_walk_31 : decode cX2_walk 31 = .ok (.iaload, 1) := by decide +kernel
theorem dX2_walk_32 : decode cX2_walk 32 = .ok (.aload_n 0, 1) := by decide +kernel
theorem dX2_walk_33 : decode cX2_walk 33 = .ok (.getfield 24, 3) := by decide +kernel
theorem dX2_walk_36 : decode cX2_walk 36 = .ok (.getfield 64, 3) := by decide +kernel
theorem dX2_walk_39 : decode cX2_walk 39 = .ok (.getfield 71, 3) := by decide +kernel
theorem dX2_walk_42 : decode cX2_walk 42 = .ok (.iload 4, 2) := by decide +kernel
theorem dX2_walk_44 : decode cX2_walk 44 = .ok (.iaload, 1) := by decide +kernel
theorem dX2_walk_45 : decode cX2_walk 45 = .ok (.imul, 1) := by decide +kernel
theorem dX2_walk_46 : decode cX2_walk 46 = .ok (.iload_n 3, 1) := by decide +kernel
theorem dX2_walk_47 : decode cX2_walk 47 = .ok (.idiv, 1) := by decide +kernel
theorem dX2_walk_48 : decode cX2_walk 48 = .ok (.istore 5, 2) := by decide +kernel
theorem dX2_walk_50 : decode cX2_walk 50 = .ok (.aload_n 0, 1) := by decide +kernel
theorem dX2_walk_51 : decode cX2_walk 51 = .ok (.getfield 24, 3) := by decide +kernel
theorem dX2_walk_54 : decode cX2_walk 54 = .ok (.getfield 74, 3) := by decide +kernel
theorem dX2_walk_57 : decode cX2_walk 57 = .ok (.getfield 88, 3) := by decide +kernel
theorem dX2_walk_60 : decode cX2_walk 60 = .ok (.iload_n 1, 1) := by decide +kernel
theorem dX2_walk_61 : decode cX2_walk 61 = .ok (.iaload, 1) := by decide +kernel
theorem dX2_walk_62 : decode cX2_walk 62 = .ok (.istore 6, 2) := by decide +kernel
theorem dX2_walk_64 : decode cX2_walk 64 = .ok (.aload_n 0, 1) := by decide +kernel
theorem dX2_walk_65 : decode cX2_walk 65 = .ok (.getfield 18, 3) := by decide +kernel
theorem dX2_walk_68 : decode cX2_walk 68 = .ok (.iload 4, 2) := by decide +kernel
theorem dX2_walk_70 : decode cX2_walk 70 = .ok (.dup2, 1) := by decide +kernel
theorem dX2_walk_71 : decode cX2_walk 71 = .ok (.iaload, 1) := by decide +kernel
theorem dX2_walk_72 : decode cX2_walk 72 = .ok (.iload 5, 2) := by decide +kernel
theorem dX2_walk_74 : decode cX2_walk 74 = .ok (.iadd, 1) := by decide +kernel
theorem dX2_walk_75 : decode cX2_walk 75 = .ok (.iastore, 1) := by decide +kernel
theorem dX2_walk_76 : decode cX2_walk 76 = .ok (.iconst 0, 1) := by decide +kernel
theorem dX2_walk_77 : decode cX2_walk 77 = .ok (.istore 7, 2) := by decide +kernel
theorem dX2_walk_79 : decode cX2_walk 79 = .ok (.iload 7, 2) := by decide +kernel
theorem dX2_walk_81 : decode cX2_walk 81 = .ok (.bipush 12, 2) := by decide +kernel
theorem dX2_walk_83 : decode cX2_walk 83 = .ok (.if_icmp .ge 59, 3) := by decide +kernel
theorem dX2_walk_86 : decode cX2_walk 86 = .ok (.iload 6, 2) := by decide +kernel
theorem dX2_walk_88 : decode cX2_walk 88 = .ok (.iload 7, 2) := by decide +kernel
theorem dX2_walk_90 : decode cX2_walk 90 = .ok (.if_icmp .gt 9, 3) := by decide +kernel
theorem dX2_walk_93 : decode cX2_walk 93 = .ok (.iload 7, 2) := by decide +kernel
theorem dX2_walk_95 : decode cX2_walk 95 = .ok (.iload_n 2, 1) := by decide +kernel
theorem dX2_walk_96 : decode cX2_walk 96 = .ok (.if_icmp .lt 16, 3) := by decide +kernel
theorem dX2_walk_99 : decode cX2_walk 99 = .ok (.iload_n 2, 1) := by decide +kernel
theorem dX2_walk_100 : decode cX2_walk 100 = .ok (.iload 7, 2) := by decide +kernel
theorem dX2_walk_102 : decode cX2_walk 102 = .ok (.if_icmp .ge 14, 3) := by decide +kernel
theorem dX2_walk_105 : decode cX2_walk 105 = .ok (.iload 7, 2) := by decide +kernel
theorem dX2_walk_107 : decode cX2_walk 107 = .ok (.iload 6, 2) := by decide +kernel
theorem dX2_walk_109 : decode cX2_walk 109 = .ok (.if_icmp .gt 7, 3) := by decide +kernel
theorem dX2_walk_112 : decode cX2_walk 112 = .ok (.iconst 1, 1) := by decide +kernel
theorem dX2_walk_113 : decode cX2_walk 113 = .ok (.goto 4, 3) := by decide +kernel
theorem dX2_walk_116 : decode cX2_walk 116 = .ok (.iconst 0, 1) := by decide +kernel
theorem dX2_walk_117 : decode cX2_walk 117 = .ok (.istore 8, 2) := by decide +kernel
theorem dX2_walk_119 : decode cX2_walk 119 = .ok (.iload 8, 2) := by decide +kernel
theorem dX2_walk_121 : decode cX2_walk 121 = .ok (.ifCond .eq 15, 3) := by decide +kernel
theorem dX2_walk_124 : decode cX2_walk 124 = .ok (.aload_n 0, 1) := by decide +kernel
theorem dX2_walk_125 : decode cX2_walk 125 = .ok (.getfield 21, 3) := by decide +kernel
theorem dX2_walk_128 : decode cX2_walk 128 = .ok (.iload 7, 2) := by decide +kernel
theorem dX2_walk_130 : decode cX2_walk 130 = .ok (.dup2, 1) := by decide +kernel
theorem dX2_walk_131 : decode cX2_walk 131 = .ok (.iaload, 1) := by decide +kernel
theorem dX2_walk_132 : decode cX2_walk 132 = .ok (.iload 5, 2) := by decide +kernel
theorem dX2_walk_134 : decode cX2_walk 134 = .ok (.iadd, 1) := by decide +kernel
theorem dX2_walk_135 : decode cX2_walk 135 = .ok (.iastore, 1) := by decide +kernel
theorem dX2_walk_136 : decode cX2_walk 136 = .ok (.iinc 7 1, 3) := by decide +kernel
theorem dX2_walk_139 : decode cX2_walk 139 = .ok (.goto (-60), 3) := by decide +kernel
theorem dX2_walk_142 : decode cX2_walk 142 = .ok (.return_, 1) := by decide +kernel
theorem dX2_foretold_0 : decode cX2_foretold 0 = .ok (.aload_n 0, 1) := by decide +kernel
theorem dX2_foretold_1 : decode cX2_foretold 1 = .ok (.getfield 9, 3) := by decide +kernel
theorem dX2_foretold_4 : decode cX2_foretold 4 = .ok (.iload_n 1, 1) := by decide +kernel
theorem dX2_foretold_5 : decode cX2_foretold 5 = .ok (.iaload, 1) := by decide +kernel
theorem dX2_foretold_6 : decode cX2_foretold 6 = .ok (.istore_n 2, 1) := by decide +kernel
theorem dX2_foretold_7 : decode cX2_foretold 7 = .ok (.iload_n 2, 1) := by decide +kernel
theorem dX2_foretold_8 : decode cX2_foretold 8 = .ok (.ldc 32, 2) := by decide +kernel
theorem dX2_foretold_10 : decode cX2_foretold 10 = .ok (.if_icmp .ne 5, 3) := by decide +kernel
theorem dX2_foretold_13 : decode cX2_foretold 13 = .ok (.iconst 0, 1) := by decide +kernel
theorem dX2_foretold_14 : decode cX2_foretold 14 = .ok (.ireturn, 1) := by decide +kernel
theorem dX2_foretold_15 : decode cX2_foretold 15 = .ok (.aload_n 0, 1) := by decide +kernel
theorem dX2_foretold_16 : decode cX2_foretold 16 = .ok (.getfield 21, 3) := by decide +kernel
theorem dX2_foretold_19 : decode cX2_foretold 19 = .ok (.iload_n 2, 1) := by decide +kernel
theorem dX2_foretold_20 : decode cX2_foretold 20 = .ok (.iaload, 1) := by decide +kernel
theorem dX2_foretold_21 : decode cX2_foretold 21 = .ok (.aload_n 0, 1) := by decide +kernel
theorem dX2_foretold_22 : decode cX2_foretold 22 = .ok (.getfield 24, 3) := by decide +kernel
theorem dX2_foretold_25 : decode cX2_foretold 25 = .ok (.getfield 64, 3) := by decide +kernel
theorem dX2_foretold_28 : decode cX2_foretold 28 = .ok (.getfield 89, 3) := by decide +kernel
theorem dX2_foretold_31 : decode cX2_foretold 31 = .ok (.iload_n 1, 1) := by decide +kernel
theorem dX2_foretold_32 : decode cX2_foretold 32 = .ok (.iaload, 1) := by decide +kernel
theorem dX2_foretold_33 : decode cX2_foretold 33 = .ok (.imul, 1) := by decide +kernel
theorem dX2_foretold_34 : decode cX2_foretold 34 = .ok (.sipush 1000, 3) := by decide +kernel
theorem dX2_foretold_37 : decode cX2_foretold 37 = .ok (.idiv, 1) := by decide +kernel
theorem dX2_foretold_38 : decode cX2_foretold 38 = .ok (.istore_n 3, 1) := by decide +kernel
theorem dX2_foretold_39 : decode cX2_foretold 39 = .ok (.aload_n 0, 1) := by decide +kernel
theorem dX2_foretold_40 : decode cX2_foretold 40 = .ok (.getfield 18, 3) := by decide +kernel
theorem dX2_foretold_43 : decode cX2_foretold 43 = .ok (.iload_n 1, 1) := by decide +kernel
theorem dX2_foretold_44 : decode cX2_foretold 44 = .ok (.iaload, 1) := by decide +kernel
theorem dX2_foretold_45 : decode cX2_foretold 45 = .ok (.iload_n 3, 1) := by decide +kernel
theorem dX2_foretold_46 : decode cX2_foretold 46 = .ok (.iadd, 1) := by decide +kernel
theorem dX2_foretold_47 : decode cX2_foretold 47 = .ok (.aload_n 0, 1) := by decide +kernel
theorem dX2_foretold_48 : decode cX2_foretold 48 = .ok (.getfield 24, 3) := by decide +kernel
theorem dX2_foretold_51 : decode cX2_foretold 51 = .ok (.getfield 64, 3) := by decide +kernel
theorem dX2_foretold_54 : decode cX2_foretold 54 = .ok (.getfield 92, 3) := by decide +kernel
theorem dX2_foretold_57 : decode cX2_foretold 57 = .ok (.iload_n 1, 1) := by decide +kernel
theorem dX2_foretold_58 : decode cX2_foretold 58 = .ok (.iaload, 1) := by decide +kernel
theorem dX2_foretold_59 : decode cX2_foretold 59 = .ok (.imul, 1) := by decide +kernel
theorem dX2_foretold_60 : decode cX2_foretold 60 = .ok (.ireturn, 1) := by decide +kernel
theorem dX2_others_0 : decode cX2_others 0 = .ok (.aload_n 0, 1) := by decide +kernel
theorem dX2_others_1 : decode cX2_others 1 = .ok (.getfield 9, 3) := by decide +kernel
theorem dX2_others_4 : decode cX2_others 4 = .ok (.iload_n 1, 1) := by decide +kernel
theorem dX2_others_5 : decode cX2_others 5 = .ok (.iaload, 1) := by decide +kernel
theorem dX2_others_6 : decode cX2_others 6 = .ok (.ldc 32, 2) := by decide +kernel
theorem dX2_others_8 : decode cX2_others 8 = .ok (.if_icmp .ne 10, 3) := by decide +kernel
theorem dX2_others_11 : decode cX2_others 11 = .ok (.aload_n 0, 1) := by decide +kernel
theorem dX2_others_12 : decode cX2_others 12 = .ok (.getfield 61, 3) := by decide +kernel
theorem dX2_others_15 : decode cX2_others 15 = .ok (.goto 9, 3) := by decide +kernel
theorem dX2_others_18 : decode cX2_others 18 = .ok (.aload_n 0, 1) := by decide +kernel
theorem dX2_others_19 : decode cX2_others 19 = .ok (.getfield 61, 3) := by decide +kernel
theorem dX2_others_22 : decode cX2_others 22 = .ok (.iconst 1, 1) := by decide +kernel
theorem dX2_others_23 : decode cX2_others 23 = .ok (.isub, 1) := by decide +kernel
theorem dX2_others_24 : decode cX2_others 24 = .ok (.ireturn, 1) := by decide +kernel
theorem dX2_anchors_0 : decode cX2_anchors 0 = .ok (.iconst 0, 1) := by decide +kernel
theorem dX2_anchors_1 : decode cX2_anchors 1 = .ok (.istore_n 2, 1) := by decide +kernel
theorem dX2_anchors_2 : decode cX2_anchors 2 = .ok (.iconst 0, 1) := by decide +kernel
theorem dX2_anchors_3 : decode cX2_anchors 3 = .ok (.istore_n 3, 1) := by decide +kernel
theorem dX2_anchors_4 : decode cX2_anchors 4 = .ok (.iload_n 3, 1) := by decide +kernel
theorem dX2_anchors_5 : decode cX2_anchors 5 = .ok (.aload_n 0, 1) := by decide +kernel
theorem dX2_anchors_6 : decode cX2_anchors 6 = .ok (.getfield 24, 3) := by decide +kernel
theorem dX2_anchors_9 : decode cX2_anchors 9 = .ok (.getfield 64, 3) := by decide +kernel
theorem dX2_anchors_12 : decode cX2_anchors 12 = .ok (.getfield 68, 3) := by decide +kernel
theorem dX2_anchors_15 : decode cX2_anchors 15 = .ok (.if_icmp .ge 56, 3) := by decide +kernel
theorem dX2_anchors_18 : decode cX2_anchors 18 = .ok (.iload_n 3, 1) := by decide +kernel
theorem dX2_anchors_19 : decode cX2_anchors 19 = .ok (.iload_n 1, 1) := by decide +kernel
theorem dX2_anchors_20 : decode cX2_anchors 20 = .ok (.if_icmp .eq 18, 3) := by decide +kernel
theorem dX2_anchors_23 : decode cX2_anchors 23 = .ok (.aload_n 0, 1) := by decide +kernel
theorem dX2_anchors_24 : decode cX2_anchors 24 = .ok (.getfield 9, 3) := by decide +kernel
theorem dX2_anchors_27 : decode cX2_anchors 27 = .ok (.iload_n 3, 1) := by decide +kernel
theorem dX2_anchors_28 : decode cX2_anchors 28 = .ok (.iaload, 1) := by decide +kernel
theorem dX2_anchors_29 : decode cX2_anchors 29 = .ok (.ldc 32, 2) := by decide +kernel
theorem dX2_anchors_31 : decode cX2_anchors 31 = .ok (.if_icmp .eq 7, 3) := by decide +kernel
theorem dX2_anchors_34 : decode cX2_anchors 34 = .ok (.iconst 1, 1) := by decide +kernel
theorem dX2_anchors_35 : decode cX2_anchors 35 = .ok (.goto 4, 3) := by decide +kernel
theorem dX2_anchors_38 : decode cX2_anchors 38 = .ok (.iconst 0, 1) := by decide +kernel
theorem dX2_anchors_39 : decode cX2_anchors 39 = .ok (.istore 4, 2) := by decide +kernel
theorem dX2_anchors_41 : decode cX2_anchors 41 = .ok (.iload 4, 2) := by decide +kernel
theorem dX2_anchors_43 : decode cX2_anchors 43 = .ok (.ifCond .eq 22, 3) := by decide +kernel
theorem dX2_anchors_46 : decode cX2_anchors 46 = .ok (.aload_n 0, 1) := by decide +kernel
theorem dX2_anchors_47 : decode cX2_anchors 47 = .ok (.getfield 24, 3) := by decide +kernel
theorem dX2_anchors_50 : decode cX2_anchors 50 = .ok (.getfield 64, 3) := by decide +kernel
theorem dX2_anchors_53 : decode cX2_anchors 53 = .ok (.getfield 95, 3) := by decide +kernel
theorem dX2_anchors_56 : decode cX2_anchors 56 = .ok (.iload_n 3, 1) := by decide +kernel
theorem dX2_anchors_57 : decode cX2_anchors 57 = .ok (.iaload, 1) := by decide +kernel
theorem dX2_anchors_58 : decode cX2_anchors 58 = .ok (.iconst 1, 1) := by decide +kernel
theorem dX2_anchors_59 : decode cX2_anchors 59 = .ok (.if_icmp .ne 6, 3) := by decide +kernel
theorem dX2_anchors_62 : decode cX2_anchors 62 = .ok (.iinc 2 1, 3) := by decide +kernel
theorem dX2_anchors_65 : decode cX2_anchors 65 = .ok (.iinc 3 1, 3) := by decide +kernel
theorem dX2_anchors_68 : decode cX2_anchors 68 = .ok (.goto (-64), 3) := by decide +kernel
theorem dX2_anchors_71 : decode cX2_anchors 71 = .ok (.iload_n 2, 1) := by decide +kernel
theorem dX2_anchors_72 : decode cX2_anchors 72 = .ok (.ireturn, 1) := by decide +kernel
theorem dX2_beside_0 : decode cX2_beside 0 = .ok (.iconst 0, 1) := by decide +kernel
theorem dX2_beside_1 : decode cX2_beside 1 = .ok (.istore_n 2, 1) := by decide +kernel
theorem dX2_beside_2 : decode cX2_beside 2 = .ok (.iload_n 1, 1) := by decide +kernel
theorem dX2_beside_3 : decode cX2_beside 3 = .ok (.ifCond .le 19, 3) := by decide +kernel
theorem dX2_beside_6 : decode cX2_beside 6 = .ok (.aload_n 0, 1) := by decide +kernel
theorem dX2_beside_7 : decode cX2_beside 7 = .ok (.getfield 15, 3) := by decide +kernel
theorem dX2_beside_10 : decode cX2_beside 10 = .ok (.iload_n 1, 1) := by decide +kernel
theorem dX2_beside_11 : decode cX2_beside 11 = .ok (.iconst 1, 1) := by decide +kernel
theorem dX2_beside_12 : decode cX2_beside 12 = .ok (.isub, 1) := by decide +kernel
theorem dX2_beside_13 : decode cX2_beside 13 = .ok (.iaload, 1) := by decide +kernel
theorem dX2_beside_14 : decode cX2_beside 14 = .ok (.ldc 32, 2) := by decide +kernel
theorem dX2_beside_16 : decode cX2_beside 16 = .ok (.if_icmp .eq 6, 3) := by decide +kernel
theorem dX2_beside_19 : decode cX2_beside 19 = .ok (.iinc 2 1, 3) := by decide +kernel
theorem dX2_beside_22 : decode cX2_beside 22 = .ok (.iload_n 1, 1) := by decide +kernel
theorem dX2_beside_23 : decode cX2_beside 23 = .ok (.bipush 11, 2) := by decide +kernel
theorem dX2_beside_25 : decode cX2_beside 25 = .ok (.if_icmp .ge 19, 3) := by decide +kernel
theorem dX2_beside_28 : decode cX2_beside 28 = .ok (.aload_n 0, 1) := by decide +kernel
theorem dX2_beside_29 : decode cX2_beside 29 = .ok (.getfield 15, 3) := by decide +kernel
theorem dX2_beside_32 : decode cX2_beside 32 = .ok (.iload_n 1, 1) := by decide +kernel
theorem dX2_beside_33 : decode cX2_beside 33 = .ok (.iconst 1, 1) := by decide +kernel
theorem dX2_beside_34 : decode cX2_beside 34 = .ok (.iadd, 1) := by decide +kernel
theorem dX2_beside_35 : decode cX2_beside 35 = .ok (.iaload, 1) := by decide +kernel
theorem dX2_beside_36 : decode cX2_beside 36 = .ok (.ldc 32, 2) := by decide +kernel
theorem dX2_beside_38 : decode cX2_beside 38 = .ok (.if_icmp .eq 6, 3) := by decide +kernel
theorem dX2_beside_41 : decode cX2_beside 41 = .ok (.iinc 2 1, 3) := by decide +kernel
theorem dX2_beside_44 : decode cX2_beside 44 = .ok (.iload_n 2, 1) := by decide +kernel
theorem dX2_beside_45 : decode cX2_beside 45 = .ok (.ireturn, 1) := by decide +kernel
theorem dX2_rivalNear_0 : decode cX2_rivalNear 0 = .ok (.aload_n 0, 1) := by decide +kernel
theorem dX2_rivalNear_1 : decode cX2_rivalNear 1 = .ok (.getfield 9, 3) := by decide +kernel
theorem dX2_rivalNear_4 : decode cX2_rivalNear 4 = .ok (.iload_n 1, 1) := by decide +kernel
theorem dX2_rivalNear_5 : decode cX2_rivalNear 5 = .ok (.iaload, 1) := by decide +kernel
theorem dX2_rivalNear_6 : decode cX2_rivalNear 6 = .ok (.istore_n 2, 1) := by decide +kernel
theorem dX2_rivalNear_7 : decode cX2_rivalNear 7 = .ok (.iconst 0, 1) := by decide +kernel
theorem dX2_rivalNear_8 : decode cX2_rivalNear 8 = .ok (.istore_n 3, 1) := by decide +kernel
theorem dX2_rivalNear_9 : decode cX2_rivalNear 9 = .ok (.iload_n 3, 1) := by decide +kernel
theorem dX2_rivalNear_10 : decode cX2_rivalNear 10 = .ok (.bipush 12, 2) := by decide +kernel
theorem dX2_rivalNear_12 : decode cX2_rivalNear 12 = .ok (.if_icmp .ge 93, 3) := by decide +kernel
theorem dX2_rivalNear_15 : decode cX2_rivalNear 15 = .ok (.aload_n 0, 1) := by decide +kernel
theorem dX2_rivalNear_16 : decode cX2_rivalNear 16 = .ok (.getfield 15, 3) := by decide +kernel
theorem dX2_rivalNear_19 : decode cX2_rivalNear 19 = .ok (.iload_n 3, 1) := by decide +kernel
theorem dX2_rivalNear_20 : decode cX2_rivalNear 20 = .ok (.iaload, 1) := by decide +kernel
theorem dX2_rivalNear_21 : decode cX2_rivalNear 21 = .ok (.istore 4, 2) := by decide +kernel
theorem dX2_rivalNear_23 : decode cX2_rivalNear 23 = .ok (.iload 4, 2) := by decide +kernel
theorem dX2_rivalNear_25 : decode cX2_rivalNear 25 = .ok (.ldc 32, 2) := by decide +kernel
theorem dX2_rivalNear_27 : decode cX2_rivalNear 27 = .ok (.if_icmp .eq 41, 3) := by decide +kernel
theorem dX2_rivalNear_30 : decode cX2_rivalNear 30 = .ok (.iload 4, 2) := by decide +kernel
theorem dX2_rivalNear_32 : decode cX2_rivalNear 32 = .ok (.iload_n 1, 1) := by decide +kernel
theorem dX2_rivalNear_33 : decode cX2_rivalNear 33 = .ok (.if_icmp .eq 35, 3) := by decide +kernel
theorem dX2_rivalNear_36 : decode cX2_rivalNear 36 = .ok (.aload_n 0, 1) := by decide +kernel
theorem dX2_rivalNear_37 : decode cX2_rivalNear 37 = .ok (.getfield 24, 3) := by decide +kernel
theorem dX2_rivalNear_40 : decode cX2_rivalNear 40 = .ok (.getfield 64, 3) := by decide +kernel
theorem dX2_rivalNear_43 : decode cX2_rivalNear 43 = .ok (.getfield 98, 3) := by decide +kernel
theorem dX2_rivalNear_46 : decode cX2_rivalNear 46 = .ok (.iload 4, 2) := by decide +kernel
theorem dX2_rivalNear_48 : decode cX2_rivalNear 48 = .ok (.iaload, 1) := by decide +kernel
theorem dX2_rivalNear_49 : decode cX2_rivalNear 49 = .ok (.aload_n 0, 1) := by decide +kernel
theorem dX2_rivalNear_50 : decode cX2_rivalNear 50 = .ok (.getfield 24, 3) := by decide +kernel
theorem dX2_rivalNear_53 : decode cX2_rivalNear 53 = .ok (.getfield 64, 3) := by decide +kernel
theorem dX2_rivalNear_56 : decode cX2_rivalNear 56 = .ok (.getfield 98, 3) := by decide +kernel
theorem dX2_rivalNear_59 : decode cX2_rivalNear 59 = .ok (.iload_n 1, 1) := by decide +kernel
theorem dX2_rivalNear_60 : decode cX2_rivalNear 60 = .ok (.iaload, 1) := by decide +kernel
theorem dX2_rivalNear_61 : decode cX2_rivalNear 61 = .ok (.if_icmp .ne 7, 3) := by decide +kernel
theorem dX2_rivalNear_64 : decode cX2_rivalNear 64 = .ok (.iconst 1, 1) := by decide +kernel
theorem dX2_rivalNear_65 : decode cX2_rivalNear 65 = .ok (.goto 4, 3) := by decide +kernel
theorem dX2_rivalNear_68 : decode cX2_rivalNear 68 = .ok (.iconst 0, 1) := by decide +kernel
theorem dX2_rivalNear_69 : decode cX2_rivalNear 69 = .ok (.istore 5, 2) := by decide +kernel
theorem dX2_rivalNear_71 : decode cX2_rivalNear 71 = .ok (.iload 5, 2) := by decide +kernel
theorem dX2_rivalNear_73 : decode cX2_rivalNear 73 = .ok (.ifCond .eq 26, 3) := by decide +kernel
theorem dX2_rivalNear_76 : decode cX2_rivalNear 76 = .ok (.iload_n 3, 1) := by decide +kernel
theorem dX2_rivalNear_77 : decode cX2_rivalNear 77 = .ok (.iload_n 2, 1) := by decide +kernel
theorem dX2_rivalNear_78 : decode cX2_rivalNear 78 = .ok (.isub, 1) := by decide +kernel
theorem dX2_rivalNear_79 : decode cX2_rivalNear 79 = .ok (.invokestatic 101, 3) := by decide +kernel
theorem dX2_rivalNear_82 : decode cX2_rivalNear 82 = .ok (.aload_n 0, 1) := by decide +kernel
theorem dX2_rivalNear_83 : decode cX2_rivalNear 83 = .ok (.getfield 24, 3) := by decide +kernel
theorem dX2_rivalNear_86 : decode cX2_rivalNear 86 = .ok (.getfield 64, 3) := by decide +kernel
theorem dX2_rivalNear_89 : decode cX2_rivalNear 89 = .ok (.getfield 107, 3) := by decide +kernel
theorem dX2_rivalNear_92 : decode cX2_rivalNear 92 = .ok (.iload_n 1, 1) := by decide +kernel
theorem dX2_rivalNear_93 : decode cX2_rivalNear 93 = .ok (.iaload, 1) := by decide +kernel
theorem dX2_rivalNear_94 : decode cX2_rivalNear 94 = .ok (.if_icmp .gt 5, 3) := by decide +kernel
theorem dX2_rivalNear_97 : decode cX2_rivalNear 97 = .ok (.iconst 1, 1) := by decide +kernel
theorem dX2_rivalNear_98 : decode cX2_rivalNear 98 = .ok (.ireturn, 1) := by decide +kernel
theorem dX2_rivalNear_99 : decode cX2_rivalNear 99 = .ok (.iinc 3 1, 3) := by decide +kernel
theorem dX2_rivalNear_102 : decode cX2_rivalNear 102 = .ok (.goto (-93), 3) := by decide +kernel
theorem dX2_rivalNear_105 : decode cX2_rivalNear 105 = .ok (.iconst 0, 1) := by decide +kernel
theorem dX2_rivalNear_106 : decode cX2_rivalNear 106 = .ok (.ireturn, 1) := by decide +kernel
theorem dX2_breaks_0 : decode cX2_breaks 0 = .ok (.aload_n 0, 1) := by decide +kernel
theorem dX2_breaks_1 : decode cX2_breaks 1 = .ok (.getfield 9, 3) := by decide +kernel
theorem dX2_breaks_4 : decode cX2_breaks 4 = .ok (.iload_n 1, 1) := by decide +kernel
theorem dX2_breaks_5 : decode cX2_breaks 5 = .ok (.iaload, 1) := by decide +kernel
theorem dX2_breaks_6 : decode cX2_breaks 6 = .ok (.ldc 32, 2) := by decide +kernel
theorem dX2_breaks_8 : decode cX2_breaks 8 = .ok (.if_icmp .eq 14, 3) := by decide +kernel
theorem dX2_breaks_11 : decode cX2_breaks 11 = .ok (.aload_n 0, 1) := by decide +kernel
theorem dX2_breaks_12 : decode cX2_breaks 12 = .ok (.getfield 9, 3) := by decide +kernel
theorem dX2_breaks_15 : decode cX2_breaks 15 = .ok (.iload_n 2, 1) := by decide +kernel
theorem dX2_breaks_16 : decode cX2_breaks 16 = .ok (.iaload, 1) := by decide +kernel
theorem dX2_breaks_17 : decode cX2_breaks 17 = .ok (.ldc 32, 2) := by decide +kernel
theorem dX2_breaks_19 : decode cX2_breaks 19 = .ok (.if_icmp .ne 5, 3) := by decide +kernel
theorem dX2_breaks_22 : decode cX2_breaks 22 = .ok (.iconst 0, 1) := by decide +kernel
theorem dX2_breaks_23 : decode cX2_breaks 23 = .ok (.ireturn, 1) := by decide +kernel
theorem dX2_breaks_24 : decode cX2_breaks 24 = .ok (.aload_n 0, 1) := by decide +kernel
theorem dX2_breaks_25 : decode cX2_breaks 25 = .ok (.getfield 9, 3) := by decide +kernel
theorem dX2_breaks_28 : decode cX2_breaks 28 = .ok (.iload_n 1, 1) := by decide +kernel
theorem dX2_breaks_29 : decode cX2_breaks 29 = .ok (.iaload, 1) := by decide +kernel
theorem dX2_breaks_30 : decode cX2_breaks 30 = .ok (.aload_n 0, 1) := by decide +kernel
theorem dX2_breaks_31 : decode cX2_breaks 31 = .ok (.getfield 9, 3) := by decide +kernel
theorem dX2_breaks_34 : decode cX2_breaks 34 = .ok (.iload_n 2, 1) := by decide +kernel
theorem dX2_breaks_35 : decode cX2_breaks 35 = .ok (.iaload, 1) := by decide +kernel
theorem dX2_breaks_36 : decode cX2_breaks 36 = .ok (.isub, 1) := by decide +kernel
theorem dX2_breaks_37 : decode cX2_breaks 37 = .ok (.invokestatic 101, 3) := by decide +kernel
theorem dX2_breaks_40 : decode cX2_breaks 40 = .ok (.istore_n 3, 1) := by decide +kernel
theorem dX2_breaks_41 : decode cX2_breaks 41 = .ok (.aload_n 0, 1) := by decide +kernel
theorem dX2_breaks_42 : decode cX2_breaks 42 = .ok (.getfield 24, 3) := by decide +kernel
theorem dX2_breaks_45 : decode cX2_breaks 45 = .ok (.getfield 64, 3) := by decide +kernel
theorem dX2_breaks_48 : decode cX2_breaks 48 = .ok (.iload_n 1, 1) := by decide +kernel
theorem dX2_breaks_49 : decode cX2_breaks 49 = .ok (.iload_n 2, 1) := by decide +kernel
theorem dX2_breaks_50 : decode cX2_breaks 50 = .ok (.iload_n 3, 1) := by decide +kernel
theorem dX2_breaks_51 : decode cX2_breaks 51 = .ok (.invokevirtual 110, 3) := by decide +kernel
theorem dX2_breaks_54 : decode cX2_breaks 54 = .ok (.ireturn, 1) := by decide +kernel
theorem dX2_chargedFeet_0 : decode cX2_chargedFeet 0 = .ok (.aload_n 0, 1) := by decide +kernel
theorem dX2_chargedFeet_1 : decode cX2_chargedFeet 1 = .ok (.getfield 15, 3) := by decide +kernel
theorem dX2_chargedFeet_4 : decode cX2_chargedFeet 4 = .ok (.iload_n 1, 1) := by decide +kernel
theorem dX2_chargedFeet_5 : decode cX2_chargedFeet 5 = .ok (.iaload, 1) := by decide +kernel
theorem dX2_chargedFeet_6 : decode cX2_chargedFeet 6 = .ok (.istore_n 2, 1) := by decide +kernel
theorem dX2_chargedFeet_7 : decode cX2_chargedFeet 7 = .ok (.iload_n 2, 1) := by decide +kernel
theorem dX2_chargedFeet_8 : decode cX2_chargedFeet 8 = .ok (.ldc 32, 2) := by decide +kernel
theorem dX2_chargedFeet_10 : decode cX2_chargedFeet 10 = .ok (.if_icmp .eq 19, 3) := by decide +kernel
theorem dX2_chargedFeet_13 : decode cX2_chargedFeet 13 = .ok (.aload_n 0, 1) := by decide +kernel
theorem dX2_chargedFeet_14 : decode cX2_chargedFeet 14 = .ok (.getfield 24, 3) := by decide +kernel
theorem dX2_chargedFeet_17 : decode cX2_chargedFeet 17 = .ok (.getfield 64, 3) := by decide +kernel
theorem dX2_chargedFeet_20 : decode cX2_chargedFeet 20 = .ok (.getfield 95, 3) := by decide +kernel
theorem dX2_chargedFeet_23 : decode cX2_chargedFeet 23 = .ok (.iload_n 2, 1) := by decide +kernel
theorem dX2_chargedFeet_24 : decode cX2_chargedFeet 24 = .ok (.iaload, 1) := by decide +kernel
theorem dX2_chargedFeet_25 : decode cX2_chargedFeet 25 = .ok (.iconst 3, 1) := by decide +kernel
theorem dX2_chargedFeet_26 : decode cX2_chargedFeet 26 = .ok (.if_icmp .ne 5, 3) := by decide +kernel
theorem dX2_chargedFeet_29 : decode cX2_chargedFeet 29 = .ok (.iconst 0, 1) := by decide +kernel
theorem dX2_chargedFeet_30 : decode cX2_chargedFeet 30 = .ok (.ireturn, 1) := by decide +kernel
theorem dX2_chargedFeet_31 : decode cX2_chargedFeet 31 = .ok (.aload_n 0, 1) := by decide +kernel
theorem dX2_chargedFeet_32 : decode cX2_chargedFeet 32 = .ok (.getfield 24, 3) := by decide +kernel
theorem dX2_chargedFeet_35 : decode cX2_chargedFeet 35 = .ok (.getfield 114, 3) := by decide +kernel
theorem dX2_chargedFeet_38 : decode cX2_chargedFeet 38 = .ok (.iload_n 1, 1) := by decide +kernel
theorem dX2_chargedFeet_39 : decode cX2_chargedFeet 39 = .ok (.iaload, 1) := by decide +kernel
theorem dX2_chargedFeet_40 : decode cX2_chargedFeet 40 = .ok (.ireturn, 1) := by decide +kernel
theorem dX3_has_0 : decode cX3_has 0 = .ok (.iload_n 1, 1) := by decide +kernel
theorem dX3_has_1 : decode cX3_has 1 = .ok (.ifCond .lt 15, 3) := by decide +kernel
theorem dX3_has_4 : decode cX3_has 4 = .ok (.iload_n 1, 1) := by decide +kernel
theorem dX3_has_5 : decode cX3_has 5 = .ok (.aload_n 0, 1) := by decide +kernel
theorem dX3_has_6 : decode cX3_has 6 = .ok (.getfield 18, 3) := by decide +kernel
theorem dX3_has_9 : decode cX3_has 9 = .ok (.if_icmp .ge 7, 3) := by decide +kernel
theorem dX3_has_12 : decode cX3_has 12 = .ok (.iconst 1, 1) := by decide +kernel
theorem dX3_has_13 : decode cX3_has 13 = .ok (.goto 4, 3) := by decide +kernel
theorem dX3_has_16 : decode cX3_has 16 = .ok (.iconst 0, 1) := by decide +kernel
theorem dX3_has_17 : decode cX3_has 17 = .ok (.ireturn, 1) := by decide +kernel
theorem dX3_add_0 : decode cX3_add 0 = .ok (.aload_n 0, 1) := by decide +kernel
theorem dX3_add_1 : decode cX3_add 1 = .ok (.getfield 9, 3) := by decide +kernel
theorem dX3_add_4 : decode cX3_add 4 = .ok (.aload_n 0, 1) := by decide +kernel
theorem dX3_add_5 : decode cX3_add 5 = .ok (.getfield 18, 3) := by decide +kernel
theorem dX3_add_8 : decode cX3_add 8 = .ok (.iload_n 1, 1) := by decide +kernel
theorem dX3_add_9 : decode cX3_add 9 = .ok (.iastore, 1) := by decide +kernel
theorem dX3_add_10 : decode cX3_add 10 = .ok (.aload_n 0, 1) := by decide +kernel
theorem dX3_add_11 : decode cX3_add 11 = .ok (.getfield 15, 3) := by decide +kernel
theorem dX3_add_14 : decode cX3_add 14 = .ok (.aload_n 0, 1) := by decide +kernel
theorem dX3_add_15 : decode cX3_add 15 = .ok (.getfield 18, 3) := by decide +kernel
theorem dX3_add_18 : decode cX3_add 18 = .ok (.iload_n 2, 1) := by decide +kernel
theorem dX3_add_19 : decode cX3_add 19 = .ok (.iastore, 1) := by decide +kernel
theorem dX3_add_20 : decode cX3_add 20 = .ok (.aload_n 0, 1) := by decide +kernel
theorem dX3_add_21 : decode cX3_add 21 = .ok (.dup, 1) := by decide +kernel
theorem dX3_add_22 : decode cX3_add 22 = .ok (.getfield 18, 3) := by decide +kernel
theorem dX3_add_25 : decode cX3_add 25 = .ok (.iconst 1, 1) := by decide +kernel
theorem dX3_add_26 : decode cX3_add 26 = .ok (.iadd, 1) := by decide +kernel
theorem dX3_add_27 : decode cX3_add 27 = .ok (.putfield 18, 3) := by decide +kernel
theorem dX3_add_30 : decode cX3_add 30 = .ok (.aload_n 0, 1) := by decide +kernel
theorem dX3_add_31 : decode cX3_add 31 = .ok (.getfield 18, 3) := by decide +kernel
theorem dX3_add_34 : decode cX3_add 34 = .ok (.iconst 1, 1) := by decide +kernel
theorem dX3_add_35 : decode cX3_add 35 = .ok (.isub, 1) := by decide +kernel
theorem dX3_add_36 : decode cX3_add 36 = .ok (.ireturn, 1) := by decide +kernel
theorem dX3_become_0 : decode cX3_become 0 = .ok (.aload_n 1, 1) := by decide +kernel
theorem dX3_become_1 : decode cX3_become 1 = .ok (.getfield 9, 3) := by decide +kernel
theorem dX3_become_4 : decode cX3_become 4 = .ok (.iconst 0, 1) := by decide +kernel
theorem dX3_become_5 : decode cX3_become 5 = .ok (.aload_n 0, 1) := by decide +kernel
theorem dX3_become_6 : decode cX3_become 6 = .ok (.getfield 9, 3) := by decide +kernel
theorem dX3_become_9 : decode cX3_become 9 = .ok (.iconst 0, 1) := by decide +kernel
theorem dX3_become_10 : decode cX3_become 10 = .ok (.iconst 4, 1) := by decide +kernel
theorem dX3_become_11 : decode cX3_become 11 = .ok (.invokestatic 22, 3) := by decide +kernel
theorem dX3_become_14 : decode cX3_become 14 = .ok (.aload_n 1, 1) := by decide +kernel
theorem dX3_become_15 : decode cX3_become 15 = .ok (.getfield 15, 3) := by decide +kernel
theorem dX3_become_18 : decode cX3_become 18 = .ok (.iconst 0, 1) := by decide +kernel
theorem dX3_become_19 : decode cX3_become 19 = .ok (.aload_n 0, 1) := by decide +kernel
theorem dX3_become_20 : decode cX3_become 20 = .ok (.getfield 15, 3) := by decide +kernel
theorem dX3_become_23 : decode cX3_become 23 = .ok (.iconst 0, 1) := by decide +kernel
theorem dX3_become_24 : decode cX3_become 24 = .ok (.iconst 4, 1) := by decide +kernel
theorem dX3_become_25 : decode cX3_become 25 = .ok (.invokestatic 22, 3) := by decide +kernel
theorem dX3_become_28 : decode cX3_become 28 = .ok (.aload_n 0, 1) := by decide +kernel
theorem dX3_become_29 : decode cX3_become 29 = .ok (.aload_n 1, 1) := by decide +kernel
theorem dX3_become_30 : decode cX3_become 30 = .ok (.getfield 18, 3) := by decide +kernel
theorem dX3_become_33 : decode cX3_become 33 = .ok (.putfield 18, 3) := by decide +kernel
theorem dX3_become_36 : decode cX3_become 36 = .ok (.return_, 1) := by decide +kernel
theorem dX4_store_0 : decode cX4_store 0 = .ok (.aload_n 2, 1) := by decide +kernel
theorem dX4_store_1 : decode cX4_store 1 = .ok (.getfield 23, 3) := by decide +kernel
theorem dX4_store_4 : decode cX4_store 4 = .ok (.iconst 0, 1) := by decide +kernel
theorem dX4_store_5 : decode cX4_store 5 = .ok (.aload_n 0, 1) := by decide +kernel
theorem dX4_store_6 : decode cX4_store 6 = .ok (.getfield 17, 3) := by decide +kernel
theorem dX4_store_9 : decode cX4_store 9 = .ok (.iload_n 1, 1) := by decide +kernel
theorem dX4_store_10 : decode cX4_store 10 = .ok (.aaload, 1) := by decide +kernel
theorem dX4_store_11 : decode cX4_store 11 = .ok (.iconst 0, 1) := by decide +kernel
theorem dX4_store_12 : decode cX4_store 12 = .ok (.sipush 132, 3) := by decide +kernel
theorem dX4_store_15 : decode cX4_store 15 = .ok (.invokestatic 28, 3) := by decide +kernel
theorem dX4_store_18 : decode cX4_store 18 = .ok (.aload_n 2, 1) := by decide +kernel
theorem dX4_store_19 : decode cX4_store 19 = .ok (.getfield 34, 3) := by decide +kernel
theorem dX4_store_22 : decode cX4_store 22 = .ok (.iconst 0, 1) := by decide +kernel
theorem dX4_store_23 : decode cX4_store 23 = .ok (.aload_n 0, 1) := by decide +kernel
theorem dX4_store_24 : decode cX4_store 24 = .ok (.getfield 20, 3) := by decide +kernel
theorem dX4_store_27 : decode cX4_store 27 = .ok (.iload_n 1, 1) := by decide +kernel
theorem dX4_store_28 : decode cX4_store 28 = .ok (.aaload, 1) := by decide +kernel
theorem dX4_store_29 : decode cX4_store 29 = .ok (.iconst 0, 1) := by decide +kernel
theorem dX4_store_30 : decode cX4_store 30 = .ok (.iconst 3, 1) := by decide +kernel
theorem dX4_store_31 : decode cX4_store 31 = .ok (.invokestatic 28, 3) := by decide +kernel
theorem dX4_store_34 : decode cX4_store 34 = .ok (.aload_n 0, 1) := by decide +kernel
theorem dX4_store_35 : decode cX4_store 35 = .ok (.getfield 9, 3) := by decide +kernel
theorem dX4_store_38 : decode cX4_store 38 = .ok (.iload_n 1, 1) := by decide +kernel
theorem dX4_store_39 : decode cX4_store 39 = .ok (.iconst 1, 1) := by decide +kernel
theorem dX4_store_40 : decode cX4_store 40 = .ok (.bastore, 1) := by decide +kernel
theorem dX4_store_41 : decode cX4_store 41 = .ok (.return_, 1) := by decide +kernel
theorem dX4_countHeld_0 : decode cX4_countHeld 0 = .ok (.iconst 0, 1) := by decide +kernel
theorem dX4_countHeld_1 : decode cX4_countHeld 1 = .ok (.istore_n 1, 1) := by decide +kernel
theorem dX4_countHeld_2 : decode cX4_countHeld 2 = .ok (.iconst 0, 1) := by decide +kernel
theorem dX4_countHeld_3 : decode cX4_countHeld 3 = .ok (.istore_n 2, 1) := by decide +kernel
theorem dX4_countHeld_4 : decode cX4_countHeld 4 = .ok (.iload_n 2, 1) := by decide +kernel
theorem dX4_countHeld_5 : decode cX4_countHeld 5 = .ok (.bipush 12, 2) := by decide +kernel
theorem dX4_countHeld_7 : decode cX4_countHeld 7 = .ok (.if_icmp .ge 21, 3) := by decide +kernel
theorem dX4_countHeld_10 : decode cX4_countHeld 10 = .ok (.aload_n 0, 1) := by decide +kernel
theorem dX4_countHeld_11 : decode cX4_countHeld 11 = .ok (.getfield 9, 3) := by decide +kernel
theorem dX4_countHeld_14 : decode cX4_countHeld 14 = .ok (.iload_n 2, 1) := by decide +kernel
theorem dX4_countHeld_15 : decode cX4_countHeld 15 = .ok (.baload, 1) := by decide +kernel
theorem dX4_countHeld_16 : decode cX4_countHeld 16 = .ok (.ifCond .eq 6, 3) := by decide +kernel
theorem dX4_countHeld_19 : decode cX4_countHeld 19 = .ok (.iinc 1 1, 3) := by decide +kernel
theorem dX4_countHeld_22 : decode cX4_countHeld 22 = .ok (.iinc 2 1, 3) := by decide +kernel
theorem dX4_countHeld_25 : decode cX4_countHeld 25 = .ok (.goto (-21), 3) := by decide +kernel
theorem dX4_countHeld_28 : decode cX4_countHeld 28 = .ok (.iload_n 1, 1) := by decide +kernel
theorem dX4_countHeld_29 : decode cX4_countHeld 29 = .ok (.ireturn, 1) := by decide +kernel
theorem dX4_become_0 : decode cX4_become 0 = .ok (.iconst 0, 1) := by decide +kernel
theorem dX4_become_1 : decode cX4_become 1 = .ok (.istore_n 2, 1) := by decide +kernel
theorem dX4_become_2 : decode cX4_become 2 = .ok (.iload_n 2, 1) := by decide +kernel
theorem dX4_become_3 : decode cX4_become 3 = .ok (.bipush 12, 2) := by decide +kernel
theorem dX4_become_5 : decode cX4_become 5 = .ok (.if_icmp .ge 59, 3) := by decide +kernel
theorem dX4_become_8 : decode cX4_become 8 = .ok (.aload_n 0, 1) := by decide +kernel
theorem dX4_become_9 : decode cX4_become 9 = .ok (.getfield 9, 3) := by decide +kernel
theorem dX4_become_12 : decode cX4_become 12 = .ok (.iload_n 2, 1) := by decide +kernel
theorem dX4_become_13 : decode cX4_become 13 = .ok (.aload_n 1, 1) := by decide +kernel
theorem dX4_become_14 : decode cX4_become 14 = .ok (.getfield 9, 3) := by decide +kernel
theorem dX4_become_17 : decode cX4_become 17 = .ok (.iload_n 2, 1) := by decide +kernel
theorem dX4_become_18 : decode cX4_become 18 = .ok (.baload, 1) := by decide +kernel
theorem dX4_become_19 : decode cX4_become 19 = .ok (.bastore, 1) := by decide +kernel
theorem dX4_become_20 : decode cX4_become 20 = .ok (.aload_n 1, 1) := by decide +kernel
theorem dX4_become_21 : decode cX4_become 21 = .ok (.getfield 17, 3) := by decide +kernel
theorem dX4_become_24 : decode cX4_become 24 = .ok (.iload_n 2, 1) := by decide +kernel
theorem dX4_become_25 : decode cX4_become 25 = .ok (.aaload, 1) := by decide +kernel
theorem dX4_become_26 : decode cX4_become 26 = .ok (.iconst 0, 1) := by decide +kernel
theorem dX4_become_27 : decode cX4_become 27 = .ok (.aload_n 0, 1) := by decide +kernel
theorem dX4_become_28 : decode cX4_become 28 = .ok (.getfield 17, 3) := by decide +kernel
theorem dX4_become_31 : decode cX4_become 31 = .ok (.iload_n 2, 1) := by decide +kernel
theorem dX4_become_32 : decode cX4_become 32 = .ok (.aaload, 1) := by decide +kernel
theorem dX4_become_33 : decode cX4_become 33 = .ok (.iconst 0, 1) := by decide +kernel
theorem dX4_become_34 : decode cX4_become 34 = .ok (.sipush 132, 3) := by decide +kernel
theorem dX4_become_37 : decode cX4_become 37 = .ok (.invokestatic 28, 3) := by decide +kernel
theorem dX4_become_40 : decode cX4_become 40 = .ok (.aload_n 1, 1) := by decide +kernel
theorem dX4_become_41 : decode cX4_become 41 = .ok (.getfield 20, 3) := by decide +kernel
theorem dX4_become_44 : decode cX4_become 44 = .ok (.iload_n 2, 1) := by decide +kernel
theorem dX4_become_45 : decode cX4_become 45 = .ok (.aaload, 1) := by decide +kernel
theorem dX4_become_46 : decode cX4_become 46 = .ok (.iconst 0, 1) := by decide +kernel
theorem dX4_become_47 : decode cX4_become 47 = .ok (.aload_n 0, 1) := by decide +kernel
theorem dX4_become_48 : decode cX4_become 48 = .ok (.getfield 20, 3) := by decide +kernel
theorem dX4_become_51 : decode cX4_become 51 = .ok (.iload_n 2, 1) := by decide +kernel
theorem dX4_become_52 : decode cX4_become 52 = .ok (.aaload, 1) := by decide +kernel
theorem dX4_become_53 : decode cX4_become 53 = .ok (.iconst 0, 1) := by decide +kernel
theorem dX4_become_54 : decode cX4_become 54 = .ok (.iconst 3, 1) := by decide +kernel
theorem dX4_become_55 : decode cX4_become 55 = .ok (.invokestatic 28, 3) := by decide +kernel
theorem dX4_become_58 : decode cX4_become 58 = .ok (.iinc 2 1, 3) := by decide +kernel
theorem dX4_become_61 : decode cX4_become 61 = .ok (.goto (-59), 3) := by decide +kernel
theorem dX4_become_64 : decode cX4_become 64 = .ok (.return_, 1) := by decide +kernel
theorem dX5_has_0 : decode cX5_has 0 = .ok (.iload_n 1, 1) := by decide +kernel
theorem dX5_has_1 : decode cX5_has 1 = .ok (.ifCond .lt 15, 3) := by decide +kernel
theorem dX5_has_4 : decode cX5_has 4 = .ok (.iload_n 1, 1) := by decide +kernel
theorem dX5_has_5 : decode cX5_has 5 = .ok (.aload_n 0, 1) := by decide +kernel
theorem dX5_has_6 : decode cX5_has 6 = .ok (.getfield 27, 3) := by decide +kernel
theorem dX5_has_9 : decode cX5_has 9 = .ok (.if_icmp .ge 7, 3) := by decide +kernel
theorem dX5_has_12 : decode cX5_has 12 = .ok (.iconst 1, 1) := by decide +kernel
theorem dX5_has_13 : decode cX5_has 13 = .ok (.goto 4, 3) := by decide +kernel
theorem dX5_has_16 : decode cX5_has 16 = .ok (.iconst 0, 1) := by decide +kernel
theorem dX5_has_17 : decode cX5_has 17 = .ok (.ireturn, 1) := by decide +kernel
theorem dX5_add_0 : decode cX5_add 0 = .ok (.aload_n 0, 1) := by decide +kernel
theorem dX5_add_1 : decode cX5_add 1 = .ok (.getfield 9, 3) := by decide +kernel
theorem dX5_add_4 : decode cX5_add 4 = .ok (.aload_n 0, 1) := by decide +kernel
theorem dX5_add_5 : decode cX5_add 5 = .ok (.getfield 27, 3) := by decide +kernel
theorem dX5_add_8 : decode cX5_add 8 = .ok (.iload_n 1, 1) := by decide +kernel
theorem dX5_add_9 : decode cX5_add 9 = .ok (.iastore, 1) := by decide +kernel
theorem dX5_add_10 : decode cX5_add 10 = .ok (.aload_n 0, 1) := by decide +kernel
theorem dX5_add_11 : decode cX5_add 11 = .ok (.getfield 15, 3) := by decide +kernel
theorem dX5_add_14 : decode cX5_add 14 = .ok (.aload_n 0, 1) := by decide +kernel
theorem dX5_add_15 : decode cX5_add 15 = .ok (.getfield 27, 3) := by decide +kernel
theorem dX5_add_18 : decode cX5_add 18 = .ok (.iload_n 2, 1) := by decide +kernel
theorem dX5_add_19 : decode cX5_add 19 = .ok (.iastore, 1) := by decide +kernel
theorem dX5_add_20 : decode cX5_add 20 = .ok (.aload_n 0, 1) := by decide +kernel
theorem dX5_add_21 : decode cX5_add 21 = .ok (.getfield 18, 3) := by decide +kernel
theorem dX5_add_24 : decode cX5_add 24 = .ok (.aload_n 0, 1) := by decide +kernel
theorem dX5_add_25 : decode cX5_add 25 = .ok (.getfield 27, 3) := by decide +kernel
theorem dX5_add_28 : decode cX5_add 28 = .ok (.iload_n 3, 1) := by decide +kernel
theorem dX5_add_29 : decode cX5_add 29 = .ok (.iastore, 1) := by decide +kernel
theorem dX5_add_30 : decode cX5_add 30 = .ok (.aload_n 0, 1) := by decide +kernel
theorem dX5_add_31 : decode cX5_add 31 = .ok (.getfield 21, 3) := by decide +kernel
theorem dX5_add_34 : decode cX5_add 34 = .ok (.aload_n 0, 1) := by decide +kernel
theorem dX5_add_35 : decode cX5_add 35 = .ok (.getfield 27, 3) := by decide +kernel
theorem dX5_add_38 : decode cX5_add 38 = .ok (.iload 4, 2) := by decide +kernel
theorem dX5_add_40 : decode cX5_add 40 = .ok (.iastore, 1) := by decide +kernel
theorem dX5_add_41 : decode cX5_add 41 = .ok (.aload_n 0, 1) := by decide +kernel
theorem dX5_add_42 : decode cX5_add 42 = .ok (.getfield 24, 3) := by decide +kernel
theorem dX5_add_45 : decode cX5_add 45 = .ok (.aload_n 0, 1) := by decide +kernel
theorem dX5_add_46 : decode cX5_add 46 = .ok (.getfield 27, 3) := by decide +kernel
theorem dX5_add_49 : decode cX5_add 49 = .ok (.ldc 31, 2) := by decide +kernel
theorem dX5_add_51 : decode cX5_add 51 = .ok (.iastore, 1) := by decide +kernel
theorem dX5_add_52 : decode cX5_add 52 = .ok (.aload_n 0, 1) := by decide +kernel
theorem dX5_add_53 : decode cX5_add 53 = .ok (.dup, 1) := by decide +kernel
theorem dX5_add_54 : decode cX5_add 54 = .ok (.getfield 27, 3) := by decide +kernel
theorem dX5_add_57 : decode cX5_add 57 = .ok (.iconst 1, 1) := by decide +kernel
theorem dX5_add_58 : decode cX5_add 58 = .ok (.iadd, 1) := by decide +kernel
theorem dX5_add_59 : decode cX5_add 59 = .ok (.putfield 27, 3) := by decide +kernel
theorem dX5_add_62 : decode cX5_add 62 = .ok (.aload_n 0, 1) := by decide +kernel
theorem dX5_add_63 : decode cX5_add 63 = .ok (.getfield 27, 3) := by decide +kernel
theorem dX5_add_66 : decode cX5_add 66 = .ok (.iconst 1, 1) := by decide +kernel
theorem dX5_add_67 : decode cX5_add 67 = .ok (.isub, 1) := by decide +kernel
theorem dX5_add_68 : decode cX5_add 68 = .ok (.ireturn, 1) := by decide +kernel
theorem dX5_sum_0 : decode cX5_sum 0 = .ok (.iconst 0, 1) := by decide +kernel
theorem dX5_sum_1 : decode cX5_sum 1 = .ok (.istore 4, 2) := by decide +kernel
theorem dX5_sum_3 : decode cX5_sum 3 = .ok (.iconst 0, 1) := by decide +kernel
theorem dX5_sum_4 : decode cX5_sum 4 = .ok (.istore 5, 2) := by decide +kernel
theorem dX5_sum_6 : decode cX5_sum 6 = .ok (.iload 5, 2) := by decide +kernel
theorem dX5_sum_8 : decode cX5_sum 8 = .ok (.aload_n 0, 1) := by decide +kernel
theorem dX5_sum_9 : decode cX5_sum 9 = .ok (.getfield 27, 3) := by decide +kernel
theorem dX5_sum_12 : decode cX5_sum 12 = .ok (.if_icmp .ge 53, 3) := by decide +kernel
theorem dX5_sum_15 : decode cX5_sum 15 = .ok (.aload_n 0, 1) := by decide +kernel
theorem dX5_sum_16 : decode cX5_sum 16 = .ok (.getfield 9, 3) := by decide +kernel
theorem dX5_sum_19 : decode cX5_sum 19 = .ok (.iload 5, 2) := by decide +kernel
theorem dX5_sum_21 : decode cX5_sum 21 = .ok (.iaload, 1) := by decide +kernel
theorem dX5_sum_22 : decode cX5_sum 22 = .ok (.iload_n 1, 1) := by decide +kernel
theorem dX5_sum_23 : decode cX5_sum 23 = .ok (.if_icmp .ne 36, 3) := by decide +kernel
theorem dX5_sum_26 : decode cX5_sum 26 = .ok (.aload_n 0, 1) := by decide +kernel
theorem dX5_sum_27 : decode cX5_sum 27 = .ok (.getfield 15, 3) := by decide +kernel
theorem dX5_sum_30 : decode cX5_sum 30 = .ok (.iload 5, 2) := by decide +kernel
theorem dX5_sum_32 : decode cX5_sum 32 = .ok (.iaload, 1) := by decide +kernel
theorem dX5_sum_33 : decode cX5_sum 33 = .ok (.iload_n 2, 1) := by decide +kernel
theorem dX5_sum_34 : decode cX5_sum 34 = .ok (.if_icmp .ne 25, 3) := by decide +kernel
theorem dX5_sum_37 : decode cX5_sum 37 = .ok (.aload_n 0, 1) := by decide +kernel
theorem dX5_sum_38 : decode cX5_sum 38 = .ok (.iload 5, 2) := by decide +kernel
theorem dX5_sum_40 : decode cX5_sum 40 = .ok (.iload_n 3, 1) := by decide +kernel
theorem dX5_sum_41 : decode cX5_sum 41 = .ok (.invokevirtual 32, 3) := by decide +kernel
theorem dX5_sum_44 : decode cX5_sum 44 = .ok (.ifCond .eq 15, 3) := by decide +kernel
theorem dX5_sum_47 : decode cX5_sum 47 = .ok (.iload 4, 2) := by decide +kernel
theorem dX5_sum_49 : decode cX5_sum 49 = .ok (.aload_n 0, 1) := by decide +kernel
theorem dX5_sum_50 : decode cX5_sum 50 = .ok (.getfield 18, 3) := by decide +kernel
theorem dX5_sum_53 : decode cX5_sum 53 = .ok (.iload 5, 2) := by decide +kernel
theorem dX5_sum_55 : decode cX5_sum 55 = .ok (.iaload, 1) := by decide +kernel
theorem dX5_sum_56 : decode cX5_sum 56 = .ok (.iadd, 1) := by decide +kernel
theorem dX5_sum_57 : decode cX5_sum 57 = .ok (.istore 4, 2) := by decide +kernel
theorem dX5_sum_59 : decode cX5_sum 59 = .ok (.iinc 5 1, 3) := by decide +kernel
theorem dX5_sum_62 : decode cX5_sum 62 = .ok (.goto (-56), 3) := by decide +kernel
theorem dX5_sum_65 : decode cX5_sum 65 = .ok (.iconst 0, 1) := by decide +kernel
theorem dX5_sum_66 : decode cX5_sum 66 = .ok (.iload 4, 2) := by decide +kernel
theorem dX5_sum_68 : decode cX5_sum 68 = .ok (.invokestatic 36, 3) := by decide +kernel
theorem dX5_sum_71 : decode cX5_sum 71 = .ok (.ireturn, 1) := by decide +kernel
theorem dX5_counts_0 : decode cX5_counts 0 = .ok (.aload_n 0, 1) := by decide +kernel
theorem dX5_counts_1 : decode cX5_counts 1 = .ok (.getfield 21, 3) := by decide +kernel
theorem dX5_counts_4 : decode cX5_counts 4 = .ok (.iload_n 1, 1) := by decide +kernel
theorem dX5_counts_5 : decode cX5_counts 5 = .ok (.iaload, 1) := by decide +kernel
theorem dX5_counts_6 : decode cX5_counts 6 = .ok (.iload_n 2, 1) := by decide +kernel
theorem dX5_counts_7 : decode cX5_counts 7 = .ok (.if_icmp .gt 28, 3) := by decide +kernel
theorem dX5_counts_10 : decode cX5_counts 10 = .ok (.aload_n 0, 1) := by decide +kernel
theorem dX5_counts_11 : decode cX5_counts 11 = .ok (.getfield 24, 3) := by decide +kernel
theorem dX5_counts_14 : decode cX5_counts 14 = .ok (.iload_n 1, 1) := by decide +kernel
theorem dX5_counts_15 : decode cX5_counts 15 = .ok (.iaload, 1) := by decide +kernel
theorem dX5_counts_16 : decode cX5_counts 16 = .ok (.ldc 31, 2) := by decide +kernel
theorem dX5_counts_18 : decode cX5_counts 18 = .ok (.if_icmp .eq 13, 3) := by decide +kernel
theorem dX5_counts_21 : decode cX5_counts 21 = .ok (.aload_n 0, 1) := by decide +kernel
theorem dX5_counts_22 : decode cX5_counts 22 = .ok (.getfield 24, 3) := by decide +kernel
theorem dX5_counts_25 : decode cX5_counts 25 = .ok (.iload_n 1, 1) := by decide +kernel
theorem dX5_counts_26 : decode cX5_counts 26 = .ok (.iaload, 1) := by decide +kernel
theorem dX5_counts_27 : decode cX5_counts 27 = .ok (.iload_n 2, 1) := by decide +kernel
theorem dX5_counts_28 : decode cX5_counts 28 = .ok (.if_icmp .le 7, 3) := by decide +kernel
theorem dX5_counts_31 : decode cX5_counts 31 = .ok (.iconst 1, 1) := by decide +kernel
theorem dX5_counts_32 : decode cX5_counts 32 = .ok (.goto 4, 3) := by decide +kernel
theorem dX5_counts_35 : decode cX5_counts 35 = .ok (.iconst 0, 1) := by decide +kernel
theorem dX5_counts_36 : decode cX5_counts 36 = .ok (.ireturn, 1) := by decide +kernel
theorem dX5_countWithdrawn_0 : decode cX5_countWithdrawn 0 = .ok (.iconst 0, 1) := by decide +kernel
theorem dX5_countWithdrawn_1 : decode cX5_countWithdrawn 1 = .ok (.istore_n 1, 1) := by decide +kernel
theorem dX5_countWithdrawn_2 : decode cX5_countWithdrawn 2 = .ok (.iconst 0, 1) := by decide +kernel
theorem dX5_countWithdrawn_3 : decode cX5_countWithdrawn 3 = .ok (.istore_n 2, 1) := by decide +kernel
theorem dX5_countWithdrawn_4 : decode cX5_countWithdrawn 4 = .ok (.iload_n 2, 1) := by decide +kernel
theorem dX5_countWithdrawn_5 : decode cX5_countWithdrawn 5 = .ok (.aload_n 0, 1) := by decide +kernel
theorem dX5_countWithdrawn_6 : decode cX5_countWithdrawn 6 = .ok (.getfield 27, 3) := by decide +kernel
theorem dX5_countWithdrawn_9 : decode cX5_countWithdrawn 9 = .ok (.if_icmp .ge 23, 3) := by decide +kernel
theorem dX5_countWithdrawn_12 : decode cX5_countWithdrawn 12 = .ok (.aload_n 0, 1) := by decide +kernel
theorem dX5_countWithdrawn_13 : decode cX5_countWithdrawn 13 = .ok (.getfield 24, 3) := by decide +kernel
theorem dX5_countWithdrawn_16 : decode cX5_countWithdrawn 16 = .ok (.iload_n 2, 1) := by decide +kernel
theorem dX5_countWithdrawn_17 : decode cX5_countWithdrawn 17 = .ok (.iaload, 1) := by decide +kernel
theorem dX5_countWithdrawn_18 : decode cX5_countWithdrawn 18 = .ok (.ldc 31, 2) := by decide +kernel
theorem dX5_countWithdrawn_20 : decode cX5_countWithdrawn 20 = .ok (.if_icmp .eq 6, 3) := by decide +kernel
theorem dX5_countWithdrawn_23 : decode cX5_countWithdrawn 23 = .ok (.iinc 1 1, 3) := by decide +kernel
theorem dX5_countWithdrawn_26 : decode cX5_countWithdrawn 26 = .ok (.iinc 2 1, 3) := by decide +kernel
theorem dX5_countWithdrawn_29 : decode cX5_countWithdrawn 29 = .ok (.goto (-25), 3) := by decide +kernel
theorem dX5_countWithdrawn_32 : decode cX5_countWithdrawn 32 = .ok (.iload_n 1, 1) := by decide +kernel
theorem dX5_countWithdrawn_33 : decode cX5_countWithdrawn 33 = .ok (.ireturn, 1) := by decide +kernel
theorem dX5_become_0 : decode cX5_become 0 = .ok (.aload_n 1, 1) := by decide +kernel
theorem dX5_become_1 : decode cX5_become 1 = .ok (.getfield 9, 3) := by decide +kernel
theorem dX5_become_4 : decode cX5_become 4 = .ok (.iconst 0, 1) := by decide +kernel
theorem dX5_become_5 : decode cX5_become 5 = .ok (.aload_n 0, 1) := by decide +kernel
theorem dX5_become_6 : decode cX5_become 6 = .ok (.getfield 9, 3) := by decide +kernel
theorem dX5_become_9 : decode cX5_become 9 = .ok (.iconst 0, 1) := by decide +kernel
theorem dX5_become_10 : decode cX5_become 10 = .ok (.bipush 100, 2) := by decide +kernel
theorem dX5_become_12 : decode cX5_become 12 = .ok (.invokestatic 42, 3) := by decide +kernel
theorem dX5_become_15 : decode cX5_become 15 = .ok (.aload_n 1, 1) := by decide +kernel
theorem dX5_become_16 : decode cX5_become 16 = .ok (.getfield 15, 3) := by decide +kernel
theorem dX5_become_19 : decode cX5_become 19 = .ok (.iconst 0, 1) := by decide +kernel
theorem dX5_become_20 : decode cX5_become 20 = .ok (.aload_n 0, 1) := by decide +kernel
theorem dX5_become_21 : decode cX5_become 21 = .ok (.getfield 15, 3) := by decide +kernel
theorem dX5_become_24 : decode cX5_become 24 = .ok (.iconst 0, 1) := by decide +kernel
theorem dX5_become_25 : decode cX5_become 25 = .ok (.bipush 100, 2) := by decide +kernel
theorem dX5_become_27 : decode cX5_become 27 = .ok (.invokestatic 42, 3) := by decide +kernel
theorem dX5_become_30 : decode cX5_become 30 = .ok (.aload_n 1, 1) := by decide +kernel
theorem dX5_become_31 : decode cX5_become 31 = .ok (.getfield 18, 3) := by decide +kernel
theorem dX5_become_34 : decode cX5_become 34 = .ok (.iconst 0, 1) := by decide +kernel
theorem dX5_become_35 : decode cX5_become 35 = .ok (.aload_n 0, 1) := by decide +kernel
theorem dX5_become_36 : decode cX5_become 36 = .ok (.getfield 18, 3) := by decide +kernel
theorem dX5_become_39 : decode cX5_become 39 = .ok (.iconst 0, 1) := by decide +kernel
theorem dX5_become_40 : decode cX5_become 40 = .ok (.bipush 100, 2) := by decide +kernel
theorem dX5_become_42 : decode cX5_become 42 = .ok (.invokestatic 42, 3) := by decide +kernel
theorem dX5_become_45 : decode cX5_become 45 = .ok (.aload_n 1, 1) := by decide +kernel
theorem dX5_become_46 : decode cX5_become 46 = .ok (.getfield 21, 3) := by decide +kernel
theorem dX5_become_49 : decode cX5_become 49 = .ok (.iconst 0, 1) := by decide +kernel
theorem dX5_become_50 : decode cX5_become 50 = .ok (.aload_n 0, 1) := by decide +kernel
theorem dX5_become_51 : decode cX5_become 51 = .ok (.getfield 21, 3) := by decide +kernel
theorem dX5_become_54 : decode cX5_become 54 = .ok (.iconst 0, 1) := by decide +kernel
theorem dX5_become_55 : decode cX5_become 55 = .ok (.bipush 100, 2) := by decide +kernel
theorem dX5_become_57 : decode cX5_become 57 = .ok (.invokestatic 42, 3) := by decide +kernel
theorem dX5_become_60 : decode cX5_become 60 = .ok (.aload_n 1, 1) := by decide +kernel
theorem dX5_become_61 : decode cX5_become 61 = .ok (.getfield 24, 3) := by decide +kernel
theorem dX5_become_64 : decode cX5_become 64 = .ok (.iconst 0, 1) := by decide +kernel
theorem dX5_become_65 : decode cX5_become 65 = .ok (.aload_n 0, 1) := by decide +kernel
theorem dX5_become_66 : decode cX5_become 66 = .ok (.getfield 24, 3) := by decide +kernel
theorem dX5_become_69 : decode cX5_become 69 = .ok (.iconst 0, 1) := by decide +kernel
theorem dX5_become_70 : decode cX5_become 70 = .ok (.bipush 100, 2) := by decide +kernel
theorem dX5_become_72 : decode cX5_become 72 = .ok (.invokestatic 42, 3) := by decide +kernel
theorem dX5_become_75 : decode cX5_become 75 = .ok (.aload_n 0, 1) := by decide +kernel
theorem dX5_become_76 : decode cX5_become 76 = .ok (.aload_n 1, 1) := by decide +kernel
theorem dX5_become_77 : decode cX5_become 77 = .ok (.getfield 27, 3) := by decide +kernel
theorem dX5_become_80 : decode cX5_become 80 = .ok (.putfield 27, 3) := by decide +kernel
theorem dX5_become_83 : decode cX5_become 83 = .ok (.return_, 1) := by decide +kernel
theorem dX6_search_0 : decode cX6_search 0 = .ok (.aload_n 0, 1) := by decide +kernel
theorem dX6_search_1 : decode cX6_search 1 = .ok (.iload_n 2, 1) := by decide +kernel
theorem dX6_search_2 : decode cX6_search 2 = .ok (.putfield 29, 3) := by decide +kernel
theorem dX6_search_5 : decode cX6_search 5 = .ok (.aload_n 0, 1) := by decide +kernel
theorem dX6_search_6 : decode cX6_search 6 = .ok (.iconst 0, 1) := by decide +kernel
theorem dX6_search_7 : decode cX6_search 7 = .ok (.putfield 33, 3) := by decide +kernel
theorem dX6_search_10 : decode cX6_search 10 = .ok (.aload_n 0, 1) := by decide +kernel
theorem dX6_search_11 : decode cX6_search 11 = .ok (.iconst (-1), 1) := by decide +kernel
theorem dX6_search_12 : decode cX6_search 12 = .ok (.putfield 36, 3) := by decide +kernel
theorem dX6_search_15 : decode cX6_search 15 = .ok (.aload_n 0, 1) := by decide +kernel
theorem dX6_search_16 : decode cX6_search 16 = .ok (.iconst 0, 1) := by decide +kernel
theorem dX6_search_17 : decode cX6_search 17 = .ok (.putfield 39, 3) := by decide +kernel
theorem dX6_search_20 : decode cX6_search 20 = .ok (.aload_n 0, 1) := by decide +kernel
theorem dX6_search_21 : decode cX6_search 21 = .ok (.getfield 15, 3) := by decide +kernel
theorem dX6_search_24 : decode cX6_search 24 = .ok (.ldc 42, 2) := by decide +kernel
theorem dX6_search_26 : decode cX6_search 26 = .ok (.invokestatic 43, 3) := by decide +kernel
theorem dX6_search_29 : decode cX6_search 29 = .ok (.iconst 0, 1) := by decide +kernel
theorem dX6_search_30 : decode cX6_search 30 = .ok (.istore_n 3, 1) := by decide +kernel
theorem dX6_search_31 : decode cX6_search 31 = .ok (.iload_n 3, 1) := by decide +kernel
theorem dX6_search_32 : decode cX6_search 32 = .ok (.aload_n 1, 1) := by decide +kernel
theorem dX6_search_33 : decode cX6_search 33 = .ok (.getfield 49, 3) := by decide +kernel
theorem dX6_search_36 : decode cX6_search 36 = .ok (.getfield 55, 3) := by decide +kernel
theorem dX6_search_39 : decode cX6_search 39 = .ok (.getfield 61, 3) := by decide +kernel
theorem dX6_search_42 : decode cX6_search 42 = .ok (.if_icmp .ge 18, 3) := by decide +kernel
theorem dX6_search_45 : decode cX6_search 45 = .ok (.aload_n 0, 1) := by decide +kernel
theorem dX6_search_46 : decode cX6_search 46 = .ok (.aload_n 1, 1) := by decide +kernel
theorem dX6_search_47 : decode cX6_search 47 = .ok (.getfield 49, 3) := by decide +kernel
theorem dX6_search_50 : decode cX6_search 50 = .ok (.iload_n 3, 1) := by decide +kernel
theorem dX6_search_51 : decode cX6_search 51 = .ok (.invokevirtual 66, 3) := by decide +kernel
theorem dX6_search_54 : decode cX6_search 54 = .ok (.iinc 3 1, 3) := by decide +kernel
theorem dX6_search_57 : decode cX6_search 57 = .ok (.goto (-26), 3) := by decide +kernel
theorem dX6_search_60 : decode cX6_search 60 = .ok (.iconst 0, 1) := by decide +kernel
theorem dX6_search_61 : decode cX6_search 61 = .ok (.istore_n 3, 1) := by decide +kernel
theorem dX6_search_62 : decode cX6_search 62 = .ok (.iload_n 3, 1) := by decide +kernel
theorem dX6_search_63 : decode cX6_search 63 = .ok (.bipush 12, 2) := by decide +kernel
theorem dX6_search_65 : decode cX6_search 65 = .ok (.if_icmp .ge 23, 3) := by decide +kernel
theorem dX6_search_68 : decode cX6_search 68 = .ok (.aload_n 0, 1) := by decide +kernel
theorem dX6_search_69 : decode cX6_search 69 = .ok (.getfield 26, 3) := by decide +kernel
theorem dX6_search_72 : decode cX6_search 72 = .ok (.iconst 0, 1) := by decide +kernel
theorem dX6_search_73 : decode cX6_search 73 = .ok (.aaload, 1) := by decide +kernel
theorem dX6_search_74 : decode cX6_search 74 = .ok (.iload_n 3, 1) := by decide +kernel
theorem dX6_search_75 : decode cX6_search 75 = .ok (.aload_n 0, 1) := by decide +kernel
theorem dX6_search_76 : decode cX6_search 76 = .ok (.aload_n 1, 1) := by decide +kernel
theorem dX6_search_77 : decode cX6_search 77 = .ok (.iload_n 3, 1) := by decide +kernel
theorem dX6_search_78 : decode cX6_search 78 = .ok (.invokevirtual 70, 3) := by decide +kernel
theorem dX6_search_81 : decode cX6_search 81 = .ok (.iastore, 1) := by decide +kernel
theorem dX6_search_82 : decode cX6_search 82 = .ok (.iinc 3 1, 3) := by decide +kernel
theorem dX6_search_85 : decode cX6_search 85 = .ok (.goto (-23), 3) := by decide +kernel
theorem dX6_search_88 : decode cX6_search 88 = .ok (.aload_n 0, 1) := by decide +kernel
theorem dX6_search_89 : decode cX6_search 89 = .ok (.iconst 0, 1) := by decide +kernel
theorem dX6_search_90 : decode cX6_search 90 = .ok (.iconst 0, 1) := by decide +kernel
theorem dX6_search_91 : decode cX6_search 91 = .ok (.iconst 0, 1) := by decide +kernel
theorem dX6_search_92 : decode cX6_search 92 = .ok (.invokevirtual 74, 3) := by decide +kernel
theorem dX6_search_95 : decode cX6_search 95 = .ok (.ireturn, 1) := by decide +kernel
theorem dX6_prepare_0 : decode cX6_prepare 0 = .ok (.iconst 0, 1) := by decide +kernel
theorem dX6_prepare_1 : decode cX6_prepare 1 = .ok (.istore_n 3, 1) := by decide +kernel
theorem dX6_prepare_2 : decode cX6_prepare 2 = .ok (.iload_n 3, 1) := by decide +kernel
theorem dX6_prepare_3 : decode cX6_prepare 3 = .ok (.bipush 12, 2) := by decide +kernel
theorem dX6_prepare_5 : decode cX6_prepare 5 = .ok (.if_icmp .ge 36, 3) := by decide +kernel
theorem dX6_prepare_8 : decode cX6_prepare 8 = .ok (.aload_n 0, 1) := by decide +kernel
theorem dX6_prepare_9 : decode cX6_prepare 9 = .ok (.getfield 20, 3) := by decide +kernel
theorem dX6_prepare_12 : decode cX6_prepare 12 = .ok (.iload_n 2, 1) := by decide +kernel
theorem dX6_prepare_13 : decode cX6_prepare 13 = .ok (.aaload, 1) := by decide +kernel
theorem dX6_prepare_14 : decode cX6_prepare 14 = .ok (.iload_n 3, 1) := by decide +kernel
theorem dX6_prepare_15 : decode cX6_prepare 15 = .ok (.aload_n 1, 1) := by decide +kernel
theorem dX6_prepare_16 : decode cX6_prepare 16 = .ok (.getfield 55, 3) := by decide +kernel
theorem dX6_prepare_19 : decode cX6_prepare 19 = .ok (.getfield 78, 3) := by decide +kernel
theorem dX6_prepare_22 : decode cX6_prepare 22 = .ok (.iload_n 2, 1) := by decide +kernel
theorem dX6_prepare_23 : decode cX6_prepare 23 = .ok (.iaload, 1) := by decide +kernel
theorem dX6_prepare_24 : decode cX6_prepare 24 = .ok (.aload_n 1, 1) := by decide +kernel
theorem dX6_prepare_25 : decode cX6_prepare 25 = .ok (.getfield 81, 3) := by decide +kernel
theorem dX6_prepare_28 : decode cX6_prepare 28 = .ok (.iload_n 3, 1) := by decide +kernel
theorem dX6_prepare_29 : decode cX6_prepare 29 = .ok (.iaload, 1) := by decide +kernel
theorem dX6_prepare_30 : decode cX6_prepare 30 = .ok (.imul, 1) := by decide +kernel
theorem dX6_prepare_31 : decode cX6_prepare 31 = .ok (.bipush 100, 2) := by decide +kernel
theorem dX6_prepare_33 : decode cX6_prepare 33 = .ok (.idiv, 1) := by decide +kernel
theorem dX6_prepare_34 : decode cX6_prepare 34 = .ok (.iastore, 1) := by decide +kernel
theorem dX6_prepare_35 : decode cX6_prepare 35 = .ok (.iinc 3 1, 3) := by decide +kernel
theorem dX6_prepare_38 : decode cX6_prepare 38 = .ok (.goto (-36), 3) := by decide +kernel
theorem dX6_prepare_41 : decode cX6_prepare 41 = .ok (.iconst 0, 1) := by decide +kernel
theorem dX6_prepare_42 : decode cX6_prepare 42 = .ok (.istore_n 3, 1) := by decide +kernel
theorem dX6_prepare_43 : decode cX6_prepare 43 = .ok (.iload_n 3, 1) := by decide +kernel
theorem dX6_prepare_44 : decode cX6_prepare 44 = .ok (.bipush 12, 2) := by decide +kernel
theorem dX6_prepare_46 : decode cX6_prepare 46 = .ok (.if_icmp .ge 66, 3) := by decide +kernel
theorem dX6_prepare_49 : decode cX6_prepare 49 = .ok (.iconst 0, 1) := by decide +kernel
theorem dX6_prepare_50 : decode cX6_prepare 50 = .ok (.istore 4, 2) := by decide +kernel
theorem dX6_prepare_52 : decode cX6_prepare 52 = .ok (.iconst 0, 1) := by decide +kernel
theorem dX6_prepare_53 : decode cX6_prepare 53 = .ok (.istore 5, 2) := by decide +kernel
theorem dX6_prepare_55 : decode cX6_prepare 55 = .ok (.iload 5, 2) := by decide +kernel
theorem dX6_prepare_57 : decode cX6_prepare 57 = .ok (.aload_n 1, 1) := by decide +kernel
theorem dX6_prepare_58 : decode cX6_prepare 58 = .ok (.getfield 55, 3) := by decide +kernel
theorem dX6_prepare_61 : decode cX6_prepare 61 = .ok (.getfield 61, 3) := by decide +kernel
theorem dX6_prepare_64 : decode cX6_prepare 64 = .ok (.if_icmp .ge 32, 3) := by decide +kernel
theorem dX6_prepare_67 : decode cX6_prepare 67 = .ok (.aload_n 1, 1) := by decide +kernel
theorem dX6_prepare_68 : decode cX6_prepare 68 = .ok (.getfield 55, 3) := by decide +kernel
theorem dX6_prepare_71 : decode cX6_prepare 71 = .ok (.iload_n 2, 1) := by decide +kernel
theorem dX6_prepare_72 : decode cX6_prepare 72 = .ok (.iload 5, 2) := by decide +kernel
theorem dX6_prepare_74 : decode cX6_prepare 74 = .ok (.iload_n 3, 1) := by decide +kernel
theorem dX6_prepare_75 : decode cX6_prepare 75 = .ok (.invokevirtual 84, 3) := by decide +kernel
theorem dX6_prepare_78 : decode cX6_prepare 78 = .ok (.ifCond .eq 12, 3) := by decide +kernel
theorem dX6_prepare_81 : decode cX6_prepare 81 = .ok (.iload 4, 2) := by decide +kernel
theorem dX6_prepare_83 : decode cX6_prepare 83 = .ok (.iconst 1, 1) := by decide +kernel
theorem dX6_prepare_84 : decode cX6_prepare 84 = .ok (.iload 5, 2) := by decide +kernel
theorem dX6_prepare_86 : decode cX6_prepare 86 = .ok (.ishl, 1) := by decide +kernel
theorem dX6_prepare_87 : decode cX6_prepare 87 = .ok (.ior, 1) := by decide +kernel
theorem dX6_prepare_88 : decode cX6_prepare 88 = .ok (.istore 4, 2) := by decide +kernel
theorem dX6_prepare_90 : decode cX6_prepare 90 = .ok (.iinc 5 1, 3) := by decide +kernel
theorem dX6_prepare_93 : decode cX6_prepare 93 = .ok (.goto (-38), 3) := by decide +kernel
theorem dX6_prepare_96 : decode cX6_prepare 96 = .ok (.aload_n 0, 1) := by decide +kernel
theorem dX6_prepare_97 : decode cX6_prepare 97 = .ok (.getfield 23, 3) := by decide +kernel
theorem dX6_prepare_100 : decode cX6_prepare 100 = .ok (.iload_n 2, 1) := by decide +kernel
theorem dX6_prepare_101 : decode cX6_prepare 101 = .ok (.aaload, 1) := by decide +kernel
theorem dX6_prepare_102 : decode cX6_prepare 102 = .ok (.iload_n 3, 1) := by decide +kernel
theorem dX6_prepare_103 : decode cX6_prepare 103 = .ok (.iload 4, 2) := by decide +kernel
theorem dX6_prepare_105 : decode cX6_prepare 105 = .ok (.iastore, 1) := by decide +kernel
theorem dX6_prepare_106 : decode cX6_prepare 106 = .ok (.iinc 3 1, 3) := by decide +kernel
theorem dX6_prepare_109 : decode cX6_prepare 109 = .ok (.goto (-66), 3) := by decide +kernel
theorem dX6_prepare_112 : decode cX6_prepare 112 = .ok (.return_, 1) := by decide +kernel
theorem dX6_fitAtFirst_0 : decode cX6_fitAtFirst 0 = .ok (.aload_n 1, 1) := by decide +kernel
theorem dX6_fitAtFirst_1 : decode cX6_fitAtFirst 1 = .ok (.getfield 86, 3) := by decide +kernel
theorem dX6_fitAtFirst_4 : decode cX6_fitAtFirst 4 = .ok (.iload_n 2, 1) := by decide +kernel
theorem dX6_fitAtFirst_5 : decode cX6_fitAtFirst 5 = .ok (.iaload, 1) := by decide +kernel
theorem dX6_fitAtFirst_6 : decode cX6_fitAtFirst 6 = .ok (.ldc 42, 2) := by decide +kernel
theorem dX6_fitAtFirst_8 : decode cX6_fitAtFirst 8 = .ok (.if_icmp .eq 5, 3) := by decide +kernel
theorem dX6_fitAtFirst_11 : decode cX6_fitAtFirst 11 = .ok (.iconst 0, 1) := by decide +kernel
theorem dX6_fitAtFirst_12 : decode cX6_fitAtFirst 12 = .ok (.ireturn, 1) := by decide +kernel
theorem dX6_fitAtFirst_13 : decode cX6_fitAtFirst 13 = .ok (.iconst 0, 1) := by decide +kernel
theorem dX6_fitAtFirst_14 : decode cX6_fitAtFirst 14 = .ok (.istore_n 3, 1) := by decide +kernel
theorem dX6_fitAtFirst_15 : decode cX6_fitAtFirst 15 = .ok (.iconst 0, 1) := by decide +kernel
theorem dX6_fitAtFirst_16 : decode cX6_fitAtFirst 16 = .ok (.istore 4, 2) := by decide +kernel
theorem dX6_fitAtFirst_18 : decode cX6_fitAtFirst 18 = .ok (.iload 4, 2) := by decide +kernel
theorem dX6_fitAtFirst_20 : decode cX6_fitAtFirst 20 = .ok (.aload_n 1, 1) := by decide +kernel
theorem dX6_fitAtFirst_21 : decode cX6_fitAtFirst 21 = .ok (.getfield 49, 3) := by decide +kernel
theorem dX6_fitAtFirst_24 : decode cX6_fitAtFirst 24 = .ok (.getfield 55, 3) := by decide +kernel
theorem dX6_fitAtFirst_27 : decode cX6_fitAtFirst 27 = .ok (.getfield 61, 3) := by decide +kernel
theorem dX6_fitAtFirst_30 : decode cX6_fitAtFirst 30 = .ok (.if_icmp .ge 28, 3) := by decide +kernel
theorem dX6_fitAtFirst_33 : decode cX6_fitAtFirst 33 = .ok (.aload_n 1, 1) := by decide +kernel
theorem dX6_fitAtFirst_34 : decode cX6_fitAtFirst 34 = .ok (.getfield 89, 3) := by decide +kernel
theorem dX6_fitAtFirst_37 : decode cX6_fitAtFirst 37 = .ok (.iload 4, 2) := by decide +kernel
theorem dX6_fitAtFirst_39 : decode cX6_fitAtFirst 39 = .ok (.iaload, 1) := by decide +kernel
theorem dX6_fitAtFirst_40 : decode cX6_fitAtFirst 40 = .ok (.ldc 42, 2) := by decide +kernel
theorem dX6_fitAtFirst_42 : decode cX6_fitAtFirst 42 = .ok (.if_icmp .ne 10, 3) := by decide +kernel
theorem dX6_fitAtFirst_45 : decode cX6_fitAtFirst 45 = .ok (.iload_n 3, 1) := by decide +kernel
theorem dX6_fitAtFirst_46 : decode cX6_fitAtFirst 46 = .ok (.iconst 1, 1) := by decide +kernel
theorem dX6_fitAtFirst_47 : decode cX6_fitAtFirst 47 = .ok (.iload 4, 2) := by decide +kernel
theorem dX6_fitAtFirst_49 : decode cX6_fitAtFirst 49 = .ok (.ishl, 1) := by decide +kernel
theorem dX6_fitAtFirst_50 : decode cX6_fitAtFirst 50 = .ok (.ior, 1) := by decide +kernel
theorem dX6_fitAtFirst_51 : decode cX6_fitAtFirst 51 = .ok (.istore_n 3, 1) := by decide +kernel
theorem dX6_fitAtFirst_52 : decode cX6_fitAtFirst 52 = .ok (.iinc 4 1, 3) := by decide +kernel
theorem dX6_fitAtFirst_55 : decode cX6_fitAtFirst 55 = .ok (.goto (-37), 3) := by decide +kernel
theorem dX6_fitAtFirst_58 : decode cX6_fitAtFirst 58 = .ok (.iconst 0, 1) := by decide +kernel
theorem dX6_fitAtFirst_59 : decode cX6_fitAtFirst 59 = .ok (.istore 4, 2) := by decide +kernel
theorem dX6_fitAtFirst_61 : decode cX6_fitAtFirst 61 = .ok (.iload 4, 2) := by decide +kernel
theorem dX6_fitAtFirst_63 : decode cX6_fitAtFirst 63 = .ok (.aload_n 1, 1) := by decide +kernel
theorem dX6_fitAtFirst_64 : decode cX6_fitAtFirst 64 = .ok (.getfield 49, 3) := by decide +kernel
theorem dX6_fitAtFirst_67 : decode cX6_fitAtFirst 67 = .ok (.getfield 55, 3) := by decide +kernel
theorem dX6_fitAtFirst_70 : decode cX6_fitAtFirst 70 = .ok (.getfield 61, 3) := by decide +kernel
theorem dX6_fitAtFirst_73 : decode cX6_fitAtFirst 73 = .ok (.if_icmp .ge 45, 3) := by decide +kernel
theorem dX6_fitAtFirst_76 : decode cX6_fitAtFirst 76 = .ok (.aload_n 1, 1) := by decide +kernel
theorem dX6_fitAtFirst_77 : decode cX6_fitAtFirst 77 = .ok (.getfield 89, 3) := by decide +kernel
theorem dX6_fitAtFirst_80 : decode cX6_fitAtFirst 80 = .ok (.iload 4, 2) := by decide +kernel
theorem dX6_fitAtFirst_82 : decode cX6_fitAtFirst 82 = .ok (.iaload, 1) := by decide +kernel
theorem dX6_fitAtFirst_83 : decode cX6_fitAtFirst 83 = .ok (.istore 5, 2) := by decide +kernel
theorem dX6_fitAtFirst_85 : decode cX6_fitAtFirst 85 = .ok (.iload 5, 2) := by decide +kernel
theorem dX6_fitAtFirst_87 : decode cX6_fitAtFirst 87 = .ok (.ldc 42, 2) := by decide +kernel
theorem dX6_fitAtFirst_89 : decode cX6_fitAtFirst 89 = .ok (.if_icmp .eq 23, 3) := by decide +kernel
theorem dX6_fitAtFirst_92 : decode cX6_fitAtFirst 92 = .ok (.iload_n 3, 1) := by decide +kernel
theorem dX6_fitAtFirst_93 : decode cX6_fitAtFirst 93 = .ok (.aload_n 0, 1) := by decide +kernel
theorem dX6_fitAtFirst_94 : decode cX6_fitAtFirst 94 = .ok (.getfield 23, 3) := by decide +kernel
theorem dX6_fitAtFirst_97 : decode cX6_fitAtFirst 97 = .ok (.iload 4, 2) := by decide +kernel
theorem dX6_fitAtFirst_99 : decode cX6_fitAtFirst 99 = .ok (.aaload, 1) := by decide +kernel
theorem dX6_fitAtFirst_100 : decode cX6_fitAtFirst 100 = .ok (.iload 5, 2) := by decide +kernel
theorem dX6_fitAtFirst_102 : decode cX6_fitAtFirst 102 = .ok (.iload_n 2, 1) := by decide +kernel
theorem dX6_fitAtFirst_103 : decode cX6_fitAtFirst 103 = .ok (.isub, 1) := by decide +kernel
theorem dX6_fitAtFirst_104 : decode cX6_fitAtFirst 104 = .ok (.invokestatic 92, 3) := by decide +kernel
theorem dX6_fitAtFirst_107 : decode cX6_fitAtFirst 107 = .ok (.iaload, 1) := by decide +kernel
theorem dX6_fitAtFirst_108 : decode cX6_fitAtFirst 108 = .ok (.iconst (-1), 1) := by decide +kernel
theorem dX6_fitAtFirst_109 : decode cX6_fitAtFirst 109 = .ok (.ixor, 1) := by decide +kernel
theorem dX6_fitAtFirst_110 : decode cX6_fitAtFirst 110 = .ok (.iand, 1) := by decide +kernel
theorem dX6_fitAtFirst_111 : decode cX6_fitAtFirst 111 = .ok (.istore_n 3, 1) := by decide +kernel
theorem dX6_fitAtFirst_112 : decode cX6_fitAtFirst 112 = .ok (.iinc 4 1, 3) := by decide +kernel
theorem dX6_fitAtFirst_115 : decode cX6_fitAtFirst 115 = .ok (.goto (-54), 3) := by decide +kernel
theorem dX6_fitAtFirst_118 : decode cX6_fitAtFirst 118 = .ok (.iload_n 3, 1) := by decide +kernel
theorem dX6_fitAtFirst_119 : decode cX6_fitAtFirst 119 = .ok (.ireturn, 1) := by decide +kernel
theorem dX6_extend_0 : decode cX6_extend 0 = .ok (.aload_n 0, 1) := by decide +kernel
theorem dX6_extend_1 : decode cX6_extend 1 = .ok (.iload_n 1, 1) := by decide +kernel
theorem dX6_extend_2 : decode cX6_extend 2 = .ok (.iload_n 3, 1) := by decide +kernel
theorem dX6_extend_3 : decode cX6_extend 3 = .ok (.invokevirtual 98, 3) := by decide +kernel
theorem dX6_extend_6 : decode cX6_extend 6 = .ok (.iload_n 1, 1) := by decide +kernel
theorem dX6_extend_7 : decode cX6_extend 7 = .ok (.bipush 12, 2) := by decide +kernel
theorem dX6_extend_9 : decode cX6_extend 9 = .ok (.if_icmp .lt 5, 3) := by decide +kernel
theorem dX6_extend_12 : decode cX6_extend 12 = .ok (.iconst 1, 1) := by decide +kernel
theorem dX6_extend_13 : decode cX6_extend 13 = .ok (.ireturn, 1) := by decide +kernel
theorem dX6_extend_14 : decode cX6_extend 14 = .ok (.bipush 11, 2) := by decide +kernel
theorem dX6_extend_16 : decode cX6_extend 16 = .ok (.istore 4, 2) := by decide +kernel
theorem dX6_extend_18 : decode cX6_extend 18 = .ok (.iload 4, 2) := by decide +kernel
theorem dX6_extend_20 : decode cX6_extend 20 = .ok (.iload_n 2, 1) := by decide +kernel
theorem dX6_extend_21 : decode cX6_extend 21 = .ok (.if_icmp .lt 139, 3) := by decide +kernel
theorem dX6_extend_24 : decode cX6_extend 24 = .ok (.aload_n 0, 1) := by decide +kernel
theorem dX6_extend_25 : decode cX6_extend 25 = .ok (.getfield 26, 3) := by decide +kernel
theorem dX6_extend_28 : decode cX6_extend 28 = .ok (.iload_n 1, 1) := by decide +kernel
theorem dX6_extend_29 : decode cX6_extend 29 = .ok (.aaload, 1) := by decide +kernel
theorem dX6_extend_30 : decode cX6_extend 30 = .ok (.iload 4, 2) := by decide +kernel
theorem dX6_extend_32 : decode cX6_extend 32 = .ok (.iaload, 1) := by decide +kernel
theorem dX6_extend_33 : decode cX6_extend 33 = .ok (.istore 5, 2) := by decide +kernel
theorem dX6_extend_35 : decode cX6_extend 35 = .ok (.iconst 0, 1) := by decide +kernel
theorem dX6_extend_36 : decode cX6_extend 36 = .ok (.istore 6, 2) := by decide +kernel
theorem dX6_extend_38 : decode cX6_extend 38 = .ok (.iload 6, 2) := by decide +kernel
theorem dX6_extend_40 : decode cX6_extend 40 = .ok (.bipush 12, 2) := by decide +kernel
theorem dX6_extend_42 : decode cX6_extend 42 = .ok (.if_icmp .ge 112, 3) := by decide +kernel
theorem dX6_extend_45 : decode cX6_extend 45 = .ok (.iload 5, 2) := by decide +kernel
theorem dX6_extend_47 : decode cX6_extend 47 = .ok (.iload 6, 2) := by decide +kernel
theorem dX6_extend_49 : decode cX6_extend 49 = .ok (.ishr, 1) := by decide +kernel
theorem dX6_extend_50 : decode cX6_extend 50 = .ok (.ifCond .eq 104, 3) := by decide +kernel
theorem dX6_extend_53 : decode cX6_extend 53 = .ok (.iload 5, 2) := by decide +kernel
theorem dX6_extend_55 : decode cX6_extend 55 = .ok (.iload 6, 2) := by decide +kernel
theorem dX6_extend_57 : decode cX6_extend 57 = .ok (.ishr, 1) := by decide +kernel
theorem dX6_extend_58 : decode cX6_extend 58 = .ok (.iconst 1, 1) := by decide +kernel
theorem dX6_extend_59 : decode cX6_extend 59 = .ok (.iand, 1) := by decide +kernel
theorem dX6_extend_60 : decode cX6_extend 60 = .ok (.ifCond .ne 6, 3) := by decide +kernel
theorem dX6_extend_63 : decode cX6_extend 63 = .ok (.goto 85, 3) := by decide +kernel
theorem dX6_extend_66 : decode cX6_extend 66 = .ok (.aload_n 0, 1) := by decide +kernel
theorem dX6_extend_67 : decode cX6_extend 67 = .ok (.getfield 33, 3) := by decide +kernel
theorem dX6_extend_70 : decode cX6_extend 70 = .ok (.aload_n 0, 1) := by decide +kernel
theorem dX6_extend_71 : decode cX6_extend 71 = .ok (.getfield 29, 3) := by decide +kernel
theorem dX6_extend_74 : decode cX6_extend 74 = .ok (.if_icmp .lt 5, 3) := by decide +kernel
theorem dX6_extend_77 : decode cX6_extend 77 = .ok (.iconst 0, 1) := by decide +kernel
theorem dX6_extend_78 : decode cX6_extend 78 = .ok (.ireturn, 1) := by decide +kernel
theorem dX6_extend_79 : decode cX6_extend 79 = .ok (.aload_n 0, 1) := by decide +kernel
theorem dX6_extend_80 : decode cX6_extend 80 = .ok (.dup, 1) := by decide +kernel
theorem dX6_extend_81 : decode cX6_extend 81 = .ok (.getfield 33, 3) := by decide +kernel
theorem dX6_extend_84 : decode cX6_extend 84 = .ok (.iconst 1, 1) := by decide +kernel
theorem dX6_extend_85 : decode cX6_extend 85 = .ok (.iadd, 1) := by decide +kernel
theorem dX6_extend_86 : decode cX6_extend 86 = .ok (.putfield 33, 3) := by decide +kernel
theorem dX6_extend_89 : decode cX6_extend 89 = .ok (.aload_n 0, 1) := by decide +kernel
theorem dX6_extend_90 : decode cX6_extend 90 = .ok (.getfield 15, 3) := by decide +kernel
theorem dX6_extend_93 : decode cX6_extend 93 = .ok (.iload 4, 2) := by decide +kernel
theorem dX6_extend_95 : decode cX6_extend 95 = .ok (.iload 6, 2) := by decide +kernel
theorem dX6_extend_97 : decode cX6_extend 97 = .ok (.iastore, 1) := by decide +kernel
theorem dX6_extend_98 : decode cX6_extend 98 = .ok (.aload_n 0, 1) := by decide +kernel
theorem dX6_extend_99 : decode cX6_extend 99 = .ok (.iload_n 1, 1) := by decide +kernel
theorem dX6_extend_100 : decode cX6_extend 100 = .ok (.iload 4, 2) := by decide +kernel
theorem dX6_extend_102 : decode cX6_extend 102 = .ok (.iload 6, 2) := by decide +kernel
theorem dX6_extend_104 : decode cX6_extend 104 = .ok (.invokevirtual 102, 3) := by decide +kernel
theorem dX6_extend_107 : decode cX6_extend 107 = .ok (.aload_n 0, 1) := by decide +kernel
theorem dX6_extend_108 : decode cX6_extend 108 = .ok (.iload_n 1, 1) := by decide +kernel
theorem dX6_extend_109 : decode cX6_extend 109 = .ok (.iconst 1, 1) := by decide +kernel
theorem dX6_extend_110 : decode cX6_extend 110 = .ok (.iadd, 1) := by decide +kernel
theorem dX6_extend_111 : decode cX6_extend 111 = .ok (.iload 4, 2) := by decide +kernel
theorem dX6_extend_113 : decode cX6_extend 113 = .ok (.iconst 1, 1) := by decide +kernel
theorem dX6_extend_114 : decode cX6_extend 114 = .ok (.iadd, 1) := by decide +kernel
theorem dX6_extend_115 : decode cX6_extend 115 = .ok (.iload_n 3, 1) := by decide +kernel
theorem dX6_extend_116 : decode cX6_extend 116 = .ok (.aload_n 0, 1) := by decide +kernel
theorem dX6_extend_117 : decode cX6_extend 117 = .ok (.getfield 20, 3) := by decide +kernel
theorem dX6_extend_120 : decode cX6_extend 120 = .ok (.iload 6, 2) := by decide +kernel
theorem dX6_extend_122 : decode cX6_extend 122 = .ok (.aaload, 1) := by decide +kernel
theorem dX6_extend_123 : decode cX6_extend 123 = .ok (.iload 4, 2) := by decide +kernel
theorem dX6_extend_125 : decode cX6_extend 125 = .ok (.iaload, 1) := by decide +kernel
theorem dX6_extend_126 : decode cX6_extend 126 = .ok (.iadd, 1) := by decide +kernel
theorem dX6_extend_127 : decode cX6_extend 127 = .ok (.invokevirtual 74, 3) := by decide +kernel
theorem dX6_extend_130 : decode cX6_extend 130 = .ok (.istore 7, 2) := by decide +kernel
theorem dX6_extend_132 : decode cX6_extend 132 = .ok (.aload_n 0, 1) := by decide +kernel
theorem dX6_extend_133 : decode cX6_extend 133 = .ok (.getfield 15, 3) := by decide +kernel
theorem dX6_extend_136 : decode cX6_extend 136 = .ok (.iload 4, 2) := by decide +kernel
theorem dX6_extend_138 : decode cX6_extend 138 = .ok (.ldc 42, 2) := by decide +kernel
theorem dX6_extend_140 : decode cX6_extend 140 = .ok (.iastore, 1) := by decide +kernel
theorem dX6_extend_141 : decode cX6_extend 141 = .ok (.iload 7, 2) := by decide +kernel
theorem dX6_extend_143 : decode cX6_extend 143 = .ok (.ifCond .ne 5, 3) := by decide +kernel
theorem dX6_extend_146 : decode cX6_extend 146 = .ok (.iconst 0, 1) := by decide +kernel
theorem dX6_extend_147 : decode cX6_extend 147 = .ok (.ireturn, 1) := by decide +kernel
theorem dX6_extend_148 : decode cX6_extend 148 = .ok (.iinc 6 1, 3) := by decide +kernel
theorem dX6_extend_151 : decode cX6_extend 151 = .ok (.goto (-113), 3) := by decide +kernel
theorem dX6_extend_154 : decode cX6_extend 154 = .ok (.iinc 4 (-1), 3) := by decide +kernel
theorem dX6_extend_157 : decode cX6_extend 157 = .ok (.goto (-139), 3) := by decide +kernel
theorem dX6_extend_160 : decode cX6_extend 160 = .ok (.iconst 1, 1) := by decide +kernel
theorem dX6_extend_161 : decode cX6_extend 161 = .ok (.ireturn, 1) := by decide +kernel
theorem dX6_narrow_0 : decode cX6_narrow 0 = .ok (.iload_n 2, 1) := by decide +kernel
theorem dX6_narrow_1 : decode cX6_narrow 1 = .ok (.iconst 1, 1) := by decide +kernel
theorem dX6_narrow_2 : decode cX6_narrow 2 = .ok (.iadd, 1) := by decide +kernel
theorem dX6_narrow_3 : decode cX6_narrow 3 = .ok (.istore 4, 2) := by decide +kernel
theorem dX6_narrow_5 : decode cX6_narrow 5 = .ok (.iload 4, 2) := by decide +kernel
theorem dX6_narrow_7 : decode cX6_narrow 7 = .ok (.bipush 12, 2) := by decide +kernel
theorem dX6_narrow_9 : decode cX6_narrow 9 = .ok (.if_icmp .ge 51, 3) := by decide +kernel
theorem dX6_narrow_12 : decode cX6_narrow 12 = .ok (.aload_n 0, 1) := by decide +kernel
theorem dX6_narrow_13 : decode cX6_narrow 13 = .ok (.getfield 23, 3) := by decide +kernel
theorem dX6_narrow_16 : decode cX6_narrow 16 = .ok (.iload_n 3, 1) := by decide +kernel
theorem dX6_narrow_17 : decode cX6_narrow 17 = .ok (.aaload, 1) := by decide +kernel
theorem dX6_narrow_18 : decode cX6_narrow 18 = .ok (.iload 4, 2) := by decide +kernel
theorem dX6_narrow_20 : decode cX6_narrow 20 = .ok (.iload_n 2, 1) := by decide +kernel
theorem dX6_narrow_21 : decode cX6_narrow 21 = .ok (.isub, 1) := by decide +kernel
theorem dX6_narrow_22 : decode cX6_narrow 22 = .ok (.iaload, 1) := by decide +kernel
theorem dX6_narrow_23 : decode cX6_narrow 23 = .ok (.iconst 1, 1) := by decide +kernel
theorem dX6_narrow_24 : decode cX6_narrow 24 = .ok (.iload_n 3, 1) := by decide +kernel
theorem dX6_narrow_25 : decode cX6_narrow 25 = .ok (.ishl, 1) := by decide +kernel
theorem dX6_narrow_26 : decode cX6_narrow 26 = .ok (.ior, 1) := by decide +kernel
theorem dX6_narrow_27 : decode cX6_narrow 27 = .ok (.istore 5, 2) := by decide +kernel
theorem dX6_narrow_29 : decode cX6_narrow 29 = .ok (.aload_n 0, 1) := by decide +kernel
theorem dX6_narrow_30 : decode cX6_narrow 30 = .ok (.getfield 26, 3) := by decide +kernel
theorem dX6_narrow_33 : decode cX6_narrow 33 = .ok (.iload_n 1, 1) := by decide +kernel
theorem dX6_narrow_34 : decode cX6_narrow 34 = .ok (.iconst 1, 1) := by decide +kernel
theorem dX6_narrow_35 : decode cX6_narrow 35 = .ok (.iadd, 1) := by decide +kernel
theorem dX6_narrow_36 : decode cX6_narrow 36 = .ok (.aaload, 1) := by decide +kernel
theorem dX6_narrow_37 : decode cX6_narrow 37 = .ok (.iload 4, 2) := by decide +kernel
theorem dX6_narrow_39 : decode cX6_narrow 39 = .ok (.aload_n 0, 1) := by decide +kernel
theorem dX6_narrow_40 : decode cX6_narrow 40 = .ok (.getfield 26, 3) := by decide +kernel
theorem dX6_narrow_43 : decode cX6_narrow 43 = .ok (.iload_n 1, 1) := by decide +kernel
theorem dX6_narrow_44 : decode cX6_narrow 44 = .ok (.aaload, 1) := by decide +kernel
theorem dX6_narrow_45 : decode cX6_narrow 45 = .ok (.iload 4, 2) := by decide +kernel
theorem dX6_narrow_47 : decode cX6_narrow 47 = .ok (.iaload, 1) := by decide +kernel
theorem dX6_narrow_48 : decode cX6_narrow 48 = .ok (.iload 5, 2) := by decide +kernel
theorem dX6_narrow_50 : decode cX6_narrow 50 = .ok (.iconst (-1), 1) := by decide +kernel
theorem dX6_narrow_51 : decode cX6_narrow 51 = .ok (.ixor, 1) := by decide +kernel
theorem dX6_narrow_52 : decode cX6_narrow 52 = .ok (.iand, 1) := by decide +kernel
theorem dX6_narrow_53 : decode cX6_narrow 53 = .ok (.iastore, 1) := by decide +kernel
theorem dX6_narrow_54 : decode cX6_narrow 54 = .ok (.iinc 4 1, 3) := by decide +kernel
theorem dX6_narrow_57 : decode cX6_narrow 57 = .ok (.goto (-52), 3) := by decide +kernel
theorem dX6_narrow_60 : decode cX6_narrow 60 = .ok (.return_, 1) := by decide +kernel
theorem dX6_compare_0 : decode cX6_compare 0 = .ok (.iload_n 2, 1) := by decide +kernel
theorem dX6_compare_1 : decode cX6_compare 1 = .ok (.aload_n 0, 1) := by decide +kernel
theorem dX6_compare_2 : decode cX6_compare 2 = .ok (.getfield 36, 3) := by decide +kernel
theorem dX6_compare_5 : decode cX6_compare 5 = .ok (.if_icmp .gt 19, 3) := by decide +kernel
theorem dX6_compare_8 : decode cX6_compare 8 = .ok (.iload_n 2, 1) := by decide +kernel
theorem dX6_compare_9 : decode cX6_compare 9 = .ok (.aload_n 0, 1) := by decide +kernel
theorem dX6_compare_10 : decode cX6_compare 10 = .ok (.getfield 36, 3) := by decide +kernel
theorem dX6_compare_13 : decode cX6_compare 13 = .ok (.if_icmp .ne 36, 3) := by decide +kernel
theorem dX6_compare_16 : decode cX6_compare 16 = .ok (.iload_n 1, 1) := by decide +kernel
theorem dX6_compare_17 : decode cX6_compare 17 = .ok (.aload_n 0, 1) := by decide +kernel
theorem dX6_compare_18 : decode cX6_compare 18 = .ok (.getfield 39, 3) := by decide +kernel
theorem dX6_compare_21 : decode cX6_compare 21 = .ok (.if_icmp .ge 28, 3) := by decide +kernel
theorem dX6_compare_24 : decode cX6_compare 24 = .ok (.aload_n 0, 1) := by decide +kernel
theorem dX6_compare_25 : decode cX6_compare 25 = .ok (.iload_n 2, 1) := by decide +kernel
theorem dX6_compare_26 : decode cX6_compare 26 = .ok (.putfield 36, 3) := by decide +kernel
theorem dX6_compare_29 : decode cX6_compare 29 = .ok (.aload_n 0, 1) := by decide +kernel
theorem dX6_compare_30 : decode cX6_compare 30 = .ok (.iload_n 1, 1) := by decide +kernel
theorem dX6_compare_31 : decode cX6_compare 31 = .ok (.putfield 39, 3) := by decide +kernel
theorem dX6_compare_34 : decode cX6_compare 34 = .ok (.aload_n 0, 1) := by decide +kernel
theorem dX6_compare_35 : decode cX6_compare 35 = .ok (.getfield 15, 3) := by decide +kernel
theorem dX6_compare_38 : decode cX6_compare 38 = .ok (.iconst 0, 1) := by decide +kernel
theorem dX6_compare_39 : decode cX6_compare 39 = .ok (.aload_n 0, 1) := by decide +kernel
theorem dX6_compare_40 : decode cX6_compare 40 = .ok (.getfield 9, 3) := by decide +kernel
theorem dX6_compare_43 : decode cX6_compare 43 = .ok (.iconst 0, 1) := by decide +kernel
theorem dX6_compare_44 : decode cX6_compare 44 = .ok (.bipush 12, 2) := by decide +kernel
theorem dX6_compare_46 : decode cX6_compare 46 = .ok (.invokestatic 106, 3) := by decide +kernel
theorem dX6_compare_49 : decode cX6_compare 49 = .ok (.return_, 1) := by decide +kernel
theorem dX7_add_0 : decode cX7_add 0 = .ok (.aload_n 0, 1) := by decide +kernel
theorem dX7_add_1 : decode cX7_add 1 = .ok (.getfield 9, 3) := by decide +kernel
theorem dX7_add_4 : decode cX7_add 4 = .ok (.aload_n 0, 1) := by decide +kernel
theorem dX7_add_5 : decode cX7_add 5 = .ok (.getfield 21, 3) := by decide +kernel
theorem dX7_add_8 : decode cX7_add 8 = .ok (.iload_n 1, 1) := by decide +kernel
theorem dX7_add_9 : decode cX7_add 9 = .ok (.iastore, 1) := by decide +kernel
theorem dX7_add_10 : decode cX7_add 10 = .ok (.aload_n 0, 1) := by decide +kernel
theorem dX7_add_11 : decode cX7_add 11 = .ok (.getfield 15, 3) := by decide +kernel
theorem dX7_add_14 : decode cX7_add 14 = .ok (.aload_n 0, 1) := by decide +kernel
theorem dX7_add_15 : decode cX7_add 15 = .ok (.getfield 21, 3) := by decide +kernel
theorem dX7_add_18 : decode cX7_add 18 = .ok (.iload_n 2, 1) := by decide +kernel
theorem dX7_add_19 : decode cX7_add 19 = .ok (.iastore, 1) := by decide +kernel
theorem dX7_add_20 : decode cX7_add 20 = .ok (.aload_n 0, 1) := by decide +kernel
theorem dX7_add_21 : decode cX7_add 21 = .ok (.getfield 18, 3) := by decide +kernel
theorem dX7_add_24 : decode cX7_add 24 = .ok (.aload_n 0, 1) := by decide +kernel
theorem dX7_add_25 : decode cX7_add 25 = .ok (.getfield 21, 3) := by decide +kernel
theorem dX7_add_28 : decode cX7_add 28 = .ok (.iload_n 3, 1) := by decide +kernel
theorem dX7_add_29 : decode cX7_add 29 = .ok (.iastore, 1) := by decide +kernel
theorem dX7_add_30 : decode cX7_add 30 = .ok (.aload_n 0, 1) := by decide +kernel
theorem dX7_add_31 : decode cX7_add 31 = .ok (.dup, 1) := by decide +kernel
theorem dX7_add_32 : decode cX7_add 32 = .ok (.getfield 21, 3) := by decide +kernel
theorem dX7_add_35 : decode cX7_add 35 = .ok (.iconst 1, 1) := by decide +kernel
theorem dX7_add_36 : decode cX7_add 36 = .ok (.iadd, 1) := by decide +kernel
theorem dX7_add_37 : decode cX7_add 37 = .ok (.putfield 21, 3) := by decide +kernel
theorem dX7_add_40 : decode cX7_add 40 = .ok (.return_, 1) := by decide +kernel
theorem dX7_become_0 : decode cX7_become 0 = .ok (.aload_n 1, 1) := by decide +kernel
theorem dX7_become_1 : decode cX7_become 1 = .ok (.getfield 9, 3) := by decide +kernel
theorem dX7_become_4 : decode cX7_become 4 = .ok (.iconst 0, 1) := by decide +kernel
theorem dX7_become_5 : decode cX7_become 5 = .ok (.aload_n 0, 1) := by decide +kernel
theorem dX7_become_6 : decode cX7_become 6 = .ok (.getfield 9, 3) := by decide +kernel
theorem dX7_become_9 : decode cX7_become 9 = .ok (.iconst 0, 1) := by decide +kernel
theorem dX7_become_10 : decode cX7_become 10 = .ok (.sipush 200, 3) := by decide +kernel
theorem dX7_become_13 : decode cX7_become 13 = .ok (.invokestatic 25, 3) := by decide +kernel
theorem dX7_become_16 : decode cX7_become 16 = .ok (.aload_n 1, 1) := by decide +kernel
theorem dX7_become_17 : decode cX7_become 17 = .ok (.getfield 15, 3) := by decide +kernel
theorem dX7_become_20 : decode cX7_become 20 = .ok (.iconst 0, 1) := by decide +kernel
theorem dX7_become_21 : decode cX7_become 21 = .ok (.aload_n 0, 1) := by decide +kernel
theorem dX7_become_22 : decode cX7_become 22 = .ok (.getfield 15, 3) := by decide +kernel
theorem dX7_become_25 : decode cX7_become 25 = .ok (.iconst 0, 1) := by decide +kernel
theorem dX7_become_26 : decode cX7_become 26 = .ok (.sipush 200, 3) := by decide +kernel
theorem dX7_become_29 : decode cX7_become 29 = .ok (.invokestatic 25, 3) := by decide +kernel
theorem dX7_become_32 : decode cX7_become 32 = .ok (.aload_n 1, 1) := by decide +kernel
theorem dX7_become_33 : decode cX7_become 33 = .ok (.getfield 18, 3) := by decide +kernel
theorem dX7_become_36 : decode cX7_become 36 = .ok (.iconst 0, 1) := by decide +kernel
theorem dX7_become_37 : decode cX7_become 37 = .ok (.aload_n 0, 1) := by decide +kernel
theorem dX7_become_38 : decode cX7_become 38 = .ok (.getfield 18, 3) := by decide +kernel
theorem dX7_become_41 : decode cX7_become 41 = .ok (.iconst 0, 1) := by decide +kernel
theorem dX7_become_42 : decode cX7_become 42 = .ok (.sipush 200, 3) := by decide +kernel
theorem dX7_become_45 : decode cX7_become 45 = .ok (.invokestatic 25, 3) := by decide +kernel
theorem dX7_become_48 : decode cX7_become 48 = .ok (.aload_n 0, 1) := by decide +kernel
theorem dX7_become_49 : decode cX7_become 49 = .ok (.aload_n 1, 1) := by decide +kernel
theorem dX7_become_50 : decode cX7_become 50 = .ok (.getfield 21, 3) := by decide +kernel
theorem dX7_become_53 : decode cX7_become 53 = .ok (.putfield 21, 3) := by decide +kernel
theorem dX7_become_56 : decode cX7_become 56 = .ok (.return_, 1) := by decide +kernel
theorem dX8_append_0 : decode cX8_append 0 = .ok (.bipush 24, 2) := by decide +kernel
theorem dX8_append_2 : decode cX8_append 2 = .ok (.istore_n 2, 1) := by decide +kernel
theorem dX8_append_3 : decode cX8_append 3 = .ok (.iload_n 2, 1) := by decide +kernel
theorem dX8_append_4 : decode cX8_append 4 = .ok (.ifCond .lt 42, 3) := by decide +kernel
theorem dX8_append_7 : decode cX8_append 7 = .ok (.aload_n 0, 1) := by decide +kernel
theorem dX8_append_8 : decode cX8_append 8 = .ok (.getfield 22, 3) := by decide +kernel
theorem dX8_append_11 : decode cX8_append 11 = .ok (.sipush 132, 3) := by decide +kernel
theorem dX8_append_14 : decode cX8_append 14 = .ok (.if_icmp .ge 26, 3) := by decide +kernel
theorem dX8_append_17 : decode cX8_append 17 = .ok (.aload_n 0, 1) := by decide +kernel
theorem dX8_append_18 : decode cX8_append 18 = .ok (.getfield 18, 3) := by decide +kernel
theorem dX8_append_21 : decode cX8_append 21 = .ok (.aload_n 0, 1) := by decide +kernel
theorem dX8_append_22 : decode cX8_append 22 = .ok (.getfield 22, 3) := by decide +kernel
theorem dX8_append_25 : decode cX8_append 25 = .ok (.iload_n 1, 1) := by decide +kernel
theorem dX8_append_26 : decode cX8_append 26 = .ok (.iload_n 2, 1) := by decide +kernel
theorem dX8_append_27 : decode cX8_append 27 = .ok (.ishr, 1) := by decide +kernel
theorem dX8_append_28 : decode cX8_append 28 = .ok (.i2b, 1) := by decide +kernel
theorem dX8_append_29 : decode cX8_append 29 = .ok (.bastore, 1) := by decide +kernel
theorem dX8_append_30 : decode cX8_append 30 = .ok (.aload_n 0, 1) := by decide +kernel
theorem dX8_append_31 : decode cX8_append 31 = .ok (.dup, 1) := by decide +kernel
theorem dX8_append_32 : decode cX8_append 32 = .ok (.getfield 22, 3) := by decide +kernel
theorem dX8_append_35 : decode cX8_append 35 = .ok (.iconst 1, 1) := by decide +kernel
theorem dX8_append_36 : decode cX8_append 36 = .ok (.iadd, 1) := by decide +kernel
theorem dX8_append_37 : decode cX8_append 37 = .ok (.putfield 22, 3) := by decide +kernel
theorem dX8_append_40 : decode cX8_append 40 = .ok (.iinc 2 (-8), 3) := by decide +kernel
theorem dX8_append_43 : decode cX8_append 43 = .ok (.goto (-40), 3) := by decide +kernel
theorem dX8_append_46 : decode cX8_append 46 = .ok (.return_, 1) := by decide +kernel
theorem dX8_findFault_0 : decode cX8_findFault 0 = .ok (.aload_n 0, 1) := by decide +kernel
theorem dX8_findFault_1 : decode cX8_findFault 1 = .ok (.iconst 0, 1) := by decide +kernel
theorem dX8_findFault_2 : decode cX8_findFault 2 = .ok (.putfield 26, 3) := by decide +kernel
theorem dX8_findFault_5 : decode cX8_findFault 5 = .ok (.aload_n 0, 1) := by decide +kernel
theorem dX8_findFault_6 : decode cX8_findFault 6 = .ok (.iconst 0, 1) := by decide +kernel
theorem dX8_findFault_7 : decode cX8_findFault 7 = .ok (.putfield 29, 3) := by decide +kernel
theorem dX8_findFault_10 : decode cX8_findFault 10 = .ok (.aload_n 0, 1) := by decide +kernel
theorem dX8_findFault_11 : decode cX8_findFault 11 = .ok (.iconst 0, 1) := by decide +kernel
theorem dX8_findFault_12 : decode cX8_findFault 12 = .ok (.putfield 32, 3) := by decide +kernel
theorem dX8_findFault_15 : decode cX8_findFault 15 = .ok (.aload_n 0, 1) := by decide +kernel
theorem dX8_findFault_16 : decode cX8_findFault 16 = .ok (.iconst (-1), 1) := by decide +kernel
theorem dX8_findFault_17 : decode cX8_findFault 17 = .ok (.putfield 35, 3) := by decide +kernel
theorem dX8_findFault_20 : decode cX8_findFault 20 = .ok (.aload_n 0, 1) := by decide +kernel
theorem dX8_findFault_21 : decode cX8_findFault 21 = .ok (.invokevirtual 38, 3) := by decide +kernel
theorem dX8_findFault_24 : decode cX8_findFault 24 = .ok (.iconst 0, 1) := by decide +kernel
theorem dX8_findFault_25 : decode cX8_findFault 25 = .ok (.istore_n 1, 1) := by decide +kernel
theorem dX8_findFault_26 : decode cX8_findFault 26 = .ok (.iload_n 1, 1) := by decide +kernel
theorem dX8_findFault_27 : decode cX8_findFault 27 = .ok (.iconst 3, 1) := by decide +kernel
theorem dX8_findFault_28 : decode cX8_findFault 28 = .ok (.if_icmp .ge 54, 3) := by decide +kernel
theorem dX8_findFault_31 : decode cX8_findFault 31 = .ok (.aload_n 0, 1) := by decide +kernel
theorem dX8_findFault_32 : decode cX8_findFault 32 = .ok (.getfield 35, 3) := by decide +kernel
theorem dX8_findFault_35 : decode cX8_findFault 35 = .ok (.bipush (-5), 2) := by decide +kernel
theorem dX8_findFault_37 : decode cX8_findFault 37 = .ok (.iload_n 1, 1) := by decide +kernel
theorem dX8_findFault_38 : decode cX8_findFault 38 = .ok (.isub, 1) := by decide +kernel
theorem dX8_findFault_39 : decode cX8_findFault 39 = .ok (.if_icmp .eq 8, 3) := by decide +kernel
theorem dX8_findFault_42 : decode cX8_findFault 42 = .ok (.aload_n 0, 1) := by decide +kernel
theorem dX8_findFault_43 : decode cX8_findFault 43 = .ok (.getfield 41, 3) := by decide +kernel
theorem dX8_findFault_46 : decode cX8_findFault 46 = .ok (.ireturn, 1) := by decide +kernel
theorem dX8_findFault_47 : decode cX8_findFault 47 = .ok (.aload_n 0, 1) := by decide +kernel
theorem dX8_findFault_48 : decode cX8_findFault 48 = .ok (.invokevirtual 38, 3) := by decide +kernel
theorem dX8_findFault_51 : decode cX8_findFault 51 = .ok (.aload_n 0, 1) := by decide +kernel
theorem dX8_findFault_52 : decode cX8_findFault 52 = .ok (.iconst 0, 1) := by decide +kernel
theorem dX8_findFault_53 : decode cX8_findFault 53 = .ok (.iconst 0, 1) := by decide +kernel
theorem dX8_findFault_54 : decode cX8_findFault 54 = .ok (.iconst 0, 1) := by decide +kernel
theorem dX8_findFault_55 : decode cX8_findFault 55 = .ok (.invokevirtual 44, 3) := by decide +kernel
theorem dX8_findFault_58 : decode cX8_findFault 58 = .ok (.ifCond .ne 8, 3) := by decide +kernel
theorem dX8_findFault_61 : decode cX8_findFault 61 = .ok (.aload_n 0, 1) := by decide +kernel
theorem dX8_findFault_62 : decode cX8_findFault 62 = .ok (.getfield 41, 3) := by decide +kernel
theorem dX8_findFault_65 : decode cX8_findFault 65 = .ok (.ireturn, 1) := by decide +kernel
theorem dX8_findFault_66 : decode cX8_findFault 66 = .ok (.aload_n 0, 1) := by decide +kernel
theorem dX8_findFault_67 : decode cX8_findFault 67 = .ok (.getfield 15, 3) := by decide +kernel
theorem dX8_findFault_70 : decode cX8_findFault 70 = .ok (.iload_n 1, 1) := by decide +kernel
theorem dX8_findFault_71 : decode cX8_findFault 71 = .ok (.aload_n 0, 1) := by decide +kernel
theorem dX8_findFault_72 : decode cX8_findFault 72 = .ok (.getfield 29, 3) := by decide +kernel
theorem dX8_findFault_75 : decode cX8_findFault 75 = .ok (.iastore, 1) := by decide +kernel
theorem dX8_findFault_76 : decode cX8_findFault 76 = .ok (.iinc 1 1, 3) := by decide +kernel
theorem dX8_findFault_79 : decode cX8_findFault 79 = .ok (.goto (-53), 3) := by decide +kernel
theorem dX8_findFault_82 : decode cX8_findFault 82 = .ok (.aload_n 0, 1) := by decide +kernel
theorem dX8_findFault_83 : decode cX8_findFault 83 = .ok (.getfield 35, 3) := by decide +kernel
theorem dX8_findFault_86 : decode cX8_findFault 86 = .ok (.iconst (-1), 1) := by decide +kernel
theorem dX8_findFault_87 : decode cX8_findFault 87 = .ok (.if_icmp .ne 8, 3) := by decide +kernel
theorem dX8_findFault_90 : decode cX8_findFault 90 = .ok (.ldc 48, 2) := by decide +kernel
theorem dX8_findFault_92 : decode cX8_findFault 92 = .ok (.goto 7, 3) := by decide +kernel
theorem dX8_findFault_95 : decode cX8_findFault 95 = .ok (.aload_n 0, 1) := by decide +kernel
theorem dX8_findFault_96 : decode cX8_findFault 96 = .ok (.getfield 41, 3) := by decide +kernel
theorem dX8_findFault_99 : decode cX8_findFault 99 = .ok (.ireturn, 1) := by decide +kernel
theorem dX8_expression_0 : decode cX8_expression 0 = .ok (.iload_n 1, 1) := by decide +kernel
theorem dX8_expression_1 : decode cX8_expression 1 = .ok (.iconst 4, 1) := by decide +kernel
theorem dX8_expression_2 : decode cX8_expression 2 = .ok (.if_icmp .le 10, 3) := by decide +kernel
theorem dX8_expression_5 : decode cX8_expression 5 = .ok (.aload_n 0, 1) := by decide +kernel
theorem dX8_expression_6 : decode cX8_expression 6 = .ok (.iload_n 2, 1) := by decide +kernel
theorem dX8_expression_7 : decode cX8_expression 7 = .ok (.iload_n 3, 1) := by decide +kernel
theorem dX8_expression_8 : decode cX8_expression 8 = .ok (.invokevirtual 49, 3) := by decide +kernel
theorem dX8_expression_11 : decode cX8_expression 11 = .ok (.ireturn, 1) := by decide +kernel
theorem dX8_expression_12 : decode cX8_expression 12 = .ok (.aload_n 0, 1) := by decide +kernel
theorem dX8_expression_13 : decode cX8_expression 13 = .ok (.iload_n 1, 1) := by decide +kernel
theorem dX8_expression_14 : decode cX8_expression 14 = .ok (.iconst 1, 1) := by decide +kernel
theorem dX8_expression_15 : decode cX8_expression 15 = .ok (.iadd, 1) := by decide +kernel
theorem dX8_expression_16 : decode cX8_expression 16 = .ok (.iload_n 2, 1) := by decide +kernel
theorem dX8_expression_17 : decode cX8_expression 17 = .ok (.iload_n 3, 1) := by decide +kernel
theorem dX8_expression_18 : decode cX8_expression 18 = .ok (.invokevirtual 44, 3) := by decide +kernel
theorem dX8_expression_21 : decode cX8_expression 21 = .ok (.ifCond .ne 5, 3) := by decide +kernel
theorem dX8_expression_24 : decode cX8_expression 24 = .ok (.iconst 0, 1) := by decide +kernel
theorem dX8_expression_25 : decode cX8_expression 25 = .ok (.ireturn, 1) := by decide +kernel
theorem dX8_expression_26 : decode cX8_expression 26 = .ok (.iload_n 1, 1) := by decide +kernel
theorem dX8_expression_27 : decode cX8_expression 27 = .ok (.iconst 2, 1) := by decide +kernel
theorem dX8_expression_28 : decode cX8_expression 28 = .ok (.if_icmp .ne 7, 3) := by decide +kernel
theorem dX8_expression_31 : decode cX8_expression 31 = .ok (.iconst 1, 1) := by decide +kernel
theorem dX8_expression_32 : decode cX8_expression 32 = .ok (.goto 6, 3) := by decide +kernel
theorem dX8_expression_35 : decode cX8_expression 35 = .ok (.sipush 132, 3) := by decide +kernel
theorem dX8_expression_38 : decode cX8_expression 38 = .ok (.istore 4, 2) := by decide +kernel
theorem dX8_expression_40 : decode cX8_expression 40 = .ok (.iconst 0, 1) := by decide +kernel
theorem dX8_expression_41 : decode cX8_expression 41 = .ok (.istore 5, 2) := by decide +kernel
theorem dX8_expression_43 : decode cX8_expression 43 = .ok (.iload 5, 2) := by decide +kernel
theorem dX8_expression_45 : decode cX8_expression 45 = .ok (.iload 4, 2) := by decide +kernel
theorem dX8_expression_47 : decode cX8_expression 47 = .ok (.if_icmp .ge 51, 3) := by decide +kernel
theorem dX8_expression_50 : decode cX8_expression 50 = .ok (.aload_n 0, 1) := by decide +kernel
theorem dX8_expression_51 : decode cX8_expression 51 = .ok (.getfield 35, 3) := by decide +kernel
theorem dX8_expression_54 : decode cX8_expression 54 = .ok (.invokestatic 53, 3) := by decide +kernel
theorem dX8_expression_57 : decode cX8_expression 57 = .ok (.iload_n 1, 1) := by decide +kernel
theorem dX8_expression_58 : decode cX8_expression 58 = .ok (.if_icmp .ne 40, 3) := by decide +kernel
theorem dX8_expression_61 : decode cX8_expression 61 = .ok (.aload_n 0, 1) := by decide +kernel
theorem dX8_expression_62 : decode cX8_expression 62 = .ok (.getfield 35, 3) := by decide +kernel
theorem dX8_expression_65 : decode cX8_expression 65 = .ok (.istore 6, 2) := by decide +kernel
theorem dX8_expression_67 : decode cX8_expression 67 = .ok (.aload_n 0, 1) := by decide +kernel
theorem dX8_expression_68 : decode cX8_expression 68 = .ok (.invokevirtual 38, 3) := by decide +kernel
theorem dX8_expression_71 : decode cX8_expression 71 = .ok (.aload_n 0, 1) := by decide +kernel
theorem dX8_expression_72 : decode cX8_expression 72 = .ok (.iload_n 1, 1) := by decide +kernel
theorem dX8_expression_73 : decode cX8_expression 73 = .ok (.iconst 1, 1) := by decide +kernel
theorem dX8_expression_74 : decode cX8_expression 74 = .ok (.iadd, 1) := by decide +kernel
theorem dX8_expression_75 : decode cX8_expression 75 = .ok (.iload_n 2, 1) := by decide +kernel
theorem dX8_expression_76 : decode cX8_expression 76 = .ok (.iload_n 3, 1) := by decide +kernel
theorem dX8_expression_77 : decode cX8_expression 77 = .ok (.invokevirtual 44, 3) := by decide +kernel
theorem dX8_expression_80 : decode cX8_expression 80 = .ok (.ifCond .ne 5, 3) := by decide +kernel
theorem dX8_expression_83 : decode cX8_expression 83 = .ok (.iconst 0, 1) := by decide +kernel
theorem dX8_expression_84 : decode cX8_expression 84 = .ok (.ireturn, 1) := by decide +kernel
theorem dX8_expression_85 : decode cX8_expression 85 = .ok (.aload_n 0, 1) := by decide +kernel
theorem dX8_expression_86 : decode cX8_expression 86 = .ok (.iload 6, 2) := by decide +kernel
theorem dX8_expression_88 : decode cX8_expression 88 = .ok (.ineg, 1) := by decide +kernel
theorem dX8_expression_89 : decode cX8_expression 89 = .ok (.invokevirtual 57, 3) := by decide +kernel
theorem dX8_expression_92 : decode cX8_expression 92 = .ok (.iinc 5 1, 3) := by decide +kernel
theorem dX8_expression_95 : decode cX8_expression 95 = .ok (.goto (-52), 3) := by decide +kernel
theorem dX8_expression_98 : decode cX8_expression 98 = .ok (.iconst 1, 1) := by decide +kernel
theorem dX8_expression_99 : decode cX8_expression 99 = .ok (.ireturn, 1) := by decide +kernel
theorem dX8_part_0 : decode cX8_part 0 = .ok (.aload_n 0, 1) := by decide +kernel
theorem dX8_part_1 : decode cX8_part 1 = .ok (.getfield 35, 3) := by decide +kernel
theorem dX8_part_4 : decode cX8_part 4 = .ok (.bipush (-3), 2) := by decide +kernel
theorem dX8_part_6 : decode cX8_part 6 = .ok (.if_icmp .eq 12, 3) := by decide +kernel
theorem dX8_part_9 : decode cX8_part 9 = .ok (.aload_n 0, 1) := by decide +kernel
theorem dX8_part_10 : decode cX8_part 10 = .ok (.getfield 35, 3) := by decide +kernel
theorem dX8_part_13 : decode cX8_part 13 = .ok (.bipush (-4), 2) := by decide +kernel
theorem dX8_part_15 : decode cX8_part 15 = .ok (.if_icmp .ne 27, 3) := by decide +kernel
theorem dX8_part_18 : decode cX8_part 18 = .ok (.aload_n 0, 1) := by decide +kernel
theorem dX8_part_19 : decode cX8_part 19 = .ok (.aload_n 0, 1) := by decide +kernel
theorem dX8_part_20 : decode cX8_part 20 = .ok (.getfield 61, 3) := by decide +kernel
theorem dX8_part_23 : decode cX8_part 23 = .ok (.invokevirtual 57, 3) := by decide +kernel
theorem dX8_part_26 : decode cX8_part 26 = .ok (.aload_n 0, 1) := by decide +kernel
theorem dX8_part_27 : decode cX8_part 27 = .ok (.dup, 1) := by decide +kernel
theorem dX8_part_28 : decode cX8_part 28 = .ok (.getfield 32, 3) := by decide +kernel
theorem dX8_part_31 : decode cX8_part 31 = .ok (.iconst 1, 1) := by decide +kernel
theorem dX8_part_32 : decode cX8_part 32 = .ok (.iadd, 1) := by decide +kernel
theorem dX8_part_33 : decode cX8_part 33 = .ok (.putfield 32, 3) := by decide +kernel
theorem dX8_part_36 : decode cX8_part 36 = .ok (.aload_n 0, 1) := by decide +kernel
theorem dX8_part_37 : decode cX8_part 37 = .ok (.invokevirtual 38, 3) := by decide +kernel
theorem dX8_part_40 : decode cX8_part 40 = .ok (.iconst 1, 1) := by decide +kernel
theorem dX8_part_41 : decode cX8_part 41 = .ok (.ireturn, 1) := by decide +kernel
theorem dX8_part_42 : decode cX8_part 42 = .ok (.aload_n 0, 1) := by decide +kernel
theorem dX8_part_43 : decode cX8_part 43 = .ok (.getfield 35, 3) := by decide +kernel
theorem dX8_part_46 : decode cX8_part 46 = .ok (.bipush 33, 2) := by decide +kernel
theorem dX8_part_48 : decode cX8_part 48 = .ok (.if_icmp .ne 34, 3) := by decide +kernel
theorem dX8_part_51 : decode cX8_part 51 = .ok (.iload_n 2, 1) := by decide +kernel
theorem dX8_part_52 : decode cX8_part 52 = .ok (.bipush 8, 2) := by decide +kernel
theorem dX8_part_54 : decode cX8_part 54 = .ok (.if_icmp .ge 28, 3) := by decide +kernel
theorem dX8_part_57 : decode cX8_part 57 = .ok (.aload_n 0, 1) := by decide +kernel
theorem dX8_part_58 : decode cX8_part 58 = .ok (.invokevirtual 38, 3) := by decide +kernel
theorem dX8_part_61 : decode cX8_part 61 = .ok (.aload_n 0, 1) := by decide +kernel
theorem dX8_part_62 : decode cX8_part 62 = .ok (.iload_n 1, 1) := by decide +kernel
theorem dX8_part_63 : decode cX8_part 63 = .ok (.iload_n 2, 1) := by decide +kernel
theorem dX8_part_64 : decode cX8_part 64 = .ok (.iconst 1, 1) := by decide +kernel
theorem dX8_part_65 : decode cX8_part 65 = .ok (.iadd, 1) := by decide +kernel
theorem dX8_part_66 : decode cX8_part 66 = .ok (.invokevirtual 49, 3) := by decide +kernel
theorem dX8_part_69 : decode cX8_part 69 = .ok (.ifCond .ne 5, 3) := by decide +kernel
theorem dX8_part_72 : decode cX8_part 72 = .ok (.iconst 0, 1) := by decide +kernel
theorem dX8_part_73 : decode cX8_part 73 = .ok (.ireturn, 1) := by decide +kernel
theorem dX8_part_74 : decode cX8_part 74 = .ok (.aload_n 0, 1) := by decide +kernel
theorem dX8_part_75 : decode cX8_part 75 = .ok (.bipush (-33), 2) := by decide +kernel
theorem dX8_part_77 : decode cX8_part 77 = .ok (.invokevirtual 57, 3) := by decide +kernel
theorem dX8_part_80 : decode cX8_part 80 = .ok (.iconst 1, 1) := by decide +kernel
theorem dX8_part_81 : decode cX8_part 81 = .ok (.ireturn, 1) := by decide +kernel
theorem dX8_part_82 : decode cX8_part 82 = .ok (.aload_n 0, 1) := by decide +kernel
theorem dX8_part_83 : decode cX8_part 83 = .ok (.getfield 35, 3) := by decide +kernel
theorem dX8_part_86 : decode cX8_part 86 = .ok (.bipush 40, 2) := by decide +kernel
theorem dX8_part_88 : decode cX8_part 88 = .ok (.if_icmp .ne 42, 3) := by decide +kernel
theorem dX8_part_91 : decode cX8_part 91 = .ok (.iload_n 1, 1) := by decide +kernel
theorem dX8_part_92 : decode cX8_part 92 = .ok (.bipush 8, 2) := by decide +kernel
theorem dX8_part_94 : decode cX8_part 94 = .ok (.if_icmp .ge 36, 3) := by decide +kernel
theorem dX8_part_97 : decode cX8_part 97 = .ok (.aload_n 0, 1) := by decide +kernel
theorem dX8_part_98 : decode cX8_part 98 = .ok (.invokevirtual 38, 3) := by decide +kernel
theorem dX8_part_101 : decode cX8_part 101 = .ok (.aload_n 0, 1) := by decide +kernel
theorem dX8_part_102 : decode cX8_part 102 = .ok (.iconst 0, 1) := by decide +kernel
theorem dX8_part_103 : decode cX8_part 103 = .ok (.iload_n 1, 1) := by decide +kernel
theorem dX8_part_104 : decode cX8_part 104 = .ok (.iconst 1, 1) := by decide +kernel
theorem dX8_part_105 : decode cX8_part 105 = .ok (.iadd, 1) := by decide +kernel
theorem dX8_part_106 : decode cX8_part 106 = .ok (.iload_n 2, 1) := by decide +kernel
theorem dX8_part_107 : decode cX8_part 107 = .ok (.invokevirtual 44, 3) := by decide +kernel
theorem dX8_part_110 : decode cX8_part 110 = .ok (.ifCond .eq 12, 3) := by decide +kernel
theorem dX8_part_113 : decode cX8_part 113 = .ok (.aload_n 0, 1) := by decide +kernel
theorem dX8_part_114 : decode cX8_part 114 = .ok (.getfield 35, 3) := by decide +kernel
theorem dX8_part_117 : decode cX8_part 117 = .ok (.bipush 41, 2) := by decide +kernel
theorem dX8_part_119 : decode cX8_part 119 = .ok (.if_icmp .eq 5, 3) := by decide +kernel
theorem dX8_part_122 : decode cX8_part 122 = .ok (.iconst 0, 1) := by decide +kernel
theorem dX8_part_123 : decode cX8_part 123 = .ok (.ireturn, 1) := by decide +kernel
theorem dX8_part_124 : decode cX8_part 124 = .ok (.aload_n 0, 1) := by decide +kernel
theorem dX8_part_125 : decode cX8_part 125 = .ok (.invokevirtual 38, 3) := by decide +kernel
theorem dX8_part_128 : decode cX8_part 128 = .ok (.iconst 1, 1) := by decide +kernel
theorem dX8_part_129 : decode cX8_part 129 = .ok (.ireturn, 1) := by decide +kernel
theorem dX8_part_130 : decode cX8_part 130 = .ok (.iconst 0, 1) := by decide +kernel
theorem dX8_part_131 : decode cX8_part 131 = .ok (.ireturn, 1) := by decide +kernel
theorem dX8_levelOf_0 : decode cX8_levelOf 0 = .ok (.iload_n 0, 1) := by decide +kernel
theorem dX8_levelOf_1 : decode cX8_levelOf 1 = .ok (.lookupswitch 93 #[(38, 85), (42, 91), (43, 89), (45, 89), (47, 91), (60, 87), (61, 87), (62, 87), (124, 83)], 83) := by decide +kernel
theorem dX8_levelOf_84 : decode cX8_levelOf 84 = .ok (.iconst 0, 1) := by decide +kernel
theorem dX8_levelOf_85 : decode cX8_levelOf 85 = .ok (.ireturn, 1) := by decide +kernel
theorem dX8_levelOf_86 : decode cX8_levelOf 86 = .ok (.iconst 1, 1) := by decide +kernel
theorem dX8_levelOf_87 : decode cX8_levelOf 87 = .ok (.ireturn, 1) := by decide +kernel
theorem dX8_levelOf_88 : decode cX8_levelOf 88 = .ok (.iconst 2, 1) := by decide +kernel
theorem dX8_levelOf_89 : decode cX8_levelOf 89 = .ok (.ireturn, 1) := by decide +kernel
theorem dX8_levelOf_90 : decode cX8_levelOf 90 = .ok (.iconst 3, 1) := by decide +kernel
theorem dX8_levelOf_91 : decode cX8_levelOf 91 = .ok (.ireturn, 1) := by decide +kernel
theorem dX8_levelOf_92 : decode cX8_levelOf 92 = .ok (.iconst 4, 1) := by decide +kernel
theorem dX8_levelOf_93 : decode cX8_levelOf 93 = .ok (.ireturn, 1) := by decide +kernel
theorem dX8_levelOf_94 : decode cX8_levelOf 94 = .ok (.iconst (-1), 1) := by decide +kernel
theorem dX8_levelOf_95 : decode cX8_levelOf 95 = .ok (.ireturn, 1) := by decide +kernel
theorem dX8_emit_0 : decode cX8_emit 0 = .ok (.aload_n 0, 1) := by decide +kernel
theorem dX8_emit_1 : decode cX8_emit 1 = .ok (.getfield 29, 3) := by decide +kernel
theorem dX8_emit_4 : decode cX8_emit 4 = .ok (.sipush 132, 3) := by decide +kernel
theorem dX8_emit_7 : decode cX8_emit 7 = .ok (.if_icmp .ge 23, 3) := by decide +kernel
theorem dX8_emit_10 : decode cX8_emit 10 = .ok (.aload_n 0, 1) := by decide +kernel
theorem dX8_emit_11 : decode cX8_emit 11 = .ok (.getfield 9, 3) := by decide +kernel
theorem dX8_emit_14 : decode cX8_emit 14 = .ok (.aload_n 0, 1) := by decide +kernel
theorem dX8_emit_15 : decode cX8_emit 15 = .ok (.getfield 29, 3) := by decide +kernel
theorem dX8_emit_18 : decode cX8_emit 18 = .ok (.iload_n 1, 1) := by decide +kernel
theorem dX8_emit_19 : decode cX8_emit 19 = .ok (.iastore, 1) := by decide +kernel
theorem dX8_emit_20 : decode cX8_emit 20 = .ok (.aload_n 0, 1) := by decide +kernel
theorem dX8_emit_21 : decode cX8_emit 21 = .ok (.dup, 1) := by decide +kernel
theorem dX8_emit_22 : decode cX8_emit 22 = .ok (.getfield 29, 3) := by decide +kernel
theorem dX8_emit_25 : decode cX8_emit 25 = .ok (.iconst 1, 1) := by decide +kernel
theorem dX8_emit_26 : decode cX8_emit 26 = .ok (.iadd, 1) := by decide +kernel
theorem dX8_emit_27 : decode cX8_emit 27 = .ok (.putfield 29, 3) := by decide +kernel
theorem dX8_emit_30 : decode cX8_emit 30 = .ok (.return_, 1) := by decide +kernel
theorem dX8_advance_0 : decode cX8_advance 0 = .ok (.aload_n 0, 1) := by decide +kernel
theorem dX8_advance_1 : decode cX8_advance 1 = .ok (.getfield 26, 3) := by decide +kernel
theorem dX8_advance_4 : decode cX8_advance 4 = .ok (.istore_n 1, 1) := by decide +kernel
theorem dX8_advance_5 : decode cX8_advance 5 = .ok (.aload_n 0, 1) := by decide +kernel
theorem dX8_advance_6 : decode cX8_advance 6 = .ok (.getfield 35, 3) := by decide +kernel
theorem dX8_advance_9 : decode cX8_advance 9 = .ok (.bipush (-3), 2) := by decide +kernel
theorem dX8_advance_11 : decode cX8_advance 11 = .ok (.if_icmp .gt 7, 3) := by decide +kernel
theorem dX8_advance_14 : decode cX8_advance 14 = .ok (.iconst 1, 1) := by decide +kernel
theorem dX8_advance_15 : decode cX8_advance 15 = .ok (.goto 4, 3) := by decide +kernel
theorem dX8_advance_18 : decode cX8_advance 18 = .ok (.iconst 0, 1) := by decide +kernel
theorem dX8_advance_19 : decode cX8_advance 19 = .ok (.istore_n 2, 1) := by decide +kernel
theorem dX8_advance_20 : decode cX8_advance 20 = .ok (.aload_n 0, 1) := by decide +kernel
theorem dX8_advance_21 : decode cX8_advance 21 = .ok (.getfield 26, 3) := by decide +kernel
theorem dX8_advance_24 : decode cX8_advance 24 = .ok (.aload_n 0, 1) := by decide +kernel
theorem dX8_advance_25 : decode cX8_advance 25 = .ok (.getfield 22, 3) := by decide +kernel
theorem dX8_advance_28 : decode cX8_advance 28 = .ok (.if_icmp .ge 30, 3) := by decide +kernel
theorem dX8_advance_31 : decode cX8_advance 31 = .ok (.aload_n 0, 1) := by decide +kernel
theorem dX8_advance_32 : decode cX8_advance 32 = .ok (.getfield 18, 3) := by decide +kernel
theorem dX8_advance_35 : decode cX8_advance 35 = .ok (.aload_n 0, 1) := by decide +kernel
theorem dX8_advance_36 : decode cX8_advance 36 = .ok (.getfield 26, 3) := by decide +kernel
theorem dX8_advance_39 : decode cX8_advance 39 = .ok (.baload, 1) := by decide +kernel
theorem dX8_advance_40 : decode cX8_advance 40 = .ok (.bipush 32, 2) := by decide +kernel
theorem dX8_advance_42 : decode cX8_advance 42 = .ok (.if_icmp .ne 16, 3) := by decide +kernel
theorem dX8_advance_45 : decode cX8_advance 45 = .ok (.aload_n 0, 1) := by decide +kernel
theorem dX8_advance_46 : decode cX8_advance 46 = .ok (.dup, 1) := by decide +kernel
theorem dX8_advance_47 : decode cX8_advance 47 = .ok (.getfield 26, 3) := by decide +kernel
theorem dX8_advance_50 : decode cX8_advance 50 = .ok (.iconst 1, 1) := by decide +kernel
theorem dX8_advance_51 : decode cX8_advance 51 = .ok (.iadd, 1) := by decide +kernel
theorem dX8_advance_52 : decode cX8_advance 52 = .ok (.putfield 26, 3) := by decide +kernel
theorem dX8_advance_55 : decode cX8_advance 55 = .ok (.goto (-35), 3) := by decide +kernel
theorem dX8_advance_58 : decode cX8_advance 58 = .ok (.aload_n 0, 1) := by decide +kernel
theorem dX8_advance_59 : decode cX8_advance 59 = .ok (.aload_n 0, 1) := by decide +kernel
theorem dX8_advance_60 : decode cX8_advance 60 = .ok (.getfield 26, 3) := by decide +kernel
theorem dX8_advance_63 : decode cX8_advance 63 = .ok (.putfield 41, 3) := by decide +kernel
theorem dX8_advance_66 : decode cX8_advance 66 = .ok (.aload_n 0, 1) := by decide +kernel
theorem dX8_advance_67 : decode cX8_advance 67 = .ok (.getfield 26, 3) := by decide +kernel
theorem dX8_advance_70 : decode cX8_advance 70 = .ok (.aload_n 0, 1) := by decide +kernel
theorem dX8_advance_71 : decode cX8_advance 71 = .ok (.getfield 22, 3) := by decide +kernel
theorem dX8_advance_74 : decode cX8_advance 74 = .ok (.if_icmp .lt 9, 3) := by decide +kernel
theorem dX8_advance_77 : decode cX8_advance 77 = .ok (.aload_n 0, 1) := by decide +kernel
theorem dX8_advance_78 : decode cX8_advance 78 = .ok (.iconst (-1), 1) := by decide +kernel
theorem dX8_advance_79 : decode cX8_advance 79 = .ok (.putfield 35, 3) := by decide +kernel
theorem dX8_advance_82 : decode cX8_advance 82 = .ok (.return_, 1) := by decide +kernel
theorem dX8_advance_83 : decode cX8_advance 83 = .ok (.aload_n 0, 1) := by decide +kernel
theorem dX8_advance_84 : decode cX8_advance 84 = .ok (.getfield 18, 3) := by decide +kernel
theorem dX8_advance_87 : decode cX8_advance 87 = .ok (.aload_n 0, 1) := by decide +kernel
theorem dX8_advance_88 : decode cX8_advance 88 = .ok (.getfield 26, 3) := by decide +kernel
theorem dX8_advance_91 : decode cX8_advance 91 = .ok (.baload, 1) := by decide +kernel
theorem dX8_advance_92 : decode cX8_advance 92 = .ok (.sipush 255, 3) := by decide +kernel
theorem dX8_advance_95 : decode cX8_advance 95 = .ok (.iand, 1) := by decide +kernel
theorem dX8_advance_96 : decode cX8_advance 96 = .ok (.istore_n 3, 1) := by decide +kernel
theorem dX8_advance_97 : decode cX8_advance 97 = .ok (.iload_n 3, 1) := by decide +kernel
theorem dX8_advance_98 : decode cX8_advance 98 = .ok (.invokestatic 64, 3) := by decide +kernel
theorem dX8_advance_101 : decode cX8_advance 101 = .ok (.istore 4, 2) := by decide +kernel
theorem dX8_advance_103 : decode cX8_advance 103 = .ok (.iload 4, 2) := by decide +kernel
theorem dX8_advance_105 : decode cX8_advance 105 = .ok (.ifCond .ne 26, 3) := by decide +kernel
theorem dX8_advance_108 : decode cX8_advance 108 = .ok (.iload_n 3, 1) := by decide +kernel
theorem dX8_advance_109 : decode cX8_advance 109 = .ok (.invokestatic 68, 3) := by decide +kernel
theorem dX8_advance_112 : decode cX8_advance 112 = .ok (.ifCond .ne 19, 3) := by decide +kernel
theorem dX8_advance_115 : decode cX8_advance 115 = .ok (.aload_n 0, 1) := by decide +kernel
theorem dX8_advance_116 : decode cX8_advance 116 = .ok (.dup, 1) := by decide +kernel
theorem dX8_advance_117 : decode cX8_advance 117 = .ok (.getfield 26, 3) := by decide +kernel
theorem dX8_advance_120 : decode cX8_advance 120 = .ok (.iconst 1, 1) := by decide +kernel
theorem dX8_advance_121 : decode cX8_advance 121 = .ok (.iadd, 1) := by decide +kernel
theorem dX8_advance_122 : decode cX8_advance 122 = .ok (.putfield 26, 3) := by decide +kernel
theorem dX8_advance_125 : decode cX8_advance 125 = .ok (.aload_n 0, 1) := by decide +kernel
theorem dX8_advance_126 : decode cX8_advance 126 = .ok (.iload_n 3, 1) := by decide +kernel
theorem dX8_advance_127 : decode cX8_advance 127 = .ok (.putfield 35, 3) := by decide +kernel
theorem dX8_advance_130 : decode cX8_advance 130 = .ok (.return_, 1) := by decide +kernel
theorem dX8_advance_131 : decode cX8_advance 131 = .ok (.aload_n 0, 1) := by decide +kernel
theorem dX8_advance_132 : decode cX8_advance 132 = .ok (.getfield 26, 3) := by decide +kernel
theorem dX8_advance_135 : decode cX8_advance 135 = .ok (.aload_n 0, 1) := by decide +kernel
theorem dX8_advance_136 : decode cX8_advance 136 = .ok (.getfield 22, 3) := by decide +kernel
theorem dX8_advance_139 : decode cX8_advance 139 = .ok (.if_icmp .ge 54, 3) := by decide +kernel
theorem dX8_advance_142 : decode cX8_advance 142 = .ok (.iload 4, 2) := by decide +kernel
theorem dX8_advance_144 : decode cX8_advance 144 = .ok (.ifCond .eq 21, 3) := by decide +kernel
theorem dX8_advance_147 : decode cX8_advance 147 = .ok (.aload_n 0, 1) := by decide +kernel
theorem dX8_advance_148 : decode cX8_advance 148 = .ok (.getfield 18, 3) := by decide +kernel
theorem dX8_advance_151 : decode cX8_advance 151 = .ok (.aload_n 0, 1) := by decide +kernel
theorem dX8_advance_152 : decode cX8_advance 152 = .ok (.getfield 26, 3) := by decide +kernel
theorem dX8_advance_155 : decode cX8_advance 155 = .ok (.baload, 1) := by decide +kernel
theorem dX8_advance_156 : decode cX8_advance 156 = .ok (.invokestatic 64, 3) := by decide +kernel
theorem dX8_advance_159 : decode cX8_advance 159 = .ok (.ifCond .eq 34, 3) := by decide +kernel
theorem dX8_advance_162 : decode cX8_advance 162 = .ok (.goto 18, 3) := by decide +kernel
theorem dX8_advance_165 : decode cX8_advance 165 = .ok (.aload_n 0, 1) := by decide +kernel
theorem dX8_advance_166 : decode cX8_advance 166 = .ok (.getfield 18, 3) := by decide +kernel
theorem dX8_advance_169 : decode cX8_advance 169 = .ok (.aload_n 0, 1) := by decide +kernel
theorem dX8_advance_170 : decode cX8_advance 170 = .ok (.getfield 26, 3) := by decide +kernel
theorem dX8_advance_173 : decode cX8_advance 173 = .ok (.baload, 1) := by decide +kernel
theorem dX8_advance_174 : decode cX8_advance 174 = .ok (.invokestatic 68, 3) := by decide +kernel
theorem dX8_advance_177 : decode cX8_advance 177 = .ok (.ifCond .eq 16, 3) := by decide +kernel
theorem dX8_advance_180 : decode cX8_advance 180 = .ok (.aload_n 0, 1) := by decide +kernel
theorem dX8_advance_181 : decode cX8_advance 181 = .ok (.dup, 1) := by decide +kernel
theorem dX8_advance_182 : decode cX8_advance 182 = .ok (.getfield 26, 3) := by decide +kernel
theorem dX8_advance_185 : decode cX8_advance 185 = .ok (.iconst 1, 1) := by decide +kernel
theorem dX8_advance_186 : decode cX8_advance 186 = .ok (.iadd, 1) := by decide +kernel
theorem dX8_advance_187 : decode cX8_advance 187 = .ok (.putfield 26, 3) := by decide +kernel
theorem dX8_advance_190 : decode cX8_advance 190 = .ok (.goto (-59), 3) := by decide +kernel
theorem dX8_advance_193 : decode cX8_advance 193 = .ok (.iload_n 2, 1) := by decide +kernel
theorem dX8_advance_194 : decode cX8_advance 194 = .ok (.ifCond .eq 15, 3) := by decide +kernel
theorem dX8_advance_197 : decode cX8_advance 197 = .ok (.aload_n 0, 1) := by decide +kernel
theorem dX8_advance_198 : decode cX8_advance 198 = .ok (.getfield 41, 3) := by decide +kernel
theorem dX8_advance_201 : decode cX8_advance 201 = .ok (.iload_n 1, 1) := by decide +kernel
theorem dX8_advance_202 : decode cX8_advance 202 = .ok (.if_icmp .ne 7, 3) := by decide +kernel
theorem dX8_advance_205 : decode cX8_advance 205 = .ok (.iconst 1, 1) := by decide +kernel
theorem dX8_advance_206 : decode cX8_advance 206 = .ok (.goto 4, 3) := by decide +kernel
theorem dX8_advance_209 : decode cX8_advance 209 = .ok (.iconst 0, 1) := by decide +kernel
theorem dX8_advance_210 : decode cX8_advance 210 = .ok (.istore 5, 2) := by decide +kernel
theorem dX8_advance_212 : decode cX8_advance 212 = .ok (.aload_n 0, 1) := by decide +kernel
theorem dX8_advance_213 : decode cX8_advance 213 = .ok (.iload 5, 2) := by decide +kernel
theorem dX8_advance_215 : decode cX8_advance 215 = .ok (.ifCond .eq 8, 3) := by decide +kernel
theorem dX8_advance_218 : decode cX8_advance 218 = .ok (.bipush (-2), 2) := by decide +kernel
theorem dX8_advance_220 : decode cX8_advance 220 = .ok (.goto 20, 3) := by decide +kernel
theorem dX8_advance_223 : decode cX8_advance 223 = .ok (.iload 4, 2) := by decide +kernel
theorem dX8_advance_225 : decode cX8_advance 225 = .ok (.ifCond .eq 10, 3) := by decide +kernel
theorem dX8_advance_228 : decode cX8_advance 228 = .ok (.aload_n 0, 1) := by decide +kernel
theorem dX8_advance_229 : decode cX8_advance 229 = .ok (.invokevirtual 71, 3) := by decide +kernel
theorem dX8_advance_232 : decode cX8_advance 232 = .ok (.goto 8, 3) := by decide +kernel
theorem dX8_advance_235 : decode cX8_advance 235 = .ok (.aload_n 0, 1) := by decide +kernel
theorem dX8_advance_236 : decode cX8_advance 236 = .ok (.iload_n 3, 1) := by decide +kernel
theorem dX8_advance_237 : decode cX8_advance 237 = .ok (.invokevirtual 75, 3) := by decide +kernel
theorem dX8_advance_240 : decode cX8_advance 240 = .ok (.putfield 35, 3) := by decide +kernel
theorem dX8_advance_243 : decode cX8_advance 243 = .ok (.return_, 1) := by decide +kernel
theorem dX8_numberToken_0 : decode cX8_numberToken 0 = .ok (.aload_n 0, 1) := by decide +kernel
theorem dX8_numberToken_1 : decode cX8_numberToken 1 = .ok (.getfield 26, 3) := by decide +kernel
theorem dX8_numberToken_4 : decode cX8_numberToken 4 = .ok (.aload_n 0, 1) := by decide +kernel
theorem dX8_numberToken_5 : decode cX8_numberToken 5 = .ok (.getfield 41, 3) := by decide +kernel
theorem dX8_numberToken_8 : decode cX8_numberToken 8 = .ok (.isub, 1) := by decide +kernel
theorem dX8_numberToken_9 : decode cX8_numberToken 9 = .ok (.iconst 5, 1) := by decide +kernel
theorem dX8_numberToken_10 : decode cX8_numberToken 10 = .ok (.if_icmp .le 6, 3) := by decide +kernel
theorem dX8_numberToken_13 : decode cX8_numberToken 13 = .ok (.bipush (-2), 2) := by decide +kernel
theorem dX8_numberToken_15 : decode cX8_numberToken 15 = .ok (.ireturn, 1) := by decide +kernel
theorem dX8_numberToken_16 : decode cX8_numberToken 16 = .ok (.aload_n 0, 1) := by decide +kernel
theorem dX8_numberToken_17 : decode cX8_numberToken 17 = .ok (.iconst 0, 1) := by decide +kernel
theorem dX8_numberToken_18 : decode cX8_numberToken 18 = .ok (.putfield 61, 3) := by decide +kernel
theorem dX8_numberToken_21 : decode cX8_numberToken 21 = .ok (.aload_n 0, 1) := by decide +kernel
theorem dX8_numberToken_22 : decode cX8_numberToken 22 = .ok (.getfield 41, 3) := by decide +kernel
theorem dX8_numberToken_25 : decode cX8_numberToken 25 = .ok (.istore_n 1, 1) := by decide +kernel
theorem dX8_numberToken_26 : decode cX8_numberToken 26 = .ok (.iload_n 1, 1) := by decide +kernel
theorem dX8_numberToken_27 : decode cX8_numberToken 27 = .ok (.aload_n 0, 1) := by decide +kernel
theorem dX8_numberToken_28 : decode cX8_numberToken 28 = .ok (.getfield 26, 3) := by decide +kernel
theorem dX8_numberToken_31 : decode cX8_numberToken 31 = .ok (.if_icmp .ge 30, 3) := by decide +kernel
theorem dX8_numberToken_34 : decode cX8_numberToken 34 = .ok (.aload_n 0, 1) := by decide +kernel
theorem dX8_numberToken_35 : decode cX8_numberToken 35 = .ok (.aload_n 0, 1) := by decide +kernel
theorem dX8_numberToken_36 : decode cX8_numberToken 36 = .ok (.getfield 61, 3) := by decide +kernel
theorem dX8_numberToken_39 : decode cX8_numberToken 39 = .ok (.bipush 10, 2) := by decide +kernel
theorem dX8_numberToken_41 : decode cX8_numberToken 41 = .ok (.imul, 1) := by decide +kernel
theorem dX8_numberToken_42 : decode cX8_numberToken 42 = .ok (.aload_n 0, 1) := by decide +kernel
theorem dX8_numberToken_43 : decode cX8_numberToken 43 = .ok (.getfield 18, 3) := by decide +kernel
theorem dX8_numberToken_46 : decode cX8_numberToken 46 = .ok (.iload_n 1, 1) := by decide +kernel
theorem dX8_numberToken_47 : decode cX8_numberToken 47 = .ok (.baload, 1) := by decide +kernel
theorem dX8_numberToken_48 : decode cX8_numberToken 48 = .ok (.iadd, 1) := by decide +kernel
theorem dX8_numberToken_49 : decode cX8_numberToken 49 = .ok (.bipush 48, 2) := by decide +kernel
theorem dX8_numberToken_51 : decode cX8_numberToken 51 = .ok (.isub, 1) := by decide +kernel
theorem dX8_numberToken_52 : decode cX8_numberToken 52 = .ok (.putfield 61, 3) := by decide +kernel
theorem dX8_numberToken_55 : decode cX8_numberToken 55 = .ok (.iinc 1 1, 3) := by decide +kernel
theorem dX8_numberToken_58 : decode cX8_numberToken 58 = .ok (.goto (-32), 3) := by decide +kernel
theorem dX8_numberToken_61 : decode cX8_numberToken 61 = .ok (.bipush (-3), 2) := by decide +kernel
theorem dX8_numberToken_63 : decode cX8_numberToken 63 = .ok (.ireturn, 1) := by decide +kernel
theorem dX8_lettersToken_0 : decode cX8_lettersToken 0 = .ok (.aload_n 0, 1) := by decide +kernel
theorem dX8_lettersToken_1 : decode cX8_lettersToken 1 = .ok (.getfield 26, 3) := by decide +kernel
theorem dX8_lettersToken_4 : decode cX8_lettersToken 4 = .ok (.aload_n 0, 1) := by decide +kernel
theorem dX8_lettersToken_5 : decode cX8_lettersToken 5 = .ok (.getfield 41, 3) := by decide +kernel
theorem dX8_lettersToken_8 : decode cX8_lettersToken 8 = .ok (.isub, 1) := by decide +kernel
theorem dX8_lettersToken_9 : decode cX8_lettersToken 9 = .ok (.iconst 1, 1) := by decide +kernel
theorem dX8_lettersToken_10 : decode cX8_lettersToken 10 = .ok (.if_icmp .ne 22, 3) := by decide +kernel
theorem dX8_lettersToken_13 : decode cX8_lettersToken 13 = .ok (.ldc 78, 2) := by decide +kernel
theorem dX8_lettersToken_15 : decode cX8_lettersToken 15 = .ok (.iload_n 1, 1) := by decide +kernel
theorem dX8_lettersToken_16 : decode cX8_lettersToken 16 = .ok (.i2c, 1) := by decide +kernel
theorem dX8_lettersToken_17 : decode cX8_lettersToken 17 = .ok (.invokevirtual 80, 3) := by decide +kernel
theorem dX8_lettersToken_20 : decode cX8_lettersToken 20 = .ok (.ifCond .lt 12, 3) := by decide +kernel
theorem dX8_lettersToken_23 : decode cX8_lettersToken 23 = .ok (.aload_n 0, 1) := by decide +kernel
theorem dX8_lettersToken_24 : decode cX8_lettersToken 24 = .ok (.iload_n 1, 1) := by decide +kernel
theorem dX8_lettersToken_25 : decode cX8_lettersToken 25 = .ok (.ineg, 1) := by decide +kernel
theorem dX8_lettersToken_26 : decode cX8_lettersToken 26 = .ok (.putfield 61, 3) := by decide +kernel
theorem dX8_lettersToken_29 : decode cX8_lettersToken 29 = .ok (.bipush (-4), 2) := by decide +kernel
theorem dX8_lettersToken_31 : decode cX8_lettersToken 31 = .ok (.ireturn, 1) := by decide +kernel
theorem dX8_lettersToken_32 : decode cX8_lettersToken 32 = .ok (.aload_n 0, 1) := by decide +kernel
theorem dX8_lettersToken_33 : decode cX8_lettersToken 33 = .ok (.ldc 85, 2) := by decide +kernel
theorem dX8_lettersToken_35 : decode cX8_lettersToken 35 = .ok (.invokevirtual 87, 3) := by decide +kernel
theorem dX8_lettersToken_38 : decode cX8_lettersToken 38 = .ok (.ifCond .eq 6, 3) := by decide +kernel
theorem dX8_lettersToken_41 : decode cX8_lettersToken 41 = .ok (.bipush (-5), 2) := by decide +kernel
theorem dX8_lettersToken_43 : decode cX8_lettersToken 43 = .ok (.ireturn, 1) := by decide +kernel
theorem dX8_lettersToken_44 : decode cX8_lettersToken 44 = .ok (.aload_n 0, 1) := by decide +kernel
theorem dX8_lettersToken_45 : decode cX8_lettersToken 45 = .ok (.ldc 91, 2) := by decide +kernel
theorem dX8_lettersToken_47 : decode cX8_lettersToken 47 = .ok (.invokevirtual 87, 3) := by decide +kernel
theorem dX8_lettersToken_50 : decode cX8_lettersToken 50 = .ok (.ifCond .eq 6, 3) := by decide +kernel
theorem dX8_lettersToken_53 : decode cX8_lettersToken 53 = .ok (.bipush (-6), 2) := by decide +kernel
theorem dX8_lettersToken_55 : decode cX8_lettersToken 55 = .ok (.ireturn, 1) := by decide +kernel
theorem dX8_lettersToken_56 : decode cX8_lettersToken 56 = .ok (.aload_n 0, 1) := by decide +kernel
theorem dX8_lettersToken_57 : decode cX8_lettersToken 57 = .ok (.ldc 93, 2) := by decide +kernel
theorem dX8_lettersToken_59 : decode cX8_lettersToken 59 = .ok (.invokevirtual 87, 3) := by decide +kernel
theorem dX8_lettersToken_62 : decode cX8_lettersToken 62 = .ok (.ifCond .eq 8, 3) := by decide +kernel
theorem dX8_lettersToken_65 : decode cX8_lettersToken 65 = .ok (.bipush (-7), 2) := by decide +kernel
theorem dX8_lettersToken_67 : decode cX8_lettersToken 67 = .ok (.goto 5, 3) := by decide +kernel
theorem dX8_lettersToken_70 : decode cX8_lettersToken 70 = .ok (.bipush (-2), 2) := by decide +kernel
theorem dX8_lettersToken_72 : decode cX8_lettersToken 72 = .ok (.ireturn, 1) := by decide +kernel
theorem dX8_reads_0 : decode cX8_reads 0 = .ok (.aload_n 0, 1) := by decide +kernel
theorem dX8_reads_1 : decode cX8_reads 1 = .ok (.getfield 26, 3) := by decide +kernel
theorem dX8_reads_4 : decode cX8_reads 4 = .ok (.aload_n 0, 1) := by decide +kernel
theorem dX8_reads_5 : decode cX8_reads 5 = .ok (.getfield 41, 3) := by decide +kernel
theorem dX8_reads_8 : decode cX8_reads 8 = .ok (.isub, 1) := by decide +kernel
theorem dX8_reads_9 : decode cX8_reads 9 = .ok (.aload_n 1, 1) := by decide +kernel
theorem dX8_reads_10 : decode cX8_reads 10 = .ok (.invokevirtual 95, 3) := by decide +kernel
theorem dX8_reads_13 : decode cX8_reads 13 = .ok (.if_icmp .eq 5, 3) := by decide +kernel
theorem dX8_reads_16 : decode cX8_reads 16 = .ok (.iconst 0, 1) := by decide +kernel
theorem dX8_reads_17 : decode cX8_reads 17 = .ok (.ireturn, 1) := by decide +kernel
theorem dX8_reads_18 : decode cX8_reads 18 = .ok (.iconst 0, 1) := by decide +kernel
theorem dX8_reads_19 : decode cX8_reads 19 = .ok (.istore_n 2, 1) := by decide +kernel
theorem dX8_reads_20 : decode cX8_reads 20 = .ok (.iload_n 2, 1) := by decide +kernel
theorem dX8_reads_21 : decode cX8_reads 21 = .ok (.aload_n 1, 1) := by decide +kernel
theorem dX8_reads_22 : decode cX8_reads 22 = .ok (.invokevirtual 95, 3) := by decide +kernel
theorem dX8_reads_25 : decode cX8_reads 25 = .ok (.if_icmp .ge 30, 3) := by decide +kernel
theorem dX8_reads_28 : decode cX8_reads 28 = .ok (.aload_n 0, 1) := by decide +kernel
theorem dX8_reads_29 : decode cX8_reads 29 = .ok (.getfield 18, 3) := by decide +kernel
theorem dX8_reads_32 : decode cX8_reads 32 = .ok (.aload_n 0, 1) := by decide +kernel
theorem dX8_reads_33 : decode cX8_reads 33 = .ok (.getfield 41, 3) := by decide +kernel
theorem dX8_reads_36 : decode cX8_reads 36 = .ok (.iload_n 2, 1) := by decide +kernel
theorem dX8_reads_37 : decode cX8_reads 37 = .ok (.iadd, 1) := by decide +kernel
theorem dX8_reads_38 : decode cX8_reads 38 = .ok (.baload, 1) := by decide +kernel
theorem dX8_reads_39 : decode cX8_reads 39 = .ok (.aload_n 1, 1) := by decide +kernel
theorem dX8_reads_40 : decode cX8_reads 40 = .ok (.iload_n 2, 1) := by decide +kernel
theorem dX8_reads_41 : decode cX8_reads 41 = .ok (.invokevirtual 98, 3) := by decide +kernel
theorem dX8_reads_44 : decode cX8_reads 44 = .ok (.if_icmp .eq 5, 3) := by decide +kernel
theorem dX8_reads_47 : decode cX8_reads 47 = .ok (.iconst 0, 1) := by decide +kernel
theorem dX8_reads_48 : decode cX8_reads 48 = .ok (.ireturn, 1) := by decide +kernel
theorem dX8_reads_49 : decode cX8_reads 49 = .ok (.iinc 2 1, 3) := by decide +kernel
theorem dX8_reads_52 : decode cX8_reads 52 = .ok (.goto (-32), 3) := by decide +kernel
theorem dX8_reads_55 : decode cX8_reads 55 = .ok (.iconst 1, 1) := by decide +kernel
theorem dX8_reads_56 : decode cX8_reads 56 = .ok (.ireturn, 1) := by decide +kernel
theorem dX8_isDigit_0 : decode cX8_isDigit 0 = .ok (.iload_n 0, 1) := by decide +kernel
theorem dX8_isDigit_1 : decode cX8_isDigit 1 = .ok (.bipush 48, 2) := by decide +kernel
theorem dX8_isDigit_3 : decode cX8_isDigit 3 = .ok (.if_icmp .lt 13, 3) := by decide +kernel
theorem dX8_isDigit_6 : decode cX8_isDigit 6 = .ok (.iload_n 0, 1) := by decide +kernel
theorem dX8_isDigit_7 : decode cX8_isDigit 7 = .ok (.bipush 57, 2) := by decide +kernel
theorem dX8_isDigit_9 : decode cX8_isDigit 9 = .ok (.if_icmp .gt 7, 3) := by decide +kernel
theorem dX8_isDigit_12 : decode cX8_isDigit 12 = .ok (.iconst 1, 1) := by decide +kernel
theorem dX8_isDigit_13 : decode cX8_isDigit 13 = .ok (.goto 4, 3) := by decide +kernel
theorem dX8_isDigit_16 : decode cX8_isDigit 16 = .ok (.iconst 0, 1) := by decide +kernel
theorem dX8_isDigit_17 : decode cX8_isDigit 17 = .ok (.ireturn, 1) := by decide +kernel
theorem dX8_isLetter_0 : decode cX8_isLetter 0 = .ok (.iload_n 0, 1) := by decide +kernel
theorem dX8_isLetter_1 : decode cX8_isLetter 1 = .ok (.bipush 97, 2) := by decide +kernel
theorem dX8_isLetter_3 : decode cX8_isLetter 3 = .ok (.if_icmp .lt 13, 3) := by decide +kernel
theorem dX8_isLetter_6 : decode cX8_isLetter 6 = .ok (.iload_n 0, 1) := by decide +kernel
theorem dX8_isLetter_7 : decode cX8_isLetter 7 = .ok (.bipush 122, 2) := by decide +kernel
theorem dX8_isLetter_9 : decode cX8_isLetter 9 = .ok (.if_icmp .gt 7, 3) := by decide +kernel
theorem dX8_isLetter_12 : decode cX8_isLetter 12 = .ok (.iconst 1, 1) := by decide +kernel
theorem dX8_isLetter_13 : decode cX8_isLetter 13 = .ok (.goto 4, 3) := by decide +kernel
theorem dX8_isLetter_16 : decode cX8_isLetter 16 = .ok (.iconst 0, 1) := by decide +kernel
theorem dX8_isLetter_17 : decode cX8_isLetter 17 = .ok (.ireturn, 1) := by decide +kernel
theorem dX9_isSheet_0 : decode cX9_isSheet 0 = .ok (.iload_n 0, 1) := by decide +kernel
theorem dX9_isSheet_1 : decode cX9_isSheet 1 = .ok (.ifCond .eq 8, 3) := by decide +kernel
theorem dX9_isSheet_4 : decode cX9_isSheet 4 = .ok (.iload_n 0, 1) := by decide +kernel
theorem dX9_isSheet_5 : decode cX9_isSheet 5 = .ok (.iconst 1, 1) := by decide +kernel
theorem dX9_isSheet_6 : decode cX9_isSheet 6 = .ok (.if_icmp .ne 7, 3) := by decide +kernel
theorem dX9_isSheet_9 : decode cX9_isSheet 9 = .ok (.iconst 1, 1) := by decide +kernel
theorem dX9_isSheet_10 : decode cX9_isSheet 10 = .ok (.goto 4, 3) := by decide +kernel
theorem dX9_isSheet_13 : decode cX9_isSheet 13 = .ok (.iconst 0, 1) := by decide +kernel
theorem dX9_isSheet_14 : decode cX9_isSheet 14 = .ok (.ireturn, 1) := by decide +kernel
theorem dX9_isMissing_0 : decode cX9_isMissing 0 = .ok (.aload_n 0, 1) := by decide +kernel
theorem dX9_isMissing_1 : decode cX9_isMissing 1 = .ok (.getfield 14, 3) := by decide +kernel
theorem dX9_isMissing_4 : decode cX9_isMissing 4 = .ok (.iload_n 1, 1) := by decide +kernel
theorem dX9_isMissing_5 : decode cX9_isMissing 5 = .ok (.iaload, 1) := by decide +kernel
theorem dX9_isMissing_6 : decode cX9_isMissing 6 = .ok (.iconst (-1), 1) := by decide +kernel
theorem dX9_isMissing_7 : decode cX9_isMissing 7 = .ok (.if_icmp .ne 7, 3) := by decide +kernel
theorem dX9_isMissing_10 : decode cX9_isMissing 10 = .ok (.iconst 1, 1) := by decide +kernel
theorem dX9_isMissing_11 : decode cX9_isMissing 11 = .ok (.goto 4, 3) := by decide +kernel
theorem dX9_isMissing_14 : decode cX9_isMissing 14 = .ok (.iconst 0, 1) := by decide +kernel
theorem dX9_isMissing_15 : decode cX9_isMissing 15 = .ok (.ireturn, 1) := by decide +kernel
theorem dX9_begin_0 : decode cX9_begin 0 = .ok (.aload_n 0, 1) := by decide +kernel
theorem dX9_begin_1 : decode cX9_begin 1 = .ok (.getfield 11, 3) := by decide +kernel
theorem dX9_begin_4 : decode cX9_begin 4 = .ok (.iload_n 1, 1) := by decide +kernel
