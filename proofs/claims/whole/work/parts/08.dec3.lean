theorem dX12_shop_163 : decode cX12_shop 163 = .ok (.iconst 3, 1) := by decide +kernel
theorem dX12_shop_164 : decode cX12_shop 164 = .ok (.invokestatic 61, 3) := by decide +kernel
theorem dX12_shop_167 : decode cX12_shop 167 = .ok (.iload 4, 2) := by decide +kernel
theorem dX12_shop_169 : decode cX12_shop 169 = .ok (.bipush 100, 2) := by decide +kernel
theorem dX12_shop_171 : decode cX12_shop 171 = .ok (.irem, 1) := by decide +kernel
theorem dX12_shop_172 : decode cX12_shop 172 = .ok (.iastore, 1) := by decide +kernel
theorem dX12_shop_173 : decode cX12_shop 173 = .ok (.aload_n 0, 1) := by decide +kernel
theorem dX12_shop_174 : decode cX12_shop 174 = .ok (.getfield 9, 3) := by decide +kernel
theorem dX12_shop_177 : decode cX12_shop 177 = .ok (.iload 6, 2) := by decide +kernel
theorem dX12_shop_179 : decode cX12_shop 179 = .ok (.bipush 6, 2) := by decide +kernel
theorem dX12_shop_181 : decode cX12_shop 181 = .ok (.invokestatic 61, 3) := by decide +kernel
theorem dX12_shop_184 : decode cX12_shop 184 = .ok (.iload 5, 2) := by decide +kernel
theorem dX12_shop_186 : decode cX12_shop 186 = .ok (.iastore, 1) := by decide +kernel
theorem dX12_shop_187 : decode cX12_shop 187 = .ok (.aload_n 0, 1) := by decide +kernel
theorem dX12_shop_188 : decode cX12_shop 188 = .ok (.getfield 9, 3) := by decide +kernel
theorem dX12_shop_191 : decode cX12_shop 191 = .ok (.iload 6, 2) := by decide +kernel
theorem dX12_shop_193 : decode cX12_shop 193 = .ok (.bipush 7, 2) := by decide +kernel
theorem dX12_shop_195 : decode cX12_shop 195 = .ok (.invokestatic 61, 3) := by decide +kernel
theorem dX12_shop_198 : decode cX12_shop 198 = .ok (.iconst 0, 1) := by decide +kernel
theorem dX12_shop_199 : decode cX12_shop 199 = .ok (.iastore, 1) := by decide +kernel
theorem dX12_shop_200 : decode cX12_shop 200 = .ok (.aload_n 0, 1) := by decide +kernel
theorem dX12_shop_201 : decode cX12_shop 201 = .ok (.getfield 9, 3) := by decide +kernel
theorem dX12_shop_204 : decode cX12_shop 204 = .ok (.iconst 2, 1) := by decide +kernel
theorem dX12_shop_205 : decode cX12_shop 205 = .ok (.dup2, 1) := by decide +kernel
theorem dX12_shop_206 : decode cX12_shop 206 = .ok (.iaload, 1) := by decide +kernel
theorem dX12_shop_207 : decode cX12_shop 207 = .ok (.iconst 1, 1) := by decide +kernel
theorem dX12_shop_208 : decode cX12_shop 208 = .ok (.iadd, 1) := by decide +kernel
theorem dX12_shop_209 : decode cX12_shop 209 = .ok (.iastore, 1) := by decide +kernel
theorem dX12_shop_210 : decode cX12_shop 210 = .ok (.iload 6, 2) := by decide +kernel
theorem dX12_shop_212 : decode cX12_shop 212 = .ok (.ireturn, 1) := by decide +kernel
theorem dX12_isOf_0 : decode cX12_isOf 0 = .ok (.aload_n 0, 1) := by decide +kernel
theorem dX12_isOf_1 : decode cX12_isOf 1 = .ok (.iload_n 1, 1) := by decide +kernel
theorem dX12_isOf_2 : decode cX12_isOf 2 = .ok (.invokevirtual 65, 3) := by decide +kernel
theorem dX12_isOf_5 : decode cX12_isOf 5 = .ok (.ifCond .eq 12, 3) := by decide +kernel
theorem dX12_isOf_8 : decode cX12_isOf 8 = .ok (.iload_n 2, 1) := by decide +kernel
theorem dX12_isOf_9 : decode cX12_isOf 9 = .ok (.iconst 0, 1) := by decide +kernel
theorem dX12_isOf_10 : decode cX12_isOf 10 = .ok (.iconst 3, 1) := by decide +kernel
theorem dX12_isOf_11 : decode cX12_isOf 11 = .ok (.invokestatic 49, 3) := by decide +kernel
theorem dX12_isOf_14 : decode cX12_isOf 14 = .ok (.ifCond .ne 6, 3) := by decide +kernel
theorem dX12_isOf_17 : decode cX12_isOf 17 = .ok (.ldc 57, 2) := by decide +kernel
theorem dX12_isOf_19 : decode cX12_isOf 19 = .ok (.ireturn, 1) := by decide +kernel
theorem dX12_isOf_20 : decode cX12_isOf 20 = .ok (.aload_n 0, 1) := by decide +kernel
theorem dX12_isOf_21 : decode cX12_isOf 21 = .ok (.getfield 9, 3) := by decide +kernel
theorem dX12_isOf_24 : decode cX12_isOf 24 = .ok (.iload_n 1, 1) := by decide +kernel
theorem dX12_isOf_25 : decode cX12_isOf 25 = .ok (.iconst 0, 1) := by decide +kernel
theorem dX12_isOf_26 : decode cX12_isOf 26 = .ok (.invokestatic 61, 3) := by decide +kernel
theorem dX12_isOf_29 : decode cX12_isOf 29 = .ok (.iaload, 1) := by decide +kernel
theorem dX12_isOf_30 : decode cX12_isOf 30 = .ok (.istore_n 3, 1) := by decide +kernel
theorem dX12_isOf_31 : decode cX12_isOf 31 = .ok (.iload_n 2, 1) := by decide +kernel
theorem dX12_isOf_32 : decode cX12_isOf 32 = .ok (.ifCond .eq 18, 3) := by decide +kernel
theorem dX12_isOf_35 : decode cX12_isOf 35 = .ok (.iload_n 3, 1) := by decide +kernel
theorem dX12_isOf_36 : decode cX12_isOf 36 = .ok (.iload_n 2, 1) := by decide +kernel
theorem dX12_isOf_37 : decode cX12_isOf 37 = .ok (.if_icmp .eq 13, 3) := by decide +kernel
theorem dX12_isOf_40 : decode cX12_isOf 40 = .ok (.iload_n 2, 1) := by decide +kernel
theorem dX12_isOf_41 : decode cX12_isOf 41 = .ok (.iconst 2, 1) := by decide +kernel
theorem dX12_isOf_42 : decode cX12_isOf 42 = .ok (.if_icmp .ne 12, 3) := by decide +kernel
theorem dX12_isOf_45 : decode cX12_isOf 45 = .ok (.iload_n 3, 1) := by decide +kernel
theorem dX12_isOf_46 : decode cX12_isOf 46 = .ok (.iconst 3, 1) := by decide +kernel
theorem dX12_isOf_47 : decode cX12_isOf 47 = .ok (.if_icmp .ne 7, 3) := by decide +kernel
theorem dX12_isOf_50 : decode cX12_isOf 50 = .ok (.iconst 1, 1) := by decide +kernel
theorem dX12_isOf_51 : decode cX12_isOf 51 = .ok (.goto 4, 3) := by decide +kernel
theorem dX12_isOf_54 : decode cX12_isOf 54 = .ok (.iconst 0, 1) := by decide +kernel
theorem dX12_isOf_55 : decode cX12_isOf 55 = .ok (.ireturn, 1) := by decide +kernel
theorem dX12_placeOf_0 : decode cX12_placeOf 0 = .ok (.iconst 0, 1) := by decide +kernel
theorem dX12_placeOf_1 : decode cX12_placeOf 1 = .ok (.istore_n 3, 1) := by decide +kernel
theorem dX12_placeOf_2 : decode cX12_placeOf 2 = .ok (.iconst 0, 1) := by decide +kernel
theorem dX12_placeOf_3 : decode cX12_placeOf 3 = .ok (.istore 4, 2) := by decide +kernel
theorem dX12_placeOf_5 : decode cX12_placeOf 5 = .ok (.iload 4, 2) := by decide +kernel
theorem dX12_placeOf_7 : decode cX12_placeOf 7 = .ok (.aload_n 0, 1) := by decide +kernel
theorem dX12_placeOf_8 : decode cX12_placeOf 8 = .ok (.getfield 9, 3) := by decide +kernel
theorem dX12_placeOf_11 : decode cX12_placeOf 11 = .ok (.iconst 3, 1) := by decide +kernel
theorem dX12_placeOf_12 : decode cX12_placeOf 12 = .ok (.iaload, 1) := by decide +kernel
theorem dX12_placeOf_13 : decode cX12_placeOf 13 = .ok (.if_icmp .ge 54, 3) := by decide +kernel
theorem dX12_placeOf_16 : decode cX12_placeOf 16 = .ok (.aload_n 0, 1) := by decide +kernel
theorem dX12_placeOf_17 : decode cX12_placeOf 17 = .ok (.getfield 9, 3) := by decide +kernel
theorem dX12_placeOf_20 : decode cX12_placeOf 20 = .ok (.sipush 140, 3) := by decide +kernel
theorem dX12_placeOf_23 : decode cX12_placeOf 23 = .ok (.iload 4, 2) := by decide +kernel
theorem dX12_placeOf_25 : decode cX12_placeOf 25 = .ok (.iadd, 1) := by decide +kernel
theorem dX12_placeOf_26 : decode cX12_placeOf 26 = .ok (.iaload, 1) := by decide +kernel
theorem dX12_placeOf_27 : decode cX12_placeOf 27 = .ok (.istore 5, 2) := by decide +kernel
theorem dX12_placeOf_29 : decode cX12_placeOf 29 = .ok (.iload 5, 2) := by decide +kernel
theorem dX12_placeOf_31 : decode cX12_placeOf 31 = .ok (.bipush 13, 2) := by decide +kernel
theorem dX12_placeOf_33 : decode cX12_placeOf 33 = .ok (.idiv, 1) := by decide +kernel
theorem dX12_placeOf_34 : decode cX12_placeOf 34 = .ok (.bipush 12, 2) := by decide +kernel
theorem dX12_placeOf_36 : decode cX12_placeOf 36 = .ok (.irem, 1) := by decide +kernel
theorem dX12_placeOf_37 : decode cX12_placeOf 37 = .ok (.iload_n 1, 1) := by decide +kernel
theorem dX12_placeOf_38 : decode cX12_placeOf 38 = .ok (.if_icmp .ne 21, 3) := by decide +kernel
theorem dX12_placeOf_41 : decode cX12_placeOf 41 = .ok (.iload 5, 2) := by decide +kernel
theorem dX12_placeOf_43 : decode cX12_placeOf 43 = .ok (.sipush 156, 3) := by decide +kernel
theorem dX12_placeOf_46 : decode cX12_placeOf 46 = .ok (.idiv, 1) := by decide +kernel
theorem dX12_placeOf_47 : decode cX12_placeOf 47 = .ok (.iload_n 2, 1) := by decide +kernel
theorem dX12_placeOf_48 : decode cX12_placeOf 48 = .ok (.if_icmp .gt 11, 3) := by decide +kernel
theorem dX12_placeOf_51 : decode cX12_placeOf 51 = .ok (.iload 5, 2) := by decide +kernel
theorem dX12_placeOf_53 : decode cX12_placeOf 53 = .ok (.bipush 13, 2) := by decide +kernel
theorem dX12_placeOf_55 : decode cX12_placeOf 55 = .ok (.irem, 1) := by decide +kernel
theorem dX12_placeOf_56 : decode cX12_placeOf 56 = .ok (.goto 4, 3) := by decide +kernel
theorem dX12_placeOf_59 : decode cX12_placeOf 59 = .ok (.iload_n 3, 1) := by decide +kernel
theorem dX12_placeOf_60 : decode cX12_placeOf 60 = .ok (.istore_n 3, 1) := by decide +kernel
theorem dX12_placeOf_61 : decode cX12_placeOf 61 = .ok (.iinc 4 1, 3) := by decide +kernel
theorem dX12_placeOf_64 : decode cX12_placeOf 64 = .ok (.goto (-59), 3) := by decide +kernel
theorem dX12_placeOf_67 : decode cX12_placeOf 67 = .ok (.iload_n 3, 1) := by decide +kernel
theorem dX12_placeOf_68 : decode cX12_placeOf 68 = .ok (.iconst 1, 1) := by decide +kernel
theorem dX12_placeOf_69 : decode cX12_placeOf 69 = .ok (.isub, 1) := by decide +kernel
theorem dX12_placeOf_70 : decode cX12_placeOf 70 = .ok (.ireturn, 1) := by decide +kernel
theorem dX12_findStands_0 : decode cX12_findStands 0 = .ok (.iconst 0, 1) := by decide +kernel
theorem dX12_findStands_1 : decode cX12_findStands 1 = .ok (.istore_n 2, 1) := by decide +kernel
theorem dX12_findStands_2 : decode cX12_findStands 2 = .ok (.iload_n 2, 1) := by decide +kernel
theorem dX12_findStands_3 : decode cX12_findStands 3 = .ok (.bipush 12, 2) := by decide +kernel
theorem dX12_findStands_5 : decode cX12_findStands 5 = .ok (.if_icmp .ge 35, 3) := by decide +kernel
theorem dX12_findStands_8 : decode cX12_findStands 8 = .ok (.aload_n 0, 1) := by decide +kernel
theorem dX12_findStands_9 : decode cX12_findStands 9 = .ok (.getfield 28, 3) := by decide +kernel
theorem dX12_findStands_12 : decode cX12_findStands 12 = .ok (.iload_n 2, 1) := by decide +kernel
theorem dX12_findStands_13 : decode cX12_findStands 13 = .ok (.iload_n 2, 1) := by decide +kernel
theorem dX12_findStands_14 : decode cX12_findStands 14 = .ok (.aload_n 0, 1) := by decide +kernel
theorem dX12_findStands_15 : decode cX12_findStands 15 = .ok (.getfield 9, 3) := by decide +kernel
theorem dX12_findStands_18 : decode cX12_findStands 18 = .ok (.iconst 2, 1) := by decide +kernel
theorem dX12_findStands_19 : decode cX12_findStands 19 = .ok (.iaload, 1) := by decide +kernel
theorem dX12_findStands_20 : decode cX12_findStands 20 = .ok (.if_icmp .ge 12, 3) := by decide +kernel
theorem dX12_findStands_23 : decode cX12_findStands 23 = .ok (.aload_n 0, 1) := by decide +kernel
theorem dX12_findStands_24 : decode cX12_findStands 24 = .ok (.iload_n 2, 1) := by decide +kernel
theorem dX12_findStands_25 : decode cX12_findStands 25 = .ok (.iload_n 1, 1) := by decide +kernel
theorem dX12_findStands_26 : decode cX12_findStands 26 = .ok (.invokevirtual 68, 3) := by decide +kernel
theorem dX12_findStands_29 : decode cX12_findStands 29 = .ok (.goto 4, 3) := by decide +kernel
theorem dX12_findStands_32 : decode cX12_findStands 32 = .ok (.iconst (-1), 1) := by decide +kernel
theorem dX12_findStands_33 : decode cX12_findStands 33 = .ok (.iastore, 1) := by decide +kernel
theorem dX12_findStands_34 : decode cX12_findStands 34 = .ok (.iinc 2 1, 3) := by decide +kernel
theorem dX12_findStands_37 : decode cX12_findStands 37 = .ok (.goto (-35), 3) := by decide +kernel
theorem dX12_findStands_40 : decode cX12_findStands 40 = .ok (.return_, 1) := by decide +kernel
theorem dX12_shopAt_0 : decode cX12_shopAt 0 = .ok (.iconst 0, 1) := by decide +kernel
theorem dX12_shopAt_1 : decode cX12_shopAt 1 = .ok (.istore_n 2, 1) := by decide +kernel
theorem dX12_shopAt_2 : decode cX12_shopAt 2 = .ok (.iload_n 2, 1) := by decide +kernel
theorem dX12_shopAt_3 : decode cX12_shopAt 3 = .ok (.bipush 12, 2) := by decide +kernel
theorem dX12_shopAt_5 : decode cX12_shopAt 5 = .ok (.if_icmp .ge 21, 3) := by decide +kernel
theorem dX12_shopAt_8 : decode cX12_shopAt 8 = .ok (.aload_n 0, 1) := by decide +kernel
theorem dX12_shopAt_9 : decode cX12_shopAt 9 = .ok (.getfield 28, 3) := by decide +kernel
theorem dX12_shopAt_12 : decode cX12_shopAt 12 = .ok (.iload_n 2, 1) := by decide +kernel
theorem dX12_shopAt_13 : decode cX12_shopAt 13 = .ok (.iaload, 1) := by decide +kernel
theorem dX12_shopAt_14 : decode cX12_shopAt 14 = .ok (.iload_n 1, 1) := by decide +kernel
theorem dX12_shopAt_15 : decode cX12_shopAt 15 = .ok (.if_icmp .ne 5, 3) := by decide +kernel
theorem dX12_shopAt_18 : decode cX12_shopAt 18 = .ok (.iload_n 2, 1) := by decide +kernel
theorem dX12_shopAt_19 : decode cX12_shopAt 19 = .ok (.ireturn, 1) := by decide +kernel
theorem dX12_shopAt_20 : decode cX12_shopAt 20 = .ok (.iinc 2 1, 3) := by decide +kernel
theorem dX12_shopAt_23 : decode cX12_shopAt 23 = .ok (.goto (-21), 3) := by decide +kernel
theorem dX12_shopAt_26 : decode cX12_shopAt 26 = .ok (.iconst (-1), 1) := by decide +kernel
theorem dX12_shopAt_27 : decode cX12_shopAt 27 = .ok (.ireturn, 1) := by decide +kernel
theorem dX12_moves_0 : decode cX12_moves 0 = .ok (.aload_n 0, 1) := by decide +kernel
theorem dX12_moves_1 : decode cX12_moves 1 = .ok (.getfield 9, 3) := by decide +kernel
theorem dX12_moves_4 : decode cX12_moves 4 = .ok (.sipush 140, 3) := by decide +kernel
theorem dX12_moves_7 : decode cX12_moves 7 = .ok (.aload_n 0, 1) := by decide +kernel
theorem dX12_moves_8 : decode cX12_moves 8 = .ok (.getfield 9, 3) := by decide +kernel
theorem dX12_moves_11 : decode cX12_moves 11 = .ok (.iconst 3, 1) := by decide +kernel
theorem dX12_moves_12 : decode cX12_moves 12 = .ok (.iaload, 1) := by decide +kernel
theorem dX12_moves_13 : decode cX12_moves 13 = .ok (.iadd, 1) := by decide +kernel
theorem dX12_moves_14 : decode cX12_moves 14 = .ok (.iload_n 2, 1) := by decide +kernel
theorem dX12_moves_15 : decode cX12_moves 15 = .ok (.iconst 1, 1) := by decide +kernel
theorem dX12_moves_16 : decode cX12_moves 16 = .ok (.iadd, 1) := by decide +kernel
theorem dX12_moves_17 : decode cX12_moves 17 = .ok (.bipush 13, 2) := by decide +kernel
theorem dX12_moves_19 : decode cX12_moves 19 = .ok (.iload_n 1, 1) := by decide +kernel
theorem dX12_moves_20 : decode cX12_moves 20 = .ok (.imul, 1) := by decide +kernel
theorem dX12_moves_21 : decode cX12_moves 21 = .ok (.iadd, 1) := by decide +kernel
theorem dX12_moves_22 : decode cX12_moves 22 = .ok (.sipush 156, 3) := by decide +kernel
theorem dX12_moves_25 : decode cX12_moves 25 = .ok (.aload_n 0, 1) := by decide +kernel
theorem dX12_moves_26 : decode cX12_moves 26 = .ok (.getfield 9, 3) := by decide +kernel
theorem dX12_moves_29 : decode cX12_moves 29 = .ok (.iconst 0, 1) := by decide +kernel
theorem dX12_moves_30 : decode cX12_moves 30 = .ok (.iaload, 1) := by decide +kernel
theorem dX12_moves_31 : decode cX12_moves 31 = .ok (.imul, 1) := by decide +kernel
theorem dX12_moves_32 : decode cX12_moves 32 = .ok (.iadd, 1) := by decide +kernel
theorem dX12_moves_33 : decode cX12_moves 33 = .ok (.iastore, 1) := by decide +kernel
theorem dX12_moves_34 : decode cX12_moves 34 = .ok (.aload_n 0, 1) := by decide +kernel
theorem dX12_moves_35 : decode cX12_moves 35 = .ok (.getfield 9, 3) := by decide +kernel
theorem dX12_moves_38 : decode cX12_moves 38 = .ok (.iconst 3, 1) := by decide +kernel
theorem dX12_moves_39 : decode cX12_moves 39 = .ok (.dup2, 1) := by decide +kernel
theorem dX12_moves_40 : decode cX12_moves 40 = .ok (.iaload, 1) := by decide +kernel
theorem dX12_moves_41 : decode cX12_moves 41 = .ok (.iconst 1, 1) := by decide +kernel
theorem dX12_moves_42 : decode cX12_moves 42 = .ok (.iadd, 1) := by decide +kernel
theorem dX12_moves_43 : decode cX12_moves 43 = .ok (.iastore, 1) := by decide +kernel
theorem dX12_moves_44 : decode cX12_moves 44 = .ok (.return_, 1) := by decide +kernel
theorem dX12_move_0 : decode cX12_move 0 = .ok (.aload_n 0, 1) := by decide +kernel
theorem dX12_move_1 : decode cX12_move 1 = .ok (.iload_n 1, 1) := by decide +kernel
theorem dX12_move_2 : decode cX12_move 2 = .ok (.invokevirtual 65, 3) := by decide +kernel
theorem dX12_move_5 : decode cX12_move 5 = .ok (.ifCond .eq 16, 3) := by decide +kernel
theorem dX12_move_8 : decode cX12_move 8 = .ok (.iload_n 2, 1) := by decide +kernel
theorem dX12_move_9 : decode cX12_move 9 = .ok (.ldc 71, 2) := by decide +kernel
theorem dX12_move_11 : decode cX12_move 11 = .ok (.if_icmp .eq 13, 3) := by decide +kernel
theorem dX12_move_14 : decode cX12_move 14 = .ok (.iload_n 2, 1) := by decide +kernel
theorem dX12_move_15 : decode cX12_move 15 = .ok (.invokestatic 53, 3) := by decide +kernel
theorem dX12_move_18 : decode cX12_move 18 = .ok (.ifCond .ne 6, 3) := by decide +kernel
theorem dX12_move_21 : decode cX12_move 21 = .ok (.ldc 57, 2) := by decide +kernel
theorem dX12_move_23 : decode cX12_move 23 = .ok (.ireturn, 1) := by decide +kernel
theorem dX12_move_24 : decode cX12_move 24 = .ok (.iload_n 2, 1) := by decide +kernel
theorem dX12_move_25 : decode cX12_move 25 = .ok (.ldc 71, 2) := by decide +kernel
theorem dX12_move_27 : decode cX12_move 27 = .ok (.if_icmp .ne 7, 3) := by decide +kernel
theorem dX12_move_30 : decode cX12_move 30 = .ok (.iconst (-1), 1) := by decide +kernel
theorem dX12_move_31 : decode cX12_move 31 = .ok (.goto 4, 3) := by decide +kernel
theorem dX12_move_34 : decode cX12_move 34 = .ok (.iload_n 2, 1) := by decide +kernel
theorem dX12_move_35 : decode cX12_move 35 = .ok (.istore_n 3, 1) := by decide +kernel
theorem dX12_move_36 : decode cX12_move 36 = .ok (.aload_n 0, 1) := by decide +kernel
theorem dX12_move_37 : decode cX12_move 37 = .ok (.aload_n 0, 1) := by decide +kernel
theorem dX12_move_38 : decode cX12_move 38 = .ok (.getfield 9, 3) := by decide +kernel
theorem dX12_move_41 : decode cX12_move 41 = .ok (.iconst 0, 1) := by decide +kernel
theorem dX12_move_42 : decode cX12_move 42 = .ok (.iaload, 1) := by decide +kernel
theorem dX12_move_43 : decode cX12_move 43 = .ok (.invokevirtual 72, 3) := by decide +kernel
theorem dX12_move_46 : decode cX12_move 46 = .ok (.aload_n 0, 1) := by decide +kernel
theorem dX12_move_47 : decode cX12_move 47 = .ok (.getfield 28, 3) := by decide +kernel
theorem dX12_move_50 : decode cX12_move 50 = .ok (.iload_n 1, 1) := by decide +kernel
theorem dX12_move_51 : decode cX12_move 51 = .ok (.iaload, 1) := by decide +kernel
theorem dX12_move_52 : decode cX12_move 52 = .ok (.istore 4, 2) := by decide +kernel
theorem dX12_move_54 : decode cX12_move 54 = .ok (.iload 4, 2) := by decide +kernel
theorem dX12_move_56 : decode cX12_move 56 = .ok (.iload_n 3, 1) := by decide +kernel
theorem dX12_move_57 : decode cX12_move 57 = .ok (.if_icmp .eq 15, 3) := by decide +kernel
theorem dX12_move_60 : decode cX12_move 60 = .ok (.iload_n 3, 1) := by decide +kernel
theorem dX12_move_61 : decode cX12_move 61 = .ok (.ifCond .lt 14, 3) := by decide +kernel
theorem dX12_move_64 : decode cX12_move 64 = .ok (.aload_n 0, 1) := by decide +kernel
theorem dX12_move_65 : decode cX12_move 65 = .ok (.iload_n 3, 1) := by decide +kernel
theorem dX12_move_66 : decode cX12_move 66 = .ok (.invokevirtual 76, 3) := by decide +kernel
theorem dX12_move_69 : decode cX12_move 69 = .ok (.ifCond .lt 6, 3) := by decide +kernel
theorem dX12_move_72 : decode cX12_move 72 = .ok (.ldc 80, 2) := by decide +kernel
theorem dX12_move_74 : decode cX12_move 74 = .ok (.ireturn, 1) := by decide +kernel
theorem dX12_move_75 : decode cX12_move 75 = .ok (.aload_n 0, 1) := by decide +kernel
theorem dX12_move_76 : decode cX12_move 76 = .ok (.getfield 9, 3) := by decide +kernel
theorem dX12_move_79 : decode cX12_move 79 = .ok (.iconst 3, 1) := by decide +kernel
theorem dX12_move_80 : decode cX12_move 80 = .ok (.iaload, 1) := by decide +kernel
theorem dX12_move_81 : decode cX12_move 81 = .ok (.sipush 200, 3) := by decide +kernel
theorem dX12_move_84 : decode cX12_move 84 = .ok (.if_icmp .ne 6, 3) := by decide +kernel
theorem dX12_move_87 : decode cX12_move 87 = .ok (.ldc 59, 2) := by decide +kernel
theorem dX12_move_89 : decode cX12_move 89 = .ok (.ireturn, 1) := by decide +kernel
theorem dX12_move_90 : decode cX12_move 90 = .ok (.aload_n 0, 1) := by decide +kernel
theorem dX12_move_91 : decode cX12_move 91 = .ok (.iload_n 1, 1) := by decide +kernel
theorem dX12_move_92 : decode cX12_move 92 = .ok (.iload_n 3, 1) := by decide +kernel
theorem dX12_move_93 : decode cX12_move 93 = .ok (.invokevirtual 81, 3) := by decide +kernel
theorem dX12_move_96 : decode cX12_move 96 = .ok (.iload 4, 2) := by decide +kernel
theorem dX12_move_98 : decode cX12_move 98 = .ok (.ifCond .ge 8, 3) := by decide +kernel
theorem dX12_move_101 : decode cX12_move 101 = .ok (.ldc 71, 2) := by decide +kernel
theorem dX12_move_103 : decode cX12_move 103 = .ok (.goto 5, 3) := by decide +kernel
theorem dX12_move_106 : decode cX12_move 106 = .ok (.iload 4, 2) := by decide +kernel
theorem dX12_move_108 : decode cX12_move 108 = .ok (.ireturn, 1) := by decide +kernel
theorem dX12_months_0 : decode cX12_months 0 = .ok (.iload_n 1, 1) := by decide +kernel
theorem dX12_months_1 : decode cX12_months 1 = .ok (.iconst 1, 1) := by decide +kernel
theorem dX12_months_2 : decode cX12_months 2 = .ok (.bipush 24, 2) := by decide +kernel
theorem dX12_months_4 : decode cX12_months 4 = .ok (.invokestatic 49, 3) := by decide +kernel
theorem dX12_months_7 : decode cX12_months 7 = .ok (.ifCond .eq 16, 3) := by decide +kernel
theorem dX12_months_10 : decode cX12_months 10 = .ok (.aload_n 0, 1) := by decide +kernel
theorem dX12_months_11 : decode cX12_months 11 = .ok (.getfield 9, 3) := by decide +kernel
theorem dX12_months_14 : decode cX12_months 14 = .ok (.iconst 0, 1) := by decide +kernel
theorem dX12_months_15 : decode cX12_months 15 = .ok (.iaload, 1) := by decide +kernel
theorem dX12_months_16 : decode cX12_months 16 = .ok (.iload_n 1, 1) := by decide +kernel
theorem dX12_months_17 : decode cX12_months 17 = .ok (.iadd, 1) := by decide +kernel
theorem dX12_months_18 : decode cX12_months 18 = .ok (.bipush 120, 2) := by decide +kernel
theorem dX12_months_20 : decode cX12_months 20 = .ok (.if_icmp .le 6, 3) := by decide +kernel
theorem dX12_months_23 : decode cX12_months 23 = .ok (.ldc 57, 2) := by decide +kernel
theorem dX12_months_25 : decode cX12_months 25 = .ok (.ireturn, 1) := by decide +kernel
theorem dX12_months_26 : decode cX12_months 26 = .ok (.aload_n 0, 1) := by decide +kernel
theorem dX12_months_27 : decode cX12_months 27 = .ok (.getfield 9, 3) := by decide +kernel
theorem dX12_months_30 : decode cX12_months 30 = .ok (.iconst 0, 1) := by decide +kernel
theorem dX12_months_31 : decode cX12_months 31 = .ok (.dup2, 1) := by decide +kernel
theorem dX12_months_32 : decode cX12_months 32 = .ok (.iaload, 1) := by decide +kernel
theorem dX12_months_33 : decode cX12_months 33 = .ok (.iload_n 1, 1) := by decide +kernel
theorem dX12_months_34 : decode cX12_months 34 = .ok (.iadd, 1) := by decide +kernel
theorem dX12_months_35 : decode cX12_months 35 = .ok (.iastore, 1) := by decide +kernel
theorem dX12_months_36 : decode cX12_months 36 = .ok (.aload_n 0, 1) := by decide +kernel
theorem dX12_months_37 : decode cX12_months 37 = .ok (.getfield 9, 3) := by decide +kernel
theorem dX12_months_40 : decode cX12_months 40 = .ok (.iconst 0, 1) := by decide +kernel
theorem dX12_months_41 : decode cX12_months 41 = .ok (.iaload, 1) := by decide +kernel
theorem dX12_months_42 : decode cX12_months 42 = .ok (.ireturn, 1) := by decide +kernel
theorem dX12_rule_0 : decode cX12_rule 0 = .ok (.iload_n 1, 1) := by decide +kernel
theorem dX12_rule_1 : decode cX12_rule 1 = .ok (.iconst 0, 1) := by decide +kernel
theorem dX12_rule_2 : decode cX12_rule 2 = .ok (.iconst 1, 1) := by decide +kernel
theorem dX12_rule_3 : decode cX12_rule 3 = .ok (.invokestatic 49, 3) := by decide +kernel
theorem dX12_rule_6 : decode cX12_rule 6 = .ok (.ifCond .eq 32, 3) := by decide +kernel
theorem dX12_rule_9 : decode cX12_rule 9 = .ok (.iload_n 2, 1) := by decide +kernel
theorem dX12_rule_10 : decode cX12_rule 10 = .ok (.iload_n 1, 1) := by decide +kernel
theorem dX12_rule_11 : decode cX12_rule 11 = .ok (.ifCond .ne 7, 3) := by decide +kernel
theorem dX12_rule_14 : decode cX12_rule 14 = .ok (.iconst 0, 1) := by decide +kernel
theorem dX12_rule_15 : decode cX12_rule 15 = .ok (.goto 5, 3) := by decide +kernel
theorem dX12_rule_18 : decode cX12_rule 18 = .ok (.bipush 100, 2) := by decide +kernel
theorem dX12_rule_20 : decode cX12_rule 20 = .ok (.iload_n 1, 1) := by decide +kernel
theorem dX12_rule_21 : decode cX12_rule 21 = .ok (.ifCond .ne 8, 3) := by decide +kernel
theorem dX12_rule_24 : decode cX12_rule 24 = .ok (.bipush 100, 2) := by decide +kernel
theorem dX12_rule_26 : decode cX12_rule 26 = .ok (.goto 6, 3) := by decide +kernel
theorem dX12_rule_29 : decode cX12_rule 29 = .ok (.sipush 999, 3) := by decide +kernel
theorem dX12_rule_32 : decode cX12_rule 32 = .ok (.invokestatic 49, 3) := by decide +kernel
theorem dX12_rule_35 : decode cX12_rule 35 = .ok (.ifCond .ne 6, 3) := by decide +kernel
theorem dX12_rule_38 : decode cX12_rule 38 = .ok (.ldc 57, 2) := by decide +kernel
theorem dX12_rule_40 : decode cX12_rule 40 = .ok (.ireturn, 1) := by decide +kernel
theorem dX12_rule_41 : decode cX12_rule 41 = .ok (.aload_n 0, 1) := by decide +kernel
theorem dX12_rule_42 : decode cX12_rule 42 = .ok (.getfield 9, 3) := by decide +kernel
theorem dX12_rule_45 : decode cX12_rule 45 = .ok (.iconst 5, 1) := by decide +kernel
theorem dX12_rule_46 : decode cX12_rule 46 = .ok (.iload_n 1, 1) := by decide +kernel
theorem dX12_rule_47 : decode cX12_rule 47 = .ok (.iadd, 1) := by decide +kernel
theorem dX12_rule_48 : decode cX12_rule 48 = .ok (.iaload, 1) := by decide +kernel
theorem dX12_rule_49 : decode cX12_rule 49 = .ok (.istore_n 3, 1) := by decide +kernel
theorem dX12_rule_50 : decode cX12_rule 50 = .ok (.aload_n 0, 1) := by decide +kernel
theorem dX12_rule_51 : decode cX12_rule 51 = .ok (.getfield 9, 3) := by decide +kernel
theorem dX12_rule_54 : decode cX12_rule 54 = .ok (.iconst 5, 1) := by decide +kernel
theorem dX12_rule_55 : decode cX12_rule 55 = .ok (.iload_n 1, 1) := by decide +kernel
theorem dX12_rule_56 : decode cX12_rule 56 = .ok (.iadd, 1) := by decide +kernel
theorem dX12_rule_57 : decode cX12_rule 57 = .ok (.iload_n 2, 1) := by decide +kernel
theorem dX12_rule_58 : decode cX12_rule 58 = .ok (.iastore, 1) := by decide +kernel
theorem dX12_rule_59 : decode cX12_rule 59 = .ok (.iload_n 3, 1) := by decide +kernel
theorem dX12_rule_60 : decode cX12_rule 60 = .ok (.ireturn, 1) := by decide +kernel
theorem dX12_pulls_0 : decode cX12_pulls 0 = .ok (.iconst 0, 1) := by decide +kernel
theorem dX12_pulls_1 : decode cX12_pulls 1 = .ok (.istore_n 1, 1) := by decide +kernel
theorem dX12_pulls_2 : decode cX12_pulls 2 = .ok (.iconst 0, 1) := by decide +kernel
theorem dX12_pulls_3 : decode cX12_pulls 3 = .ok (.istore_n 2, 1) := by decide +kernel
theorem dX12_pulls_4 : decode cX12_pulls 4 = .ok (.iload_n 2, 1) := by decide +kernel
theorem dX12_pulls_5 : decode cX12_pulls 5 = .ok (.bipush 12, 2) := by decide +kernel
theorem dX12_pulls_7 : decode cX12_pulls 7 = .ok (.if_icmp .ge 35, 3) := by decide +kernel
theorem dX12_pulls_10 : decode cX12_pulls 10 = .ok (.iload_n 1, 1) := by decide +kernel
theorem dX12_pulls_11 : decode cX12_pulls 11 = .ok (.aload_n 0, 1) := by decide +kernel
theorem dX12_pulls_12 : decode cX12_pulls 12 = .ok (.getfield 28, 3) := by decide +kernel
theorem dX12_pulls_15 : decode cX12_pulls 15 = .ok (.iload_n 2, 1) := by decide +kernel
theorem dX12_pulls_16 : decode cX12_pulls 16 = .ok (.iaload, 1) := by decide +kernel
theorem dX12_pulls_17 : decode cX12_pulls 17 = .ok (.ifCond .ge 7, 3) := by decide +kernel
theorem dX12_pulls_20 : decode cX12_pulls 20 = .ok (.iconst 0, 1) := by decide +kernel
theorem dX12_pulls_21 : decode cX12_pulls 21 = .ok (.goto 13, 3) := by decide +kernel
theorem dX12_pulls_24 : decode cX12_pulls 24 = .ok (.aload_n 0, 1) := by decide +kernel
theorem dX12_pulls_25 : decode cX12_pulls 25 = .ok (.getfield 9, 3) := by decide +kernel
theorem dX12_pulls_28 : decode cX12_pulls 28 = .ok (.iload_n 2, 1) := by decide +kernel
theorem dX12_pulls_29 : decode cX12_pulls 29 = .ok (.iconst 2, 1) := by decide +kernel
theorem dX12_pulls_30 : decode cX12_pulls 30 = .ok (.invokestatic 61, 3) := by decide +kernel
theorem dX12_pulls_33 : decode cX12_pulls 33 = .ok (.iaload, 1) := by decide +kernel
theorem dX12_pulls_34 : decode cX12_pulls 34 = .ok (.iadd, 1) := by decide +kernel
theorem dX12_pulls_35 : decode cX12_pulls 35 = .ok (.istore_n 1, 1) := by decide +kernel
theorem dX12_pulls_36 : decode cX12_pulls 36 = .ok (.iinc 2 1, 3) := by decide +kernel
theorem dX12_pulls_39 : decode cX12_pulls 39 = .ok (.goto (-35), 3) := by decide +kernel
theorem dX12_pulls_42 : decode cX12_pulls 42 = .ok (.iload_n 1, 1) := by decide +kernel
theorem dX12_pulls_43 : decode cX12_pulls 43 = .ok (.ireturn, 1) := by decide +kernel
theorem dX12_goFrom_0 : decode cX12_goFrom 0 = .ok (.iload_n 3, 1) := by decide +kernel
theorem dX12_goFrom_1 : decode cX12_goFrom 1 = .ok (.ifCond .eq 12, 3) := by decide +kernel
theorem dX12_goFrom_4 : decode cX12_goFrom 4 = .ok (.aload_n 0, 1) := by decide +kernel
theorem dX12_goFrom_5 : decode cX12_goFrom 5 = .ok (.getfield 28, 3) := by decide +kernel
theorem dX12_goFrom_8 : decode cX12_goFrom 8 = .ok (.iload_n 2, 1) := by decide +kernel
theorem dX12_goFrom_9 : decode cX12_goFrom 9 = .ok (.iaload, 1) := by decide +kernel
theorem dX12_goFrom_10 : decode cX12_goFrom 10 = .ok (.ifCond .ge 7, 3) := by decide +kernel
theorem dX12_goFrom_13 : decode cX12_goFrom 13 = .ok (.iconst 0, 1) := by decide +kernel
theorem dX12_goFrom_14 : decode cX12_goFrom 14 = .ok (.goto 29, 3) := by decide +kernel
theorem dX12_goFrom_17 : decode cX12_goFrom 17 = .ok (.aload_n 0, 1) := by decide +kernel
theorem dX12_goFrom_18 : decode cX12_goFrom 18 = .ok (.getfield 9, 3) := by decide +kernel
theorem dX12_goFrom_21 : decode cX12_goFrom 21 = .ok (.bipush 22, 2) := by decide +kernel
theorem dX12_goFrom_23 : decode cX12_goFrom 23 = .ok (.iconst 2, 1) := by decide +kernel
theorem dX12_goFrom_24 : decode cX12_goFrom 24 = .ok (.iload_n 1, 1) := by decide +kernel
theorem dX12_goFrom_25 : decode cX12_goFrom 25 = .ok (.imul, 1) := by decide +kernel
theorem dX12_goFrom_26 : decode cX12_goFrom 26 = .ok (.iadd, 1) := by decide +kernel
theorem dX12_goFrom_27 : decode cX12_goFrom 27 = .ok (.iconst 1, 1) := by decide +kernel
theorem dX12_goFrom_28 : decode cX12_goFrom 28 = .ok (.iadd, 1) := by decide +kernel
theorem dX12_goFrom_29 : decode cX12_goFrom 29 = .ok (.iaload, 1) := by decide +kernel
theorem dX12_goFrom_30 : decode cX12_goFrom 30 = .ok (.aload_n 0, 1) := by decide +kernel
theorem dX12_goFrom_31 : decode cX12_goFrom 31 = .ok (.getfield 9, 3) := by decide +kernel
theorem dX12_goFrom_34 : decode cX12_goFrom 34 = .ok (.iload_n 2, 1) := by decide +kernel
theorem dX12_goFrom_35 : decode cX12_goFrom 35 = .ok (.iconst 2, 1) := by decide +kernel
theorem dX12_goFrom_36 : decode cX12_goFrom 36 = .ok (.invokestatic 61, 3) := by decide +kernel
theorem dX12_goFrom_39 : decode cX12_goFrom 39 = .ok (.iaload, 1) := by decide +kernel
theorem dX12_goFrom_40 : decode cX12_goFrom 40 = .ok (.imul, 1) := by decide +kernel
theorem dX12_goFrom_41 : decode cX12_goFrom 41 = .ok (.iload_n 3, 1) := by decide +kernel
theorem dX12_goFrom_42 : decode cX12_goFrom 42 = .ok (.idiv, 1) := by decide +kernel
theorem dX12_goFrom_43 : decode cX12_goFrom 43 = .ok (.ireturn, 1) := by decide +kernel
theorem dX12_comers_0 : decode cX12_comers 0 = .ok (.aload_n 0, 1) := by decide +kernel
theorem dX12_comers_1 : decode cX12_comers 1 = .ok (.invokevirtual 85, 3) := by decide +kernel
theorem dX12_comers_4 : decode cX12_comers 4 = .ok (.istore_n 2, 1) := by decide +kernel
theorem dX12_comers_5 : decode cX12_comers 5 = .ok (.iconst 0, 1) := by decide +kernel
theorem dX12_comers_6 : decode cX12_comers 6 = .ok (.istore_n 3, 1) := by decide +kernel
theorem dX12_comers_7 : decode cX12_comers 7 = .ok (.iconst 0, 1) := by decide +kernel
theorem dX12_comers_8 : decode cX12_comers 8 = .ok (.istore 4, 2) := by decide +kernel
theorem dX12_comers_10 : decode cX12_comers 10 = .ok (.iload 4, 2) := by decide +kernel
theorem dX12_comers_12 : decode cX12_comers 12 = .ok (.aload_n 0, 1) := by decide +kernel
theorem dX12_comers_13 : decode cX12_comers 13 = .ok (.getfield 9, 3) := by decide +kernel
theorem dX12_comers_16 : decode cX12_comers 16 = .ok (.iconst 1, 1) := by decide +kernel
theorem dX12_comers_17 : decode cX12_comers 17 = .ok (.iaload, 1) := by decide +kernel
theorem dX12_comers_18 : decode cX12_comers 18 = .ok (.if_icmp .ge 20, 3) := by decide +kernel
theorem dX12_comers_21 : decode cX12_comers 21 = .ok (.iload_n 3, 1) := by decide +kernel
theorem dX12_comers_22 : decode cX12_comers 22 = .ok (.aload_n 0, 1) := by decide +kernel
theorem dX12_comers_23 : decode cX12_comers 23 = .ok (.iload 4, 2) := by decide +kernel
theorem dX12_comers_25 : decode cX12_comers 25 = .ok (.iload_n 1, 1) := by decide +kernel
theorem dX12_comers_26 : decode cX12_comers 26 = .ok (.iload_n 2, 1) := by decide +kernel
theorem dX12_comers_27 : decode cX12_comers 27 = .ok (.invokevirtual 89, 3) := by decide +kernel
theorem dX12_comers_30 : decode cX12_comers 30 = .ok (.iadd, 1) := by decide +kernel
theorem dX12_comers_31 : decode cX12_comers 31 = .ok (.istore_n 3, 1) := by decide +kernel
theorem dX12_comers_32 : decode cX12_comers 32 = .ok (.iinc 4 1, 3) := by decide +kernel
theorem dX12_comers_35 : decode cX12_comers 35 = .ok (.goto (-25), 3) := by decide +kernel
theorem dX12_comers_38 : decode cX12_comers 38 = .ok (.iload_n 3, 1) := by decide +kernel
theorem dX12_comers_39 : decode cX12_comers 39 = .ok (.ireturn, 1) := by decide +kernel
theorem dX12_passers_0 : decode cX12_passers 0 = .ok (.aload_n 0, 1) := by decide +kernel
theorem dX12_passers_1 : decode cX12_passers 1 = .ok (.invokevirtual 85, 3) := by decide +kernel
theorem dX12_passers_4 : decode cX12_passers 4 = .ok (.istore_n 2, 1) := by decide +kernel
theorem dX12_passers_5 : decode cX12_passers 5 = .ok (.iconst 0, 1) := by decide +kernel
theorem dX12_passers_6 : decode cX12_passers 6 = .ok (.istore_n 3, 1) := by decide +kernel
theorem dX12_passers_7 : decode cX12_passers 7 = .ok (.iconst 0, 1) := by decide +kernel
theorem dX12_passers_8 : decode cX12_passers 8 = .ok (.istore 4, 2) := by decide +kernel
theorem dX12_passers_10 : decode cX12_passers 10 = .ok (.iload 4, 2) := by decide +kernel
theorem dX12_passers_12 : decode cX12_passers 12 = .ok (.aload_n 0, 1) := by decide +kernel
theorem dX12_passers_13 : decode cX12_passers 13 = .ok (.getfield 9, 3) := by decide +kernel
theorem dX12_passers_16 : decode cX12_passers 16 = .ok (.iconst 1, 1) := by decide +kernel
theorem dX12_passers_17 : decode cX12_passers 17 = .ok (.iaload, 1) := by decide +kernel
theorem dX12_passers_18 : decode cX12_passers 18 = .ok (.if_icmp .ge 119, 3) := by decide +kernel
theorem dX12_passers_21 : decode cX12_passers 21 = .ok (.aload_n 0, 1) := by decide +kernel
theorem dX12_passers_22 : decode cX12_passers 22 = .ok (.getfield 9, 3) := by decide +kernel
theorem dX12_passers_25 : decode cX12_passers 25 = .ok (.bipush 22, 2) := by decide +kernel
theorem dX12_passers_27 : decode cX12_passers 27 = .ok (.iconst 2, 1) := by decide +kernel
theorem dX12_passers_28 : decode cX12_passers 28 = .ok (.iload 4, 2) := by decide +kernel
theorem dX12_passers_30 : decode cX12_passers 30 = .ok (.imul, 1) := by decide +kernel
theorem dX12_passers_31 : decode cX12_passers 31 = .ok (.iadd, 1) := by decide +kernel
theorem dX12_passers_32 : decode cX12_passers 32 = .ok (.iaload, 1) := by decide +kernel
theorem dX12_passers_33 : decode cX12_passers 33 = .ok (.istore 5, 2) := by decide +kernel
theorem dX12_passers_35 : decode cX12_passers 35 = .ok (.iconst 0, 1) := by decide +kernel
theorem dX12_passers_36 : decode cX12_passers 36 = .ok (.istore 6, 2) := by decide +kernel
theorem dX12_passers_38 : decode cX12_passers 38 = .ok (.iload 6, 2) := by decide +kernel
theorem dX12_passers_40 : decode cX12_passers 40 = .ok (.bipush 12, 2) := by decide +kernel
theorem dX12_passers_42 : decode cX12_passers 42 = .ok (.if_icmp .ge 89, 3) := by decide +kernel
theorem dX12_passers_45 : decode cX12_passers 45 = .ok (.aload_n 0, 1) := by decide +kernel
theorem dX12_passers_46 : decode cX12_passers 46 = .ok (.getfield 28, 3) := by decide +kernel
theorem dX12_passers_49 : decode cX12_passers 49 = .ok (.iload 6, 2) := by decide +kernel
theorem dX12_passers_51 : decode cX12_passers 51 = .ok (.iaload, 1) := by decide +kernel
theorem dX12_passers_52 : decode cX12_passers 52 = .ok (.ifCond .lt 49, 3) := by decide +kernel
theorem dX12_passers_55 : decode cX12_passers 55 = .ok (.aload_n 0, 1) := by decide +kernel
theorem dX12_passers_56 : decode cX12_passers 56 = .ok (.getfield 28, 3) := by decide +kernel
theorem dX12_passers_59 : decode cX12_passers 59 = .ok (.iload 6, 2) := by decide +kernel
theorem dX12_passers_61 : decode cX12_passers 61 = .ok (.iaload, 1) := by decide +kernel
theorem dX12_passers_62 : decode cX12_passers 62 = .ok (.iload_n 1, 1) := by decide +kernel
theorem dX12_passers_63 : decode cX12_passers 63 = .ok (.if_icmp .eq 38, 3) := by decide +kernel
theorem dX12_passers_66 : decode cX12_passers 66 = .ok (.iload_n 1, 1) := by decide +kernel
theorem dX12_passers_67 : decode cX12_passers 67 = .ok (.iload 5, 2) := by decide +kernel
theorem dX12_passers_69 : decode cX12_passers 69 = .ok (.aload_n 0, 1) := by decide +kernel
theorem dX12_passers_70 : decode cX12_passers 70 = .ok (.getfield 28, 3) := by decide +kernel
theorem dX12_passers_73 : decode cX12_passers 73 = .ok (.iload 6, 2) := by decide +kernel
theorem dX12_passers_75 : decode cX12_passers 75 = .ok (.iaload, 1) := by decide +kernel
theorem dX12_passers_76 : decode cX12_passers 76 = .ok (.invokestatic 93, 3) := by decide +kernel
theorem dX12_passers_79 : decode cX12_passers 79 = .ok (.iload 5, 2) := by decide +kernel
theorem dX12_passers_81 : decode cX12_passers 81 = .ok (.aload_n 0, 1) := by decide +kernel
theorem dX12_passers_82 : decode cX12_passers 82 = .ok (.getfield 28, 3) := by decide +kernel
theorem dX12_passers_85 : decode cX12_passers 85 = .ok (.iload 6, 2) := by decide +kernel
theorem dX12_passers_87 : decode cX12_passers 87 = .ok (.iaload, 1) := by decide +kernel
theorem dX12_passers_88 : decode cX12_passers 88 = .ok (.invokestatic 98, 3) := by decide +kernel
theorem dX12_passers_91 : decode cX12_passers 91 = .ok (.invokestatic 49, 3) := by decide +kernel
theorem dX12_passers_94 : decode cX12_passers 94 = .ok (.ifCond .eq 7, 3) := by decide +kernel
theorem dX12_passers_97 : decode cX12_passers 97 = .ok (.iconst 1, 1) := by decide +kernel
theorem dX12_passers_98 : decode cX12_passers 98 = .ok (.goto 4, 3) := by decide +kernel
theorem dX12_passers_101 : decode cX12_passers 101 = .ok (.iconst 0, 1) := by decide +kernel
theorem dX12_passers_102 : decode cX12_passers 102 = .ok (.istore 7, 2) := by decide +kernel
theorem dX12_passers_104 : decode cX12_passers 104 = .ok (.iload_n 3, 1) := by decide +kernel
theorem dX12_passers_105 : decode cX12_passers 105 = .ok (.iload 7, 2) := by decide +kernel
theorem dX12_passers_107 : decode cX12_passers 107 = .ok (.ifCond .eq 15, 3) := by decide +kernel
theorem dX12_passers_110 : decode cX12_passers 110 = .ok (.aload_n 0, 1) := by decide +kernel
theorem dX12_passers_111 : decode cX12_passers 111 = .ok (.iload 4, 2) := by decide +kernel
theorem dX12_passers_113 : decode cX12_passers 113 = .ok (.iload 6, 2) := by decide +kernel
theorem dX12_passers_115 : decode cX12_passers 115 = .ok (.iload_n 2, 1) := by decide +kernel
theorem dX12_passers_116 : decode cX12_passers 116 = .ok (.invokevirtual 89, 3) := by decide +kernel
theorem dX12_passers_119 : decode cX12_passers 119 = .ok (.goto 4, 3) := by decide +kernel
theorem dX12_passers_122 : decode cX12_passers 122 = .ok (.iconst 0, 1) := by decide +kernel
theorem dX12_passers_123 : decode cX12_passers 123 = .ok (.iadd, 1) := by decide +kernel
theorem dX12_passers_124 : decode cX12_passers 124 = .ok (.istore_n 3, 1) := by decide +kernel
theorem dX12_passers_125 : decode cX12_passers 125 = .ok (.iinc 6 1, 3) := by decide +kernel
theorem dX12_passers_128 : decode cX12_passers 128 = .ok (.goto (-90), 3) := by decide +kernel
theorem dX12_passers_131 : decode cX12_passers 131 = .ok (.iinc 4 1, 3) := by decide +kernel
theorem dX12_passers_134 : decode cX12_passers 134 = .ok (.goto (-124), 3) := by decide +kernel
theorem dX12_passers_137 : decode cX12_passers 137 = .ok (.iload_n 3, 1) := by decide +kernel
theorem dX12_passers_138 : decode cX12_passers 138 = .ok (.ireturn, 1) := by decide +kernel
theorem dX12_foretold_0 : decode cX12_foretold 0 = .ok (.aload_n 0, 1) := by decide +kernel
theorem dX12_foretold_1 : decode cX12_foretold 1 = .ok (.iload_n 1, 1) := by decide +kernel
theorem dX12_foretold_2 : decode cX12_foretold 2 = .ok (.invokevirtual 101, 3) := by decide +kernel
theorem dX12_foretold_5 : decode cX12_foretold 5 = .ok (.aload_n 0, 1) := by decide +kernel
theorem dX12_foretold_6 : decode cX12_foretold 6 = .ok (.aload_n 0, 1) := by decide +kernel
theorem dX12_foretold_7 : decode cX12_foretold 7 = .ok (.getfield 28, 3) := by decide +kernel
theorem dX12_foretold_10 : decode cX12_foretold 10 = .ok (.iload_n 1, 1) := by decide +kernel
theorem dX12_foretold_11 : decode cX12_foretold 11 = .ok (.iaload, 1) := by decide +kernel
theorem dX12_foretold_12 : decode cX12_foretold 12 = .ok (.invokevirtual 104, 3) := by decide +kernel
theorem dX12_foretold_15 : decode cX12_foretold 15 = .ok (.aload_n 0, 1) := by decide +kernel
theorem dX12_foretold_16 : decode cX12_foretold 16 = .ok (.getfield 9, 3) := by decide +kernel
theorem dX12_foretold_19 : decode cX12_foretold 19 = .ok (.iload_n 1, 1) := by decide +kernel
theorem dX12_foretold_20 : decode cX12_foretold 20 = .ok (.iconst 4, 1) := by decide +kernel
theorem dX12_foretold_21 : decode cX12_foretold 21 = .ok (.invokestatic 61, 3) := by decide +kernel
theorem dX12_foretold_24 : decode cX12_foretold 24 = .ok (.iaload, 1) := by decide +kernel
theorem dX12_foretold_25 : decode cX12_foretold 25 = .ok (.imul, 1) := by decide +kernel
theorem dX12_foretold_26 : decode cX12_foretold 26 = .ok (.sipush 1000, 3) := by decide +kernel
theorem dX12_foretold_29 : decode cX12_foretold 29 = .ok (.idiv, 1) := by decide +kernel
theorem dX12_foretold_30 : decode cX12_foretold 30 = .ok (.iadd, 1) := by decide +kernel
theorem dX12_foretold_31 : decode cX12_foretold 31 = .ok (.aload_n 0, 1) := by decide +kernel
theorem dX12_foretold_32 : decode cX12_foretold 32 = .ok (.getfield 9, 3) := by decide +kernel
theorem dX12_foretold_35 : decode cX12_foretold 35 = .ok (.iload_n 1, 1) := by decide +kernel
theorem dX12_foretold_36 : decode cX12_foretold 36 = .ok (.iconst 3, 1) := by decide +kernel
theorem dX12_foretold_37 : decode cX12_foretold 37 = .ok (.invokestatic 61, 3) := by decide +kernel
theorem dX12_foretold_40 : decode cX12_foretold 40 = .ok (.iaload, 1) := by decide +kernel
theorem dX12_foretold_41 : decode cX12_foretold 41 = .ok (.imul, 1) := by decide +kernel
theorem dX12_foretold_42 : decode cX12_foretold 42 = .ok (.ireturn, 1) := by decide +kernel
theorem dX12_others_0 : decode cX12_others 0 = .ok (.iconst 0, 1) := by decide +kernel
theorem dX12_others_1 : decode cX12_others 1 = .ok (.istore_n 3, 1) := by decide +kernel
theorem dX12_others_2 : decode cX12_others 2 = .ok (.iconst 0, 1) := by decide +kernel
theorem dX12_others_3 : decode cX12_others 3 = .ok (.istore 4, 2) := by decide +kernel
theorem dX12_others_5 : decode cX12_others 5 = .ok (.iload 4, 2) := by decide +kernel
theorem dX12_others_7 : decode cX12_others 7 = .ok (.bipush 12, 2) := by decide +kernel
theorem dX12_others_9 : decode cX12_others 9 = .ok (.if_icmp .ge 161, 3) := by decide +kernel
theorem dX12_others_12 : decode cX12_others 12 = .ok (.iload 4, 2) := by decide +kernel
theorem dX12_others_14 : decode cX12_others 14 = .ok (.iload_n 1, 1) := by decide +kernel
theorem dX12_others_15 : decode cX12_others 15 = .ok (.if_icmp .eq 149, 3) := by decide +kernel
theorem dX12_others_18 : decode cX12_others 18 = .ok (.aload_n 0, 1) := by decide +kernel
theorem dX12_others_19 : decode cX12_others 19 = .ok (.getfield 28, 3) := by decide +kernel
theorem dX12_others_22 : decode cX12_others 22 = .ok (.iload 4, 2) := by decide +kernel
theorem dX12_others_24 : decode cX12_others 24 = .ok (.iaload, 1) := by decide +kernel
theorem dX12_others_25 : decode cX12_others 25 = .ok (.ifCond .ge 6, 3) := by decide +kernel
theorem dX12_others_28 : decode cX12_others 28 = .ok (.goto 136, 3) := by decide +kernel
theorem dX12_others_31 : decode cX12_others 31 = .ok (.aload_n 0, 1) := by decide +kernel
theorem dX12_others_32 : decode cX12_others 32 = .ok (.getfield 28, 3) := by decide +kernel
theorem dX12_others_35 : decode cX12_others 35 = .ok (.iload 4, 2) := by decide +kernel
theorem dX12_others_37 : decode cX12_others 37 = .ok (.iaload, 1) := by decide +kernel
theorem dX12_others_38 : decode cX12_others 38 = .ok (.aload_n 0, 1) := by decide +kernel
theorem dX12_others_39 : decode cX12_others 39 = .ok (.getfield 28, 3) := by decide +kernel
theorem dX12_others_42 : decode cX12_others 42 = .ok (.iload_n 1, 1) := by decide +kernel
theorem dX12_others_43 : decode cX12_others 43 = .ok (.iaload, 1) := by decide +kernel
theorem dX12_others_44 : decode cX12_others 44 = .ok (.isub, 1) := by decide +kernel
theorem dX12_others_45 : decode cX12_others 45 = .ok (.invokestatic 107, 3) := by decide +kernel
theorem dX12_others_48 : decode cX12_others 48 = .ok (.istore 5, 2) := by decide +kernel
theorem dX12_others_50 : decode cX12_others 50 = .ok (.aload_n 0, 1) := by decide +kernel
theorem dX12_others_51 : decode cX12_others 51 = .ok (.getfield 9, 3) := by decide +kernel
theorem dX12_others_54 : decode cX12_others 54 = .ok (.iload 4, 2) := by decide +kernel
theorem dX12_others_56 : decode cX12_others 56 = .ok (.iconst 1, 1) := by decide +kernel
theorem dX12_others_57 : decode cX12_others 57 = .ok (.invokestatic 61, 3) := by decide +kernel
theorem dX12_others_60 : decode cX12_others 60 = .ok (.iaload, 1) := by decide +kernel
theorem dX12_others_61 : decode cX12_others 61 = .ok (.aload_n 0, 1) := by decide +kernel
theorem dX12_others_62 : decode cX12_others 62 = .ok (.getfield 9, 3) := by decide +kernel
theorem dX12_others_65 : decode cX12_others 65 = .ok (.iload_n 1, 1) := by decide +kernel
theorem dX12_others_66 : decode cX12_others 66 = .ok (.iconst 1, 1) := by decide +kernel
theorem dX12_others_67 : decode cX12_others 67 = .ok (.invokestatic 61, 3) := by decide +kernel
theorem dX12_others_70 : decode cX12_others 70 = .ok (.iaload, 1) := by decide +kernel
theorem dX12_others_71 : decode cX12_others 71 = .ok (.if_icmp .ne 22, 3) := by decide +kernel
theorem dX12_others_74 : decode cX12_others 74 = .ok (.iload 5, 2) := by decide +kernel
theorem dX12_others_76 : decode cX12_others 76 = .ok (.aload_n 0, 1) := by decide +kernel
theorem dX12_others_77 : decode cX12_others 77 = .ok (.getfield 9, 3) := by decide +kernel
theorem dX12_others_80 : decode cX12_others 80 = .ok (.iload_n 1, 1) := by decide +kernel
theorem dX12_others_81 : decode cX12_others 81 = .ok (.iconst 5, 1) := by decide +kernel
theorem dX12_others_82 : decode cX12_others 82 = .ok (.invokestatic 61, 3) := by decide +kernel
theorem dX12_others_85 : decode cX12_others 85 = .ok (.iaload, 1) := by decide +kernel
theorem dX12_others_86 : decode cX12_others 86 = .ok (.if_icmp .gt 7, 3) := by decide +kernel
theorem dX12_others_89 : decode cX12_others 89 = .ok (.iconst 1, 1) := by decide +kernel
theorem dX12_others_90 : decode cX12_others 90 = .ok (.goto 4, 3) := by decide +kernel
theorem dX12_others_93 : decode cX12_others 93 = .ok (.iconst 0, 1) := by decide +kernel
theorem dX12_others_94 : decode cX12_others 94 = .ok (.istore 6, 2) := by decide +kernel
theorem dX12_others_96 : decode cX12_others 96 = .ok (.iload_n 2, 1) := by decide +kernel
theorem dX12_others_97 : decode cX12_others 97 = .ok (.iconst 4, 1) := by decide +kernel
theorem dX12_others_98 : decode cX12_others 98 = .ok (.if_icmp .eq 46, 3) := by decide +kernel
theorem dX12_others_101 : decode cX12_others 101 = .ok (.iload_n 2, 1) := by decide +kernel
theorem dX12_others_102 : decode cX12_others 102 = .ok (.iconst 5, 1) := by decide +kernel
theorem dX12_others_103 : decode cX12_others 103 = .ok (.if_icmp .ne 21, 3) := by decide +kernel
theorem dX12_others_106 : decode cX12_others 106 = .ok (.aload_n 0, 1) := by decide +kernel
theorem dX12_others_107 : decode cX12_others 107 = .ok (.getfield 9, 3) := by decide +kernel
theorem dX12_others_110 : decode cX12_others 110 = .ok (.iload 4, 2) := by decide +kernel
theorem dX12_others_112 : decode cX12_others 112 = .ok (.iconst 0, 1) := by decide +kernel
theorem dX12_others_113 : decode cX12_others 113 = .ok (.invokestatic 61, 3) := by decide +kernel
theorem dX12_others_116 : decode cX12_others 116 = .ok (.iaload, 1) := by decide +kernel
theorem dX12_others_117 : decode cX12_others 117 = .ok (.iconst 1, 1) := by decide +kernel
theorem dX12_others_118 : decode cX12_others 118 = .ok (.if_icmp .ne 30, 3) := by decide +kernel
theorem dX12_others_121 : decode cX12_others 121 = .ok (.goto 23, 3) := by decide +kernel
theorem dX12_others_124 : decode cX12_others 124 = .ok (.iload_n 2, 1) := by decide +kernel
theorem dX12_others_125 : decode cX12_others 125 = .ok (.bipush 6, 2) := by decide +kernel
theorem dX12_others_127 : decode cX12_others 127 = .ok (.if_icmp .ne 12, 3) := by decide +kernel
theorem dX12_others_130 : decode cX12_others 130 = .ok (.iload 5, 2) := by decide +kernel
theorem dX12_others_132 : decode cX12_others 132 = .ok (.iconst 1, 1) := by decide +kernel
theorem dX12_others_133 : decode cX12_others 133 = .ok (.if_icmp .ne 15, 3) := by decide +kernel
theorem dX12_others_136 : decode cX12_others 136 = .ok (.goto 8, 3) := by decide +kernel
theorem dX12_others_139 : decode cX12_others 139 = .ok (.iload 6, 2) := by decide +kernel
theorem dX12_others_141 : decode cX12_others 141 = .ok (.ifCond .eq 7, 3) := by decide +kernel
theorem dX12_others_144 : decode cX12_others 144 = .ok (.iconst 1, 1) := by decide +kernel
theorem dX12_others_145 : decode cX12_others 145 = .ok (.goto 4, 3) := by decide +kernel
theorem dX12_others_148 : decode cX12_others 148 = .ok (.iconst 0, 1) := by decide +kernel
theorem dX12_others_149 : decode cX12_others 149 = .ok (.istore 7, 2) := by decide +kernel
theorem dX12_others_151 : decode cX12_others 151 = .ok (.iload_n 3, 1) := by decide +kernel
theorem dX12_others_152 : decode cX12_others 152 = .ok (.iload 7, 2) := by decide +kernel
theorem dX12_others_154 : decode cX12_others 154 = .ok (.ifCond .eq 7, 3) := by decide +kernel
theorem dX12_others_157 : decode cX12_others 157 = .ok (.iconst 1, 1) := by decide +kernel
theorem dX12_others_158 : decode cX12_others 158 = .ok (.goto 4, 3) := by decide +kernel
theorem dX12_others_161 : decode cX12_others 161 = .ok (.iconst 0, 1) := by decide +kernel
theorem dX12_others_162 : decode cX12_others 162 = .ok (.iadd, 1) := by decide +kernel
theorem dX12_others_163 : decode cX12_others 163 = .ok (.istore_n 3, 1) := by decide +kernel
theorem dX12_others_164 : decode cX12_others 164 = .ok (.iinc 4 1, 3) := by decide +kernel
theorem dX12_others_167 : decode cX12_others 167 = .ok (.goto (-162), 3) := by decide +kernel
theorem dX12_others_170 : decode cX12_others 170 = .ok (.iload_n 2, 1) := by decide +kernel
theorem dX12_others_171 : decode cX12_others 171 = .ok (.bipush 7, 2) := by decide +kernel
theorem dX12_others_173 : decode cX12_others 173 = .ok (.if_icmp .ne 12, 3) := by decide +kernel
theorem dX12_others_176 : decode cX12_others 176 = .ok (.iload_n 3, 1) := by decide +kernel
theorem dX12_others_177 : decode cX12_others 177 = .ok (.iconst 1, 1) := by decide +kernel
theorem dX12_others_178 : decode cX12_others 178 = .ok (.if_icmp .le 7, 3) := by decide +kernel
theorem dX12_others_181 : decode cX12_others 181 = .ok (.iconst 1, 1) := by decide +kernel
theorem dX12_others_182 : decode cX12_others 182 = .ok (.goto 4, 3) := by decide +kernel
theorem dX12_others_185 : decode cX12_others 185 = .ok (.iload_n 3, 1) := by decide +kernel
theorem dX12_others_186 : decode cX12_others 186 = .ok (.ireturn, 1) := by decide +kernel
theorem dX12_stands_0 : decode cX12_stands 0 = .ok (.aload_n 0, 1) := by decide +kernel
theorem dX12_stands_1 : decode cX12_stands 1 = .ok (.iload_n 1, 1) := by decide +kernel
theorem dX12_stands_2 : decode cX12_stands 2 = .ok (.invokevirtual 65, 3) := by decide +kernel
theorem dX12_stands_5 : decode cX12_stands 5 = .ok (.ifCond .eq 21, 3) := by decide +kernel
theorem dX12_stands_8 : decode cX12_stands 8 = .ok (.aload_n 0, 1) := by decide +kernel
theorem dX12_stands_9 : decode cX12_stands 9 = .ok (.iload_n 2, 1) := by decide +kernel
theorem dX12_stands_10 : decode cX12_stands 10 = .ok (.invokevirtual 110, 3) := by decide +kernel
theorem dX12_stands_13 : decode cX12_stands 13 = .ok (.ifCond .eq 13, 3) := by decide +kernel
theorem dX12_stands_16 : decode cX12_stands 16 = .ok (.iload_n 3, 1) := by decide +kernel
theorem dX12_stands_17 : decode cX12_stands 17 = .ok (.iconst 0, 1) := by decide +kernel
theorem dX12_stands_18 : decode cX12_stands 18 = .ok (.bipush 7, 2) := by decide +kernel
theorem dX12_stands_20 : decode cX12_stands 20 = .ok (.invokestatic 49, 3) := by decide +kernel
theorem dX12_stands_23 : decode cX12_stands 23 = .ok (.ifCond .ne 6, 3) := by decide +kernel
theorem dX12_stands_26 : decode cX12_stands 26 = .ok (.ldc 57, 2) := by decide +kernel
theorem dX12_stands_28 : decode cX12_stands 28 = .ok (.ireturn, 1) := by decide +kernel
theorem dX12_stands_29 : decode cX12_stands 29 = .ok (.aload_n 0, 1) := by decide +kernel
theorem dX12_stands_30 : decode cX12_stands 30 = .ok (.iload_n 2, 1) := by decide +kernel
theorem dX12_stands_31 : decode cX12_stands 31 = .ok (.invokevirtual 72, 3) := by decide +kernel
theorem dX12_stands_34 : decode cX12_stands 34 = .ok (.aload_n 0, 1) := by decide +kernel
theorem dX12_stands_35 : decode cX12_stands 35 = .ok (.getfield 28, 3) := by decide +kernel
theorem dX12_stands_38 : decode cX12_stands 38 = .ok (.iload_n 1, 1) := by decide +kernel
theorem dX12_stands_39 : decode cX12_stands 39 = .ok (.iaload, 1) := by decide +kernel
theorem dX12_stands_40 : decode cX12_stands 40 = .ok (.ifCond .ge 15, 3) := by decide +kernel
theorem dX12_stands_43 : decode cX12_stands 43 = .ok (.iload_n 3, 1) := by decide +kernel
theorem dX12_stands_44 : decode cX12_stands 44 = .ok (.ifCond .ne 8, 3) := by decide +kernel
theorem dX12_stands_47 : decode cX12_stands 47 = .ok (.ldc 71, 2) := by decide +kernel
theorem dX12_stands_49 : decode cX12_stands 49 = .ok (.goto 5, 3) := by decide +kernel
theorem dX12_stands_52 : decode cX12_stands 52 = .ok (.ldc 80, 2) := by decide +kernel
theorem dX12_stands_54 : decode cX12_stands 54 = .ok (.ireturn, 1) := by decide +kernel
theorem dX12_stands_55 : decode cX12_stands 55 = .ok (.iload_n 3, 1) := by decide +kernel
theorem dX12_stands_56 : decode cX12_stands 56 = .ok (.tableswitch 62 0 3 #[32, 39, 45, 56], 32) := by decide +kernel
theorem dX12_stands_88 : decode cX12_stands 88 = .ok (.aload_n 0, 1) := by decide +kernel
theorem dX12_stands_89 : decode cX12_stands 89 = .ok (.getfield 28, 3) := by decide +kernel
theorem dX12_stands_92 : decode cX12_stands 92 = .ok (.iload_n 1, 1) := by decide +kernel
theorem dX12_stands_93 : decode cX12_stands 93 = .ok (.iaload, 1) := by decide +kernel
theorem dX12_stands_94 : decode cX12_stands 94 = .ok (.ireturn, 1) := by decide +kernel
theorem dX12_stands_95 : decode cX12_stands 95 = .ok (.aload_n 0, 1) := by decide +kernel
theorem dX12_stands_96 : decode cX12_stands 96 = .ok (.iload_n 1, 1) := by decide +kernel
theorem dX12_stands_97 : decode cX12_stands 97 = .ok (.invokevirtual 101, 3) := by decide +kernel
theorem dX12_stands_100 : decode cX12_stands 100 = .ok (.ireturn, 1) := by decide +kernel
theorem dX12_stands_101 : decode cX12_stands 101 = .ok (.aload_n 0, 1) := by decide +kernel
theorem dX12_stands_102 : decode cX12_stands 102 = .ok (.aload_n 0, 1) := by decide +kernel
theorem dX12_stands_103 : decode cX12_stands 103 = .ok (.getfield 28, 3) := by decide +kernel
theorem dX12_stands_106 : decode cX12_stands 106 = .ok (.iload_n 1, 1) := by decide +kernel
theorem dX12_stands_107 : decode cX12_stands 107 = .ok (.iaload, 1) := by decide +kernel
theorem dX12_stands_108 : decode cX12_stands 108 = .ok (.invokevirtual 104, 3) := by decide +kernel
theorem dX12_stands_111 : decode cX12_stands 111 = .ok (.ireturn, 1) := by decide +kernel
theorem dX12_stands_112 : decode cX12_stands 112 = .ok (.aload_n 0, 1) := by decide +kernel
theorem dX12_stands_113 : decode cX12_stands 113 = .ok (.iload_n 1, 1) := by decide +kernel
theorem dX12_stands_114 : decode cX12_stands 114 = .ok (.invokevirtual 113, 3) := by decide +kernel
theorem dX12_stands_117 : decode cX12_stands 117 = .ok (.ireturn, 1) := by decide +kernel
theorem dX12_stands_118 : decode cX12_stands 118 = .ok (.aload_n 0, 1) := by decide +kernel
theorem dX12_stands_119 : decode cX12_stands 119 = .ok (.iload_n 1, 1) := by decide +kernel
theorem dX12_stands_120 : decode cX12_stands 120 = .ok (.iload_n 3, 1) := by decide +kernel
theorem dX12_stands_121 : decode cX12_stands 121 = .ok (.invokevirtual 116, 3) := by decide +kernel
theorem dX12_stands_124 : decode cX12_stands 124 = .ok (.ireturn, 1) := by decide +kernel
theorem dX12_past_0 : decode cX12_past 0 = .ok (.iload_n 1, 1) := by decide +kernel
theorem dX12_past_1 : decode cX12_past 1 = .ok (.invokestatic 53, 3) := by decide +kernel
theorem dX12_past_4 : decode cX12_past 4 = .ok (.ifCond .eq 11, 3) := by decide +kernel
theorem dX12_past_7 : decode cX12_past 7 = .ok (.aload_n 0, 1) := by decide +kernel
theorem dX12_past_8 : decode cX12_past 8 = .ok (.iload_n 2, 1) := by decide +kernel
theorem dX12_past_9 : decode cX12_past 9 = .ok (.invokevirtual 110, 3) := by decide +kernel
theorem dX12_past_12 : decode cX12_past 12 = .ok (.ifCond .ne 6, 3) := by decide +kernel
theorem dX12_past_15 : decode cX12_past 15 = .ok (.ldc 57, 2) := by decide +kernel
theorem dX12_past_17 : decode cX12_past 17 = .ok (.ireturn, 1) := by decide +kernel
theorem dX12_past_18 : decode cX12_past 18 = .ok (.aload_n 0, 1) := by decide +kernel
theorem dX12_past_19 : decode cX12_past 19 = .ok (.iload_n 2, 1) := by decide +kernel
theorem dX12_past_20 : decode cX12_past 20 = .ok (.invokevirtual 72, 3) := by decide +kernel
theorem dX12_past_23 : decode cX12_past 23 = .ok (.aload_n 0, 1) := by decide +kernel
theorem dX12_past_24 : decode cX12_past 24 = .ok (.iload_n 1, 1) := by decide +kernel
theorem dX12_past_25 : decode cX12_past 25 = .ok (.invokevirtual 104, 3) := by decide +kernel
theorem dX12_past_28 : decode cX12_past 28 = .ok (.ireturn, 1) := by decide +kernel
theorem dX12_take_0 : decode cX12_take 0 = .ok (.aload_n 0, 1) := by decide +kernel
theorem dX12_take_1 : decode cX12_take 1 = .ok (.iload_n 1, 1) := by decide +kernel
theorem dX12_take_2 : decode cX12_take 2 = .ok (.invokevirtual 65, 3) := by decide +kernel
theorem dX12_take_5 : decode cX12_take 5 = .ok (.ifCond .eq 22, 3) := by decide +kernel
theorem dX12_take_8 : decode cX12_take 8 = .ok (.aload_n 0, 1) := by decide +kernel
theorem dX12_take_9 : decode cX12_take 9 = .ok (.iload_n 2, 1) := by decide +kernel
theorem dX12_take_10 : decode cX12_take 10 = .ok (.invokevirtual 110, 3) := by decide +kernel
theorem dX12_take_13 : decode cX12_take 13 = .ok (.ifCond .eq 14, 3) := by decide +kernel
theorem dX12_take_16 : decode cX12_take 16 = .ok (.iload_n 3, 1) := by decide +kernel
theorem dX12_take_17 : decode cX12_take 17 = .ok (.ldc 119, 2) := by decide +kernel
theorem dX12_take_19 : decode cX12_take 19 = .ok (.ldc 60, 2) := by decide +kernel
theorem dX12_take_21 : decode cX12_take 21 = .ok (.invokestatic 49, 3) := by decide +kernel
theorem dX12_take_24 : decode cX12_take 24 = .ok (.ifCond .ne 6, 3) := by decide +kernel
theorem dX12_take_27 : decode cX12_take 27 = .ok (.ldc 57, 2) := by decide +kernel
theorem dX12_take_29 : decode cX12_take 29 = .ok (.ireturn, 1) := by decide +kernel
theorem dX12_take_30 : decode cX12_take 30 = .ok (.aload_n 0, 1) := by decide +kernel
theorem dX12_take_31 : decode cX12_take 31 = .ok (.getfield 9, 3) := by decide +kernel
theorem dX12_take_34 : decode cX12_take 34 = .ok (.iconst 4, 1) := by decide +kernel
theorem dX12_take_35 : decode cX12_take 35 = .ok (.iaload, 1) := by decide +kernel
theorem dX12_take_36 : decode cX12_take 36 = .ok (.istore 4, 2) := by decide +kernel
theorem dX12_take_38 : decode cX12_take 38 = .ok (.iload 4, 2) := by decide +kernel
theorem dX12_take_40 : decode cX12_take 40 = .ok (.bipush 100, 2) := by decide +kernel
theorem dX12_take_42 : decode cX12_take 42 = .ok (.if_icmp .ne 6, 3) := by decide +kernel
theorem dX12_take_45 : decode cX12_take 45 = .ok (.ldc 59, 2) := by decide +kernel
theorem dX12_take_47 : decode cX12_take 47 = .ok (.ireturn, 1) := by decide +kernel
theorem dX12_take_48 : decode cX12_take 48 = .ok (.aload_n 0, 1) := by decide +kernel
theorem dX12_take_49 : decode cX12_take 49 = .ok (.getfield 9, 3) := by decide +kernel
theorem dX12_take_52 : decode cX12_take 52 = .ok (.sipush 340, 3) := by decide +kernel
theorem dX12_take_55 : decode cX12_take 55 = .ok (.iconst 2, 1) := by decide +kernel
theorem dX12_take_56 : decode cX12_take 56 = .ok (.iload 4, 2) := by decide +kernel
theorem dX12_take_58 : decode cX12_take 58 = .ok (.imul, 1) := by decide +kernel
theorem dX12_take_59 : decode cX12_take 59 = .ok (.iadd, 1) := by decide +kernel
theorem dX12_take_60 : decode cX12_take 60 = .ok (.iload_n 3, 1) := by decide +kernel
theorem dX12_take_61 : decode cX12_take 61 = .ok (.iastore, 1) := by decide +kernel
theorem dX12_take_62 : decode cX12_take 62 = .ok (.aload_n 0, 1) := by decide +kernel
theorem dX12_take_63 : decode cX12_take 63 = .ok (.getfield 9, 3) := by decide +kernel
theorem dX12_take_66 : decode cX12_take 66 = .ok (.sipush 340, 3) := by decide +kernel
theorem dX12_take_69 : decode cX12_take 69 = .ok (.iconst 2, 1) := by decide +kernel
theorem dX12_take_70 : decode cX12_take 70 = .ok (.iload 4, 2) := by decide +kernel
theorem dX12_take_72 : decode cX12_take 72 = .ok (.imul, 1) := by decide +kernel
theorem dX12_take_73 : decode cX12_take 73 = .ok (.iadd, 1) := by decide +kernel
theorem dX12_take_74 : decode cX12_take 74 = .ok (.iconst 1, 1) := by decide +kernel
theorem dX12_take_75 : decode cX12_take 75 = .ok (.iadd, 1) := by decide +kernel
theorem dX12_take_76 : decode cX12_take 76 = .ok (.iload_n 1, 1) := by decide +kernel
theorem dX12_take_77 : decode cX12_take 77 = .ok (.bipush 12, 2) := by decide +kernel
theorem dX12_take_79 : decode cX12_take 79 = .ok (.iload_n 2, 1) := by decide +kernel
theorem dX12_take_80 : decode cX12_take 80 = .ok (.imul, 1) := by decide +kernel
theorem dX12_take_81 : decode cX12_take 81 = .ok (.iadd, 1) := by decide +kernel
theorem dX12_take_82 : decode cX12_take 82 = .ok (.sipush 1452, 3) := by decide +kernel
theorem dX12_take_85 : decode cX12_take 85 = .ok (.aload_n 0, 1) := by decide +kernel
theorem dX12_take_86 : decode cX12_take 86 = .ok (.getfield 9, 3) := by decide +kernel
theorem dX12_take_89 : decode cX12_take 89 = .ok (.iconst 0, 1) := by decide +kernel
theorem dX12_take_90 : decode cX12_take 90 = .ok (.iaload, 1) := by decide +kernel
theorem dX12_take_91 : decode cX12_take 91 = .ok (.imul, 1) := by decide +kernel
theorem dX12_take_92 : decode cX12_take 92 = .ok (.iadd, 1) := by decide +kernel
theorem dX12_take_93 : decode cX12_take 93 = .ok (.iastore, 1) := by decide +kernel
theorem dX12_take_94 : decode cX12_take 94 = .ok (.aload_n 0, 1) := by decide +kernel
theorem dX12_take_95 : decode cX12_take 95 = .ok (.getfield 9, 3) := by decide +kernel
theorem dX12_take_98 : decode cX12_take 98 = .ok (.iconst 4, 1) := by decide +kernel
theorem dX12_take_99 : decode cX12_take 99 = .ok (.dup2, 1) := by decide +kernel
theorem dX12_take_100 : decode cX12_take 100 = .ok (.iaload, 1) := by decide +kernel
theorem dX12_take_101 : decode cX12_take 101 = .ok (.iconst 1, 1) := by decide +kernel
theorem dX12_take_102 : decode cX12_take 102 = .ok (.iadd, 1) := by decide +kernel
theorem dX12_take_103 : decode cX12_take 103 = .ok (.iastore, 1) := by decide +kernel
theorem dX12_take_104 : decode cX12_take 104 = .ok (.iload 4, 2) := by decide +kernel
theorem dX12_take_106 : decode cX12_take 106 = .ok (.ireturn, 1) := by decide +kernel
theorem dX12_gone_0 : decode cX12_gone 0 = .ok (.aload_n 0, 1) := by decide +kernel
theorem dX12_gone_1 : decode cX12_gone 1 = .ok (.getfield 9, 3) := by decide +kernel
theorem dX12_gone_4 : decode cX12_gone 4 = .ok (.sipush 340, 3) := by decide +kernel
theorem dX12_gone_7 : decode cX12_gone 7 = .ok (.iconst 2, 1) := by decide +kernel
theorem dX12_gone_8 : decode cX12_gone 8 = .ok (.iload_n 1, 1) := by decide +kernel
theorem dX12_gone_9 : decode cX12_gone 9 = .ok (.imul, 1) := by decide +kernel
theorem dX12_gone_10 : decode cX12_gone 10 = .ok (.iadd, 1) := by decide +kernel
theorem dX12_gone_11 : decode cX12_gone 11 = .ok (.iconst 1, 1) := by decide +kernel
theorem dX12_gone_12 : decode cX12_gone 12 = .ok (.iadd, 1) := by decide +kernel
theorem dX12_gone_13 : decode cX12_gone 13 = .ok (.iaload, 1) := by decide +kernel
theorem dX12_gone_14 : decode cX12_gone 14 = .ok (.ldc 120, 2) := by decide +kernel
theorem dX12_gone_16 : decode cX12_gone 16 = .ok (.idiv, 1) := by decide +kernel
theorem dX12_gone_17 : decode cX12_gone 17 = .ok (.iconst 1, 1) := by decide +kernel
theorem dX12_gone_18 : decode cX12_gone 18 = .ok (.isub, 1) := by decide +kernel
theorem dX12_gone_19 : decode cX12_gone 19 = .ok (.ireturn, 1) := by decide +kernel
theorem dX12_withdraw_0 : decode cX12_withdraw 0 = .ok (.iload_n 1, 1) := by decide +kernel
theorem dX12_withdraw_1 : decode cX12_withdraw 1 = .ok (.iconst 0, 1) := by decide +kernel
theorem dX12_withdraw_2 : decode cX12_withdraw 2 = .ok (.aload_n 0, 1) := by decide +kernel
theorem dX12_withdraw_3 : decode cX12_withdraw 3 = .ok (.getfield 9, 3) := by decide +kernel
theorem dX12_withdraw_6 : decode cX12_withdraw 6 = .ok (.iconst 4, 1) := by decide +kernel
theorem dX12_withdraw_7 : decode cX12_withdraw 7 = .ok (.iaload, 1) := by decide +kernel
theorem dX12_withdraw_8 : decode cX12_withdraw 8 = .ok (.iconst 1, 1) := by decide +kernel
theorem dX12_withdraw_9 : decode cX12_withdraw 9 = .ok (.isub, 1) := by decide +kernel
theorem dX12_withdraw_10 : decode cX12_withdraw 10 = .ok (.invokestatic 49, 3) := by decide +kernel
theorem dX12_withdraw_13 : decode cX12_withdraw 13 = .ok (.ifCond .ne 6, 3) := by decide +kernel
theorem dX12_withdraw_16 : decode cX12_withdraw 16 = .ok (.ldc 57, 2) := by decide +kernel
theorem dX12_withdraw_18 : decode cX12_withdraw 18 = .ok (.ireturn, 1) := by decide +kernel
theorem dX12_withdraw_19 : decode cX12_withdraw 19 = .ok (.aload_n 0, 1) := by decide +kernel
theorem dX12_withdraw_20 : decode cX12_withdraw 20 = .ok (.iload_n 1, 1) := by decide +kernel
theorem dX12_withdraw_21 : decode cX12_withdraw 21 = .ok (.invokevirtual 121, 3) := by decide +kernel
theorem dX12_withdraw_24 : decode cX12_withdraw 24 = .ok (.ifCond .lt 6, 3) := by decide +kernel
theorem dX12_withdraw_27 : decode cX12_withdraw 27 = .ok (.ldc 80, 2) := by decide +kernel
theorem dX12_withdraw_29 : decode cX12_withdraw 29 = .ok (.ireturn, 1) := by decide +kernel
theorem dX12_withdraw_30 : decode cX12_withdraw 30 = .ok (.aload_n 0, 1) := by decide +kernel
theorem dX12_withdraw_31 : decode cX12_withdraw 31 = .ok (.getfield 9, 3) := by decide +kernel
theorem dX12_withdraw_34 : decode cX12_withdraw 34 = .ok (.sipush 340, 3) := by decide +kernel
theorem dX12_withdraw_37 : decode cX12_withdraw 37 = .ok (.iconst 2, 1) := by decide +kernel
theorem dX12_withdraw_38 : decode cX12_withdraw 38 = .ok (.iload_n 1, 1) := by decide +kernel
theorem dX12_withdraw_39 : decode cX12_withdraw 39 = .ok (.imul, 1) := by decide +kernel
theorem dX12_withdraw_40 : decode cX12_withdraw 40 = .ok (.iadd, 1) := by decide +kernel
theorem dX12_withdraw_41 : decode cX12_withdraw 41 = .ok (.iconst 1, 1) := by decide +kernel
theorem dX12_withdraw_42 : decode cX12_withdraw 42 = .ok (.iadd, 1) := by decide +kernel
theorem dX12_withdraw_43 : decode cX12_withdraw 43 = .ok (.dup2, 1) := by decide +kernel
theorem dX12_withdraw_44 : decode cX12_withdraw 44 = .ok (.iaload, 1) := by decide +kernel
theorem dX12_withdraw_45 : decode cX12_withdraw 45 = .ok (.ldc 120, 2) := by decide +kernel
theorem dX12_withdraw_47 : decode cX12_withdraw 47 = .ok (.aload_n 0, 1) := by decide +kernel
theorem dX12_withdraw_48 : decode cX12_withdraw 48 = .ok (.getfield 9, 3) := by decide +kernel
theorem dX12_withdraw_51 : decode cX12_withdraw 51 = .ok (.iconst 0, 1) := by decide +kernel
theorem dX12_withdraw_52 : decode cX12_withdraw 52 = .ok (.iaload, 1) := by decide +kernel
theorem dX12_withdraw_53 : decode cX12_withdraw 53 = .ok (.iconst 1, 1) := by decide +kernel
theorem dX12_withdraw_54 : decode cX12_withdraw 54 = .ok (.iadd, 1) := by decide +kernel
theorem dX12_withdraw_55 : decode cX12_withdraw 55 = .ok (.imul, 1) := by decide +kernel
theorem dX12_withdraw_56 : decode cX12_withdraw 56 = .ok (.iadd, 1) := by decide +kernel
theorem dX12_withdraw_57 : decode cX12_withdraw 57 = .ok (.iastore, 1) := by decide +kernel
theorem dX12_withdraw_58 : decode cX12_withdraw 58 = .ok (.iconst 1, 1) := by decide +kernel
theorem dX12_withdraw_59 : decode cX12_withdraw 59 = .ok (.ireturn, 1) := by decide +kernel
theorem dX12_line_0 : decode cX12_line 0 = .ok (.iload_n 1, 1) := by decide +kernel
theorem dX12_line_1 : decode cX12_line 1 = .ok (.iconst 0, 1) := by decide +kernel
theorem dX12_line_2 : decode cX12_line 2 = .ok (.aload_n 0, 1) := by decide +kernel
theorem dX12_line_3 : decode cX12_line 3 = .ok (.getfield 9, 3) := by decide +kernel
theorem dX12_line_6 : decode cX12_line 6 = .ok (.iconst 4, 1) := by decide +kernel
theorem dX12_line_7 : decode cX12_line 7 = .ok (.iaload, 1) := by decide +kernel
theorem dX12_line_8 : decode cX12_line 8 = .ok (.iconst 1, 1) := by decide +kernel
theorem dX12_line_9 : decode cX12_line 9 = .ok (.isub, 1) := by decide +kernel
theorem dX12_line_10 : decode cX12_line 10 = .ok (.invokestatic 49, 3) := by decide +kernel
theorem dX12_line_13 : decode cX12_line 13 = .ok (.ifCond .eq 12, 3) := by decide +kernel
theorem dX12_line_16 : decode cX12_line 16 = .ok (.iload_n 2, 1) := by decide +kernel
theorem dX12_line_17 : decode cX12_line 17 = .ok (.iconst 0, 1) := by decide +kernel
theorem dX12_line_18 : decode cX12_line 18 = .ok (.iconst 4, 1) := by decide +kernel
theorem dX12_line_19 : decode cX12_line 19 = .ok (.invokestatic 49, 3) := by decide +kernel
theorem dX12_line_22 : decode cX12_line 22 = .ok (.ifCond .ne 6, 3) := by decide +kernel
theorem dX12_line_25 : decode cX12_line 25 = .ok (.ldc 57, 2) := by decide +kernel
theorem dX12_line_27 : decode cX12_line 27 = .ok (.ireturn, 1) := by decide +kernel
theorem dX12_line_28 : decode cX12_line 28 = .ok (.aload_n 0, 1) := by decide +kernel
theorem dX12_line_29 : decode cX12_line 29 = .ok (.getfield 9, 3) := by decide +kernel
theorem dX12_line_32 : decode cX12_line 32 = .ok (.sipush 340, 3) := by decide +kernel
theorem dX12_line_35 : decode cX12_line 35 = .ok (.iconst 2, 1) := by decide +kernel
theorem dX12_line_36 : decode cX12_line 36 = .ok (.iload_n 1, 1) := by decide +kernel
theorem dX12_line_37 : decode cX12_line 37 = .ok (.imul, 1) := by decide +kernel
theorem dX12_line_38 : decode cX12_line 38 = .ok (.iadd, 1) := by decide +kernel
theorem dX12_line_39 : decode cX12_line 39 = .ok (.iconst 1, 1) := by decide +kernel
theorem dX12_line_40 : decode cX12_line 40 = .ok (.iadd, 1) := by decide +kernel
theorem dX12_line_41 : decode cX12_line 41 = .ok (.iaload, 1) := by decide +kernel
theorem dX12_line_42 : decode cX12_line 42 = .ok (.istore_n 3, 1) := by decide +kernel
theorem dX12_line_43 : decode cX12_line 43 = .ok (.iload_n 2, 1) := by decide +kernel
theorem dX12_line_44 : decode cX12_line 44 = .ok (.ifCond .ne 10, 3) := by decide +kernel
theorem dX12_line_47 : decode cX12_line 47 = .ok (.iload_n 3, 1) := by decide +kernel
theorem dX12_line_48 : decode cX12_line 48 = .ok (.bipush 12, 2) := by decide +kernel
theorem dX12_line_50 : decode cX12_line 50 = .ok (.irem, 1) := by decide +kernel
theorem dX12_line_51 : decode cX12_line 51 = .ok (.goto 72, 3) := by decide +kernel
theorem dX12_line_54 : decode cX12_line 54 = .ok (.iload_n 2, 1) := by decide +kernel
theorem dX12_line_55 : decode cX12_line 55 = .ok (.iconst 1, 1) := by decide +kernel
theorem dX12_line_56 : decode cX12_line 56 = .ok (.if_icmp .ne 13, 3) := by decide +kernel
theorem dX12_line_59 : decode cX12_line 59 = .ok (.iload_n 3, 1) := by decide +kernel
theorem dX12_line_60 : decode cX12_line 60 = .ok (.bipush 12, 2) := by decide +kernel
theorem dX12_line_62 : decode cX12_line 62 = .ok (.idiv, 1) := by decide +kernel
theorem dX12_line_63 : decode cX12_line 63 = .ok (.bipush 121, 2) := by decide +kernel
theorem dX12_line_65 : decode cX12_line 65 = .ok (.irem, 1) := by decide +kernel
theorem dX12_line_66 : decode cX12_line 66 = .ok (.goto 57, 3) := by decide +kernel
theorem dX12_line_69 : decode cX12_line 69 = .ok (.iload_n 2, 1) := by decide +kernel
theorem dX12_line_70 : decode cX12_line 70 = .ok (.iconst 2, 1) := by decide +kernel
theorem dX12_line_71 : decode cX12_line 71 = .ok (.if_icmp .ne 18, 3) := by decide +kernel
theorem dX12_line_74 : decode cX12_line 74 = .ok (.aload_n 0, 1) := by decide +kernel
theorem dX12_line_75 : decode cX12_line 75 = .ok (.getfield 9, 3) := by decide +kernel
theorem dX12_line_78 : decode cX12_line 78 = .ok (.sipush 340, 3) := by decide +kernel
theorem dX12_line_81 : decode cX12_line 81 = .ok (.iconst 2, 1) := by decide +kernel
theorem dX12_line_82 : decode cX12_line 82 = .ok (.iload_n 1, 1) := by decide +kernel
theorem dX12_line_83 : decode cX12_line 83 = .ok (.imul, 1) := by decide +kernel
theorem dX12_line_84 : decode cX12_line 84 = .ok (.iadd, 1) := by decide +kernel
theorem dX12_line_85 : decode cX12_line 85 = .ok (.iaload, 1) := by decide +kernel
theorem dX12_line_86 : decode cX12_line 86 = .ok (.goto 37, 3) := by decide +kernel
theorem dX12_line_89 : decode cX12_line 89 = .ok (.iload_n 2, 1) := by decide +kernel
theorem dX12_line_90 : decode cX12_line 90 = .ok (.iconst 3, 1) := by decide +kernel
theorem dX12_line_91 : decode cX12_line 91 = .ok (.if_icmp .ne 14, 3) := by decide +kernel
theorem dX12_line_94 : decode cX12_line 94 = .ok (.iload_n 3, 1) := by decide +kernel
theorem dX12_line_95 : decode cX12_line 95 = .ok (.sipush 1452, 3) := by decide +kernel
theorem dX12_line_98 : decode cX12_line 98 = .ok (.idiv, 1) := by decide +kernel
theorem dX12_line_99 : decode cX12_line 99 = .ok (.bipush 121, 2) := by decide +kernel
theorem dX12_line_101 : decode cX12_line 101 = .ok (.irem, 1) := by decide +kernel
theorem dX12_line_102 : decode cX12_line 102 = .ok (.goto 21, 3) := by decide +kernel
theorem dX12_line_105 : decode cX12_line 105 = .ok (.aload_n 0, 1) := by decide +kernel
theorem dX12_line_106 : decode cX12_line 106 = .ok (.iload_n 1, 1) := by decide +kernel
theorem dX12_line_107 : decode cX12_line 107 = .ok (.invokevirtual 121, 3) := by decide +kernel
theorem dX12_line_110 : decode cX12_line 110 = .ok (.ifCond .ge 8, 3) := by decide +kernel
theorem dX12_line_113 : decode cX12_line 113 = .ok (.ldc 71, 2) := by decide +kernel
theorem dX12_line_115 : decode cX12_line 115 = .ok (.goto 8, 3) := by decide +kernel
theorem dX12_line_118 : decode cX12_line 118 = .ok (.aload_n 0, 1) := by decide +kernel
theorem dX12_line_119 : decode cX12_line 119 = .ok (.iload_n 1, 1) := by decide +kernel
theorem dX12_line_120 : decode cX12_line 120 = .ok (.invokevirtual 121, 3) := by decide +kernel
theorem dX12_line_123 : decode cX12_line 123 = .ok (.ireturn, 1) := by decide +kernel
theorem dX12_taken_0 : decode cX12_taken 0 = .ok (.iconst 0, 1) := by decide +kernel
theorem dX12_taken_1 : decode cX12_taken 1 = .ok (.istore 4, 2) := by decide +kernel
theorem dX12_taken_3 : decode cX12_taken 3 = .ok (.iconst 0, 1) := by decide +kernel
theorem dX12_taken_4 : decode cX12_taken 4 = .ok (.istore 5, 2) := by decide +kernel
theorem dX12_taken_6 : decode cX12_taken 6 = .ok (.iload 5, 2) := by decide +kernel
theorem dX12_taken_8 : decode cX12_taken 8 = .ok (.aload_n 0, 1) := by decide +kernel
theorem dX12_taken_9 : decode cX12_taken 9 = .ok (.getfield 9, 3) := by decide +kernel
theorem dX12_taken_12 : decode cX12_taken 12 = .ok (.iconst 4, 1) := by decide +kernel
theorem dX12_taken_13 : decode cX12_taken 13 = .ok (.iaload, 1) := by decide +kernel
theorem dX12_taken_14 : decode cX12_taken 14 = .ok (.if_icmp .ge 113, 3) := by decide +kernel
theorem dX12_taken_17 : decode cX12_taken 17 = .ok (.aload_n 0, 1) := by decide +kernel
theorem dX12_taken_18 : decode cX12_taken 18 = .ok (.getfield 9, 3) := by decide +kernel
theorem dX12_taken_21 : decode cX12_taken 21 = .ok (.sipush 340, 3) := by decide +kernel
theorem dX12_taken_24 : decode cX12_taken 24 = .ok (.iconst 2, 1) := by decide +kernel
theorem dX12_taken_25 : decode cX12_taken 25 = .ok (.iload 5, 2) := by decide +kernel
theorem dX12_taken_27 : decode cX12_taken 27 = .ok (.imul, 1) := by decide +kernel
theorem dX12_taken_28 : decode cX12_taken 28 = .ok (.iadd, 1) := by decide +kernel
theorem dX12_taken_29 : decode cX12_taken 29 = .ok (.iconst 1, 1) := by decide +kernel
theorem dX12_taken_30 : decode cX12_taken 30 = .ok (.iadd, 1) := by decide +kernel
theorem dX12_taken_31 : decode cX12_taken 31 = .ok (.iaload, 1) := by decide +kernel
theorem dX12_taken_32 : decode cX12_taken 32 = .ok (.istore 6, 2) := by decide +kernel
theorem dX12_taken_34 : decode cX12_taken 34 = .ok (.iload 6, 2) := by decide +kernel
theorem dX12_taken_36 : decode cX12_taken 36 = .ok (.bipush 12, 2) := by decide +kernel
theorem dX12_taken_38 : decode cX12_taken 38 = .ok (.irem, 1) := by decide +kernel
theorem dX12_taken_39 : decode cX12_taken 39 = .ok (.iload_n 1, 1) := by decide +kernel
theorem dX12_taken_40 : decode cX12_taken 40 = .ok (.if_icmp .ne 51, 3) := by decide +kernel
theorem dX12_taken_43 : decode cX12_taken 43 = .ok (.iload 6, 2) := by decide +kernel
theorem dX12_taken_45 : decode cX12_taken 45 = .ok (.bipush 12, 2) := by decide +kernel
theorem dX12_taken_47 : decode cX12_taken 47 = .ok (.idiv, 1) := by decide +kernel
theorem dX12_taken_48 : decode cX12_taken 48 = .ok (.bipush 121, 2) := by decide +kernel
theorem dX12_taken_50 : decode cX12_taken 50 = .ok (.irem, 1) := by decide +kernel
theorem dX12_taken_51 : decode cX12_taken 51 = .ok (.iload_n 2, 1) := by decide +kernel
theorem dX12_taken_52 : decode cX12_taken 52 = .ok (.if_icmp .ne 39, 3) := by decide +kernel
theorem dX12_taken_55 : decode cX12_taken 55 = .ok (.iload 6, 2) := by decide +kernel
theorem dX12_taken_57 : decode cX12_taken 57 = .ok (.sipush 1452, 3) := by decide +kernel
theorem dX12_taken_60 : decode cX12_taken 60 = .ok (.idiv, 1) := by decide +kernel
theorem dX12_taken_61 : decode cX12_taken 61 = .ok (.bipush 121, 2) := by decide +kernel
theorem dX12_taken_63 : decode cX12_taken 63 = .ok (.irem, 1) := by decide +kernel
theorem dX12_taken_64 : decode cX12_taken 64 = .ok (.iload_n 3, 1) := by decide +kernel
theorem dX12_taken_65 : decode cX12_taken 65 = .ok (.if_icmp .gt 26, 3) := by decide +kernel
theorem dX12_taken_68 : decode cX12_taken 68 = .ok (.aload_n 0, 1) := by decide +kernel
theorem dX12_taken_69 : decode cX12_taken 69 = .ok (.iload 5, 2) := by decide +kernel
theorem dX12_taken_71 : decode cX12_taken 71 = .ok (.invokevirtual 121, 3) := by decide +kernel
theorem dX12_taken_74 : decode cX12_taken 74 = .ok (.ifCond .lt 13, 3) := by decide +kernel
theorem dX12_taken_77 : decode cX12_taken 77 = .ok (.aload_n 0, 1) := by decide +kernel
theorem dX12_taken_78 : decode cX12_taken 78 = .ok (.iload 5, 2) := by decide +kernel
theorem dX12_taken_80 : decode cX12_taken 80 = .ok (.invokevirtual 121, 3) := by decide +kernel
theorem dX12_taken_83 : decode cX12_taken 83 = .ok (.iload_n 3, 1) := by decide +kernel
theorem dX12_taken_84 : decode cX12_taken 84 = .ok (.if_icmp .le 7, 3) := by decide +kernel
theorem dX12_taken_87 : decode cX12_taken 87 = .ok (.iconst 1, 1) := by decide +kernel
theorem dX12_taken_88 : decode cX12_taken 88 = .ok (.goto 4, 3) := by decide +kernel
theorem dX12_taken_91 : decode cX12_taken 91 = .ok (.iconst 0, 1) := by decide +kernel
theorem dX12_taken_92 : decode cX12_taken 92 = .ok (.istore 7, 2) := by decide +kernel
theorem dX12_taken_94 : decode cX12_taken 94 = .ok (.iload 4, 2) := by decide +kernel
theorem dX12_taken_96 : decode cX12_taken 96 = .ok (.iload 7, 2) := by decide +kernel
theorem dX12_taken_98 : decode cX12_taken 98 = .ok (.ifCond .eq 19, 3) := by decide +kernel
theorem dX12_taken_101 : decode cX12_taken 101 = .ok (.aload_n 0, 1) := by decide +kernel
theorem dX12_taken_102 : decode cX12_taken 102 = .ok (.getfield 9, 3) := by decide +kernel
theorem dX12_taken_105 : decode cX12_taken 105 = .ok (.sipush 340, 3) := by decide +kernel
theorem dX12_taken_108 : decode cX12_taken 108 = .ok (.iconst 2, 1) := by decide +kernel
theorem dX12_taken_109 : decode cX12_taken 109 = .ok (.iload 5, 2) := by decide +kernel
theorem dX12_taken_111 : decode cX12_taken 111 = .ok (.imul, 1) := by decide +kernel
theorem dX12_taken_112 : decode cX12_taken 112 = .ok (.iadd, 1) := by decide +kernel
theorem dX12_taken_113 : decode cX12_taken 113 = .ok (.iaload, 1) := by decide +kernel
theorem dX12_taken_114 : decode cX12_taken 114 = .ok (.goto 4, 3) := by decide +kernel
theorem dX12_taken_117 : decode cX12_taken 117 = .ok (.iconst 0, 1) := by decide +kernel
theorem dX12_taken_118 : decode cX12_taken 118 = .ok (.iadd, 1) := by decide +kernel
theorem dX12_taken_119 : decode cX12_taken 119 = .ok (.istore 4, 2) := by decide +kernel
theorem dX12_taken_121 : decode cX12_taken 121 = .ok (.iinc 5 1, 3) := by decide +kernel
theorem dX12_taken_124 : decode cX12_taken 124 = .ok (.goto (-118), 3) := by decide +kernel
theorem dX12_taken_127 : decode cX12_taken 127 = .ok (.iconst 0, 1) := by decide +kernel
theorem dX12_taken_128 : decode cX12_taken 128 = .ok (.iload 4, 2) := by decide +kernel
theorem dX12_taken_130 : decode cX12_taken 130 = .ok (.invokestatic 98, 3) := by decide +kernel
theorem dX12_taken_133 : decode cX12_taken 133 = .ok (.ireturn, 1) := by decide +kernel
theorem dX12_takings_0 : decode cX12_takings 0 = .ok (.aload_n 0, 1) := by decide +kernel
theorem dX12_takings_1 : decode cX12_takings 1 = .ok (.iload_n 1, 1) := by decide +kernel
theorem dX12_takings_2 : decode cX12_takings 2 = .ok (.invokevirtual 65, 3) := by decide +kernel
theorem dX12_takings_5 : decode cX12_takings 5 = .ok (.ifCond .eq 29, 3) := by decide +kernel
theorem dX12_takings_8 : decode cX12_takings 8 = .ok (.aload_n 0, 1) := by decide +kernel
theorem dX12_takings_9 : decode cX12_takings 9 = .ok (.iload_n 2, 1) := by decide +kernel
theorem dX12_takings_10 : decode cX12_takings 10 = .ok (.invokevirtual 110, 3) := by decide +kernel
theorem dX12_takings_13 : decode cX12_takings 13 = .ok (.ifCond .eq 21, 3) := by decide +kernel
theorem dX12_takings_16 : decode cX12_takings 16 = .ok (.aload_n 0, 1) := by decide +kernel
theorem dX12_takings_17 : decode cX12_takings 17 = .ok (.iload_n 3, 1) := by decide +kernel
theorem dX12_takings_18 : decode cX12_takings 18 = .ok (.invokevirtual 110, 3) := by decide +kernel
theorem dX12_takings_21 : decode cX12_takings 21 = .ok (.ifCond .eq 13, 3) := by decide +kernel
theorem dX12_takings_24 : decode cX12_takings 24 = .ok (.aload_n 0, 1) := by decide +kernel
theorem dX12_takings_25 : decode cX12_takings 25 = .ok (.iload_n 1, 1) := by decide +kernel
theorem dX12_takings_26 : decode cX12_takings 26 = .ok (.iload_n 2, 1) := by decide +kernel
theorem dX12_takings_27 : decode cX12_takings 27 = .ok (.iload_n 3, 1) := by decide +kernel
theorem dX12_takings_28 : decode cX12_takings 28 = .ok (.invokevirtual 124, 3) := by decide +kernel
theorem dX12_takings_31 : decode cX12_takings 31 = .ok (.goto 5, 3) := by decide +kernel
theorem dX12_takings_34 : decode cX12_takings 34 = .ok (.ldc 57, 2) := by decide +kernel
theorem dX12_takings_36 : decode cX12_takings 36 = .ok (.ireturn, 1) := by decide +kernel
theorem dX12_beyond_0 : decode cX12_beyond 0 = .ok (.aload_n 0, 1) := by decide +kernel
theorem dX12_beyond_1 : decode cX12_beyond 1 = .ok (.iload_n 1, 1) := by decide +kernel
theorem dX12_beyond_2 : decode cX12_beyond 2 = .ok (.invokevirtual 65, 3) := by decide +kernel
theorem dX12_beyond_5 : decode cX12_beyond 5 = .ok (.ifCond .eq 19, 3) := by decide +kernel
theorem dX12_beyond_8 : decode cX12_beyond 8 = .ok (.aload_n 0, 1) := by decide +kernel
theorem dX12_beyond_9 : decode cX12_beyond 9 = .ok (.iload_n 2, 1) := by decide +kernel
theorem dX12_beyond_10 : decode cX12_beyond 10 = .ok (.invokevirtual 110, 3) := by decide +kernel
theorem dX12_beyond_13 : decode cX12_beyond 13 = .ok (.ifCond .eq 11, 3) := by decide +kernel
theorem dX12_beyond_16 : decode cX12_beyond 16 = .ok (.aload_n 0, 1) := by decide +kernel
theorem dX12_beyond_17 : decode cX12_beyond 17 = .ok (.iload_n 3, 1) := by decide +kernel
theorem dX12_beyond_18 : decode cX12_beyond 18 = .ok (.invokevirtual 110, 3) := by decide +kernel
theorem dX12_beyond_21 : decode cX12_beyond 21 = .ok (.ifCond .ne 6, 3) := by decide +kernel
theorem dX12_beyond_24 : decode cX12_beyond 24 = .ok (.ldc 57, 2) := by decide +kernel
theorem dX12_beyond_26 : decode cX12_beyond 26 = .ok (.ireturn, 1) := by decide +kernel
theorem dX12_beyond_27 : decode cX12_beyond 27 = .ok (.aload_n 0, 1) := by decide +kernel
theorem dX12_beyond_28 : decode cX12_beyond 28 = .ok (.iload_n 2, 1) := by decide +kernel
theorem dX12_beyond_29 : decode cX12_beyond 29 = .ok (.invokevirtual 72, 3) := by decide +kernel
theorem dX12_beyond_32 : decode cX12_beyond 32 = .ok (.aload_n 0, 1) := by decide +kernel
theorem dX12_beyond_33 : decode cX12_beyond 33 = .ok (.getfield 28, 3) := by decide +kernel
theorem dX12_beyond_36 : decode cX12_beyond 36 = .ok (.iload_n 1, 1) := by decide +kernel
theorem dX12_beyond_37 : decode cX12_beyond 37 = .ok (.iaload, 1) := by decide +kernel
theorem dX12_beyond_38 : decode cX12_beyond 38 = .ok (.ifCond .ge 6, 3) := by decide +kernel
theorem dX12_beyond_41 : decode cX12_beyond 41 = .ok (.ldc 80, 2) := by decide +kernel
theorem dX12_beyond_43 : decode cX12_beyond 43 = .ok (.ireturn, 1) := by decide +kernel
theorem dX12_beyond_44 : decode cX12_beyond 44 = .ok (.aload_n 0, 1) := by decide +kernel
theorem dX12_beyond_45 : decode cX12_beyond 45 = .ok (.iload_n 1, 1) := by decide +kernel
theorem dX12_beyond_46 : decode cX12_beyond 46 = .ok (.invokevirtual 113, 3) := by decide +kernel
theorem dX12_beyond_49 : decode cX12_beyond 49 = .ok (.i2l, 1) := by decide +kernel
theorem dX12_beyond_50 : decode cX12_beyond 50 = .ok (.lstore 4, 2) := by decide +kernel
theorem dX12_beyond_52 : decode cX12_beyond 52 = .ok (.aload_n 0, 1) := by decide +kernel
theorem dX12_beyond_53 : decode cX12_beyond 53 = .ok (.iload_n 1, 1) := by decide +kernel
theorem dX12_beyond_54 : decode cX12_beyond 54 = .ok (.iload_n 2, 1) := by decide +kernel
theorem dX12_beyond_55 : decode cX12_beyond 55 = .ok (.iload_n 3, 1) := by decide +kernel
theorem dX12_beyond_56 : decode cX12_beyond 56 = .ok (.invokevirtual 124, 3) := by decide +kernel
theorem dX12_beyond_59 : decode cX12_beyond 59 = .ok (.istore 6, 2) := by decide +kernel
theorem dX12_beyond_61 : decode cX12_beyond 61 = .ok (.iload 6, 2) := by decide +kernel
theorem dX12_beyond_63 : decode cX12_beyond 63 = .ok (.i2l, 1) := by decide +kernel
theorem dX12_beyond_64 : decode cX12_beyond 64 = .ok (.lload 4, 2) := by decide +kernel
theorem dX12_beyond_66 : decode cX12_beyond 66 = .ok (.aload_n 0, 1) := by decide +kernel
theorem dX12_beyond_67 : decode cX12_beyond 67 = .ok (.getfield 9, 3) := by decide +kernel
theorem dX12_beyond_70 : decode cX12_beyond 70 = .ok (.iconst 5, 1) := by decide +kernel
theorem dX12_beyond_71 : decode cX12_beyond 71 = .ok (.iaload, 1) := by decide +kernel
theorem dX12_beyond_72 : decode cX12_beyond 72 = .ok (.i2l, 1) := by decide +kernel
theorem dX12_beyond_73 : decode cX12_beyond 73 = .ok (.lmul, 1) := by decide +kernel
theorem dX12_beyond_74 : decode cX12_beyond 74 = .ok (.ldc2_w 127, 3) := by decide +kernel
theorem dX12_beyond_77 : decode cX12_beyond 77 = .ok (.ldiv, 1) := by decide +kernel
theorem dX12_beyond_78 : decode cX12_beyond 78 = .ok (.lcmp, 1) := by decide +kernel
theorem dX12_beyond_79 : decode cX12_beyond 79 = .ok (.ifCond .ge 7, 3) := by decide +kernel
theorem dX12_beyond_82 : decode cX12_beyond 82 = .ok (.iconst (-1), 1) := by decide +kernel
theorem dX12_beyond_83 : decode cX12_beyond 83 = .ok (.goto 30, 3) := by decide +kernel
theorem dX12_beyond_86 : decode cX12_beyond 86 = .ok (.iload 6, 2) := by decide +kernel
theorem dX12_beyond_88 : decode cX12_beyond 88 = .ok (.i2l, 1) := by decide +kernel
theorem dX12_beyond_89 : decode cX12_beyond 89 = .ok (.lload 4, 2) := by decide +kernel
theorem dX12_beyond_91 : decode cX12_beyond 91 = .ok (.aload_n 0, 1) := by decide +kernel
theorem dX12_beyond_92 : decode cX12_beyond 92 = .ok (.getfield 9, 3) := by decide +kernel
theorem dX12_beyond_95 : decode cX12_beyond 95 = .ok (.bipush 6, 2) := by decide +kernel
theorem dX12_beyond_97 : decode cX12_beyond 97 = .ok (.iaload, 1) := by decide +kernel
theorem dX12_beyond_98 : decode cX12_beyond 98 = .ok (.i2l, 1) := by decide +kernel
theorem dX12_beyond_99 : decode cX12_beyond 99 = .ok (.lmul, 1) := by decide +kernel
theorem dX12_beyond_100 : decode cX12_beyond 100 = .ok (.ldc2_w 127, 3) := by decide +kernel
theorem dX12_beyond_103 : decode cX12_beyond 103 = .ok (.ldiv, 1) := by decide +kernel
theorem dX12_beyond_104 : decode cX12_beyond 104 = .ok (.lcmp, 1) := by decide +kernel
theorem dX12_beyond_105 : decode cX12_beyond 105 = .ok (.ifCond .le 7, 3) := by decide +kernel
theorem dX12_beyond_108 : decode cX12_beyond 108 = .ok (.iconst 1, 1) := by decide +kernel
theorem dX12_beyond_109 : decode cX12_beyond 109 = .ok (.goto 4, 3) := by decide +kernel
theorem dX12_beyond_112 : decode cX12_beyond 112 = .ok (.iconst 0, 1) := by decide +kernel
theorem dX12_beyond_113 : decode cX12_beyond 113 = .ok (.ireturn, 1) := by decide +kernel
theorem dX12_feed_0 : decode cX12_feed 0 = .ok (.aload_n 0, 1) := by decide +kernel
theorem dX12_feed_1 : decode cX12_feed 1 = .ok (.getfield 129, 3) := by decide +kernel
theorem dX12_feed_4 : decode cX12_feed 4 = .ok (.bipush 12, 2) := by decide +kernel
theorem dX12_feed_6 : decode cX12_feed 6 = .ok (.iadd, 1) := by decide +kernel
theorem dX12_feed_7 : decode cX12_feed 7 = .ok (.sipush 132, 3) := by decide +kernel
theorem dX12_feed_10 : decode cX12_feed 10 = .ok (.if_icmp .le 6, 3) := by decide +kernel
theorem dX12_feed_13 : decode cX12_feed 13 = .ok (.ldc 59, 2) := by decide +kernel
theorem dX12_feed_15 : decode cX12_feed 15 = .ok (.ireturn, 1) := by decide +kernel
theorem dX12_feed_16 : decode cX12_feed 16 = .ok (.iconst 0, 1) := by decide +kernel
theorem dX12_feed_17 : decode cX12_feed 17 = .ok (.istore 4, 2) := by decide +kernel
theorem dX12_feed_19 : decode cX12_feed 19 = .ok (.iload 4, 2) := by decide +kernel
theorem dX12_feed_21 : decode cX12_feed 21 = .ok (.bipush 12, 2) := by decide +kernel
theorem dX12_feed_23 : decode cX12_feed 23 = .ok (.if_icmp .ge 69, 3) := by decide +kernel
theorem dX12_feed_26 : decode cX12_feed 26 = .ok (.iload 4, 2) := by decide +kernel
theorem dX12_feed_28 : decode cX12_feed 28 = .ok (.iconst 4, 1) := by decide +kernel
theorem dX12_feed_29 : decode cX12_feed 29 = .ok (.if_icmp .ge 7, 3) := by decide +kernel
theorem dX12_feed_32 : decode cX12_feed 32 = .ok (.iload_n 1, 1) := by decide +kernel
theorem dX12_feed_33 : decode cX12_feed 33 = .ok (.goto 15, 3) := by decide +kernel
theorem dX12_feed_36 : decode cX12_feed 36 = .ok (.iload 4, 2) := by decide +kernel
theorem dX12_feed_38 : decode cX12_feed 38 = .ok (.bipush 8, 2) := by decide +kernel
theorem dX12_feed_40 : decode cX12_feed 40 = .ok (.if_icmp .ge 7, 3) := by decide +kernel
theorem dX12_feed_43 : decode cX12_feed 43 = .ok (.iload_n 2, 1) := by decide +kernel
theorem dX12_feed_44 : decode cX12_feed 44 = .ok (.goto 4, 3) := by decide +kernel
theorem dX12_feed_47 : decode cX12_feed 47 = .ok (.iload_n 3, 1) := by decide +kernel
theorem dX12_feed_48 : decode cX12_feed 48 = .ok (.istore 5, 2) := by decide +kernel
theorem dX12_feed_50 : decode cX12_feed 50 = .ok (.aload_n 0, 1) := by decide +kernel
theorem dX12_feed_51 : decode cX12_feed 51 = .ok (.getfield 16, 3) := by decide +kernel
theorem dX12_feed_54 : decode cX12_feed 54 = .ok (.aload_n 0, 1) := by decide +kernel
theorem dX12_feed_55 : decode cX12_feed 55 = .ok (.getfield 129, 3) := by decide +kernel
theorem dX12_feed_58 : decode cX12_feed 58 = .ok (.iload 5, 2) := by decide +kernel
theorem dX12_feed_60 : decode cX12_feed 60 = .ok (.bipush 24, 2) := by decide +kernel
theorem dX12_feed_62 : decode cX12_feed 62 = .ok (.bipush 8, 2) := by decide +kernel
theorem dX12_feed_64 : decode cX12_feed 64 = .ok (.iload 4, 2) := by decide +kernel
theorem dX12_feed_66 : decode cX12_feed 66 = .ok (.iconst 4, 1) := by decide +kernel
theorem dX12_feed_67 : decode cX12_feed 67 = .ok (.irem, 1) := by decide +kernel
theorem dX12_feed_68 : decode cX12_feed 68 = .ok (.imul, 1) := by decide +kernel
theorem dX12_feed_69 : decode cX12_feed 69 = .ok (.isub, 1) := by decide +kernel
theorem dX12_feed_70 : decode cX12_feed 70 = .ok (.ishr, 1) := by decide +kernel
theorem dX12_feed_71 : decode cX12_feed 71 = .ok (.sipush 255, 3) := by decide +kernel
theorem dX12_feed_74 : decode cX12_feed 74 = .ok (.iand, 1) := by decide +kernel
theorem dX12_feed_75 : decode cX12_feed 75 = .ok (.iastore, 1) := by decide +kernel
theorem dX12_feed_76 : decode cX12_feed 76 = .ok (.aload_n 0, 1) := by decide +kernel
theorem dX12_feed_77 : decode cX12_feed 77 = .ok (.dup, 1) := by decide +kernel
theorem dX12_feed_78 : decode cX12_feed 78 = .ok (.getfield 129, 3) := by decide +kernel
theorem dX12_feed_81 : decode cX12_feed 81 = .ok (.iconst 1, 1) := by decide +kernel
theorem dX12_feed_82 : decode cX12_feed 82 = .ok (.iadd, 1) := by decide +kernel
theorem dX12_feed_83 : decode cX12_feed 83 = .ok (.putfield 129, 3) := by decide +kernel
theorem dX12_feed_86 : decode cX12_feed 86 = .ok (.iinc 4 1, 3) := by decide +kernel
theorem dX12_feed_89 : decode cX12_feed 89 = .ok (.goto (-70), 3) := by decide +kernel
theorem dX12_feed_92 : decode cX12_feed 92 = .ok (.aload_n 0, 1) := by decide +kernel
theorem dX12_feed_93 : decode cX12_feed 93 = .ok (.getfield 129, 3) := by decide +kernel
theorem dX12_feed_96 : decode cX12_feed 96 = .ok (.ireturn, 1) := by decide +kernel
theorem dX12_trim_0 : decode cX12_trim 0 = .ok (.iload_n 1, 1) := by decide +kernel
theorem dX12_trim_1 : decode cX12_trim 1 = .ok (.iconst 0, 1) := by decide +kernel
theorem dX12_trim_2 : decode cX12_trim 2 = .ok (.aload_n 0, 1) := by decide +kernel
theorem dX12_trim_3 : decode cX12_trim 3 = .ok (.getfield 129, 3) := by decide +kernel
theorem dX12_trim_6 : decode cX12_trim 6 = .ok (.invokestatic 49, 3) := by decide +kernel
theorem dX12_trim_9 : decode cX12_trim 9 = .ok (.ifCond .ne 6, 3) := by decide +kernel
theorem dX12_trim_12 : decode cX12_trim 12 = .ok (.ldc 57, 2) := by decide +kernel
theorem dX12_trim_14 : decode cX12_trim 14 = .ok (.ireturn, 1) := by decide +kernel
theorem dX12_trim_15 : decode cX12_trim 15 = .ok (.aload_n 0, 1) := by decide +kernel
theorem dX12_trim_16 : decode cX12_trim 16 = .ok (.iload_n 1, 1) := by decide +kernel
theorem dX12_trim_17 : decode cX12_trim 17 = .ok (.putfield 129, 3) := by decide +kernel
theorem dX12_trim_20 : decode cX12_trim 20 = .ok (.iload_n 1, 1) := by decide +kernel
theorem dX12_trim_21 : decode cX12_trim 21 = .ok (.ireturn, 1) := by decide +kernel
theorem dX12_isLetter_0 : decode cX12_isLetter 0 = .ok (.iload_n 1, 1) := by decide +kernel
theorem dX12_isLetter_1 : decode cX12_isLetter 1 = .ok (.aload_n 0, 1) := by decide +kernel
theorem dX12_isLetter_2 : decode cX12_isLetter 2 = .ok (.getfield 129, 3) := by decide +kernel
theorem dX12_isLetter_5 : decode cX12_isLetter 5 = .ok (.if_icmp .ge 23, 3) := by decide +kernel
theorem dX12_isLetter_8 : decode cX12_isLetter 8 = .ok (.aload_n 0, 1) := by decide +kernel
theorem dX12_isLetter_9 : decode cX12_isLetter 9 = .ok (.getfield 16, 3) := by decide +kernel
theorem dX12_isLetter_12 : decode cX12_isLetter 12 = .ok (.iload_n 1, 1) := by decide +kernel
theorem dX12_isLetter_13 : decode cX12_isLetter 13 = .ok (.iaload, 1) := by decide +kernel
theorem dX12_isLetter_14 : decode cX12_isLetter 14 = .ok (.bipush 97, 2) := by decide +kernel
theorem dX12_isLetter_16 : decode cX12_isLetter 16 = .ok (.bipush 122, 2) := by decide +kernel
theorem dX12_isLetter_18 : decode cX12_isLetter 18 = .ok (.invokestatic 49, 3) := by decide +kernel
theorem dX12_isLetter_21 : decode cX12_isLetter 21 = .ok (.ifCond .eq 7, 3) := by decide +kernel
theorem dX12_isLetter_24 : decode cX12_isLetter 24 = .ok (.iconst 1, 1) := by decide +kernel
theorem dX12_isLetter_25 : decode cX12_isLetter 25 = .ok (.goto 4, 3) := by decide +kernel
theorem dX12_isLetter_28 : decode cX12_isLetter 28 = .ok (.iconst 0, 1) := by decide +kernel
theorem dX12_isLetter_29 : decode cX12_isLetter 29 = .ok (.ireturn, 1) := by decide +kernel
theorem dX12_isDigit_0 : decode cX12_isDigit 0 = .ok (.iload_n 1, 1) := by decide +kernel
theorem dX12_isDigit_1 : decode cX12_isDigit 1 = .ok (.aload_n 0, 1) := by decide +kernel
theorem dX12_isDigit_2 : decode cX12_isDigit 2 = .ok (.getfield 129, 3) := by decide +kernel
theorem dX12_isDigit_5 : decode cX12_isDigit 5 = .ok (.if_icmp .ge 23, 3) := by decide +kernel
theorem dX12_isDigit_8 : decode cX12_isDigit 8 = .ok (.aload_n 0, 1) := by decide +kernel
theorem dX12_isDigit_9 : decode cX12_isDigit 9 = .ok (.getfield 16, 3) := by decide +kernel
theorem dX12_isDigit_12 : decode cX12_isDigit 12 = .ok (.iload_n 1, 1) := by decide +kernel
theorem dX12_isDigit_13 : decode cX12_isDigit 13 = .ok (.iaload, 1) := by decide +kernel
theorem dX12_isDigit_14 : decode cX12_isDigit 14 = .ok (.bipush 48, 2) := by decide +kernel
theorem dX12_isDigit_16 : decode cX12_isDigit 16 = .ok (.bipush 57, 2) := by decide +kernel
theorem dX12_isDigit_18 : decode cX12_isDigit 18 = .ok (.invokestatic 49, 3) := by decide +kernel
theorem dX12_isDigit_21 : decode cX12_isDigit 21 = .ok (.ifCond .eq 7, 3) := by decide +kernel
theorem dX12_isDigit_24 : decode cX12_isDigit 24 = .ok (.iconst 1, 1) := by decide +kernel
theorem dX12_isDigit_25 : decode cX12_isDigit 25 = .ok (.goto 4, 3) := by decide +kernel
theorem dX12_isDigit_28 : decode cX12_isDigit 28 = .ok (.iconst 0, 1) := by decide +kernel
theorem dX12_isDigit_29 : decode cX12_isDigit 29 = .ok (.ireturn, 1) := by decide +kernel
theorem dX12_next_0 : decode cX12_next 0 = .ok (.aload_n 0, 1) := by decide +kernel
theorem dX12_next_1 : decode cX12_next 1 = .ok (.getfield 133, 3) := by decide +kernel
theorem dX12_next_4 : decode cX12_next 4 = .ok (.iconst 1, 1) := by decide +kernel
theorem dX12_next_5 : decode cX12_next 5 = .ok (.if_icmp .eq 11, 3) := by decide +kernel
theorem dX12_next_8 : decode cX12_next 8 = .ok (.aload_n 0, 1) := by decide +kernel
theorem dX12_next_9 : decode cX12_next 9 = .ok (.getfield 133, 3) := by decide +kernel
theorem dX12_next_12 : decode cX12_next 12 = .ok (.iconst 2, 1) := by decide +kernel
theorem dX12_next_13 : decode cX12_next 13 = .ok (.if_icmp .ne 7, 3) := by decide +kernel
theorem dX12_next_16 : decode cX12_next 16 = .ok (.iconst 1, 1) := by decide +kernel
theorem dX12_next_17 : decode cX12_next 17 = .ok (.goto 4, 3) := by decide +kernel
theorem dX12_next_20 : decode cX12_next 20 = .ok (.iconst 0, 1) := by decide +kernel
theorem dX12_next_21 : decode cX12_next 21 = .ok (.istore_n 1, 1) := by decide +kernel
theorem dX12_next_22 : decode cX12_next 22 = .ok (.aload_n 0, 1) := by decide +kernel
theorem dX12_next_23 : decode cX12_next 23 = .ok (.getfield 136, 3) := by decide +kernel
theorem dX12_next_26 : decode cX12_next 26 = .ok (.istore_n 2, 1) := by decide +kernel
theorem dX12_next_27 : decode cX12_next 27 = .ok (.aload_n 0, 1) := by decide +kernel
theorem dX12_next_28 : decode cX12_next 28 = .ok (.aload_n 0, 1) := by decide +kernel
theorem dX12_next_29 : decode cX12_next 29 = .ok (.getfield 136, 3) := by decide +kernel
theorem dX12_next_32 : decode cX12_next 32 = .ok (.putfield 139, 3) := by decide +kernel
theorem dX12_next_35 : decode cX12_next 35 = .ok (.aload_n 0, 1) := by decide +kernel
theorem dX12_next_36 : decode cX12_next 36 = .ok (.getfield 139, 3) := by decide +kernel
theorem dX12_next_39 : decode cX12_next 39 = .ok (.aload_n 0, 1) := by decide +kernel
theorem dX12_next_40 : decode cX12_next 40 = .ok (.getfield 129, 3) := by decide +kernel
theorem dX12_next_43 : decode cX12_next 43 = .ok (.if_icmp .ge 30, 3) := by decide +kernel
theorem dX12_next_46 : decode cX12_next 46 = .ok (.aload_n 0, 1) := by decide +kernel
theorem dX12_next_47 : decode cX12_next 47 = .ok (.getfield 16, 3) := by decide +kernel
theorem dX12_next_50 : decode cX12_next 50 = .ok (.aload_n 0, 1) := by decide +kernel
theorem dX12_next_51 : decode cX12_next 51 = .ok (.getfield 139, 3) := by decide +kernel
theorem dX12_next_54 : decode cX12_next 54 = .ok (.iaload, 1) := by decide +kernel
theorem dX12_next_55 : decode cX12_next 55 = .ok (.bipush 32, 2) := by decide +kernel
theorem dX12_next_57 : decode cX12_next 57 = .ok (.if_icmp .ne 16, 3) := by decide +kernel
theorem dX12_next_60 : decode cX12_next 60 = .ok (.aload_n 0, 1) := by decide +kernel
theorem dX12_next_61 : decode cX12_next 61 = .ok (.dup, 1) := by decide +kernel
theorem dX12_next_62 : decode cX12_next 62 = .ok (.getfield 139, 3) := by decide +kernel
theorem dX12_next_65 : decode cX12_next 65 = .ok (.iconst 1, 1) := by decide +kernel
theorem dX12_next_66 : decode cX12_next 66 = .ok (.iadd, 1) := by decide +kernel
theorem dX12_next_67 : decode cX12_next 67 = .ok (.putfield 139, 3) := by decide +kernel
theorem dX12_next_70 : decode cX12_next 70 = .ok (.goto (-35), 3) := by decide +kernel
theorem dX12_next_73 : decode cX12_next 73 = .ok (.aload_n 0, 1) := by decide +kernel
theorem dX12_next_74 : decode cX12_next 74 = .ok (.aload_n 0, 1) := by decide +kernel
theorem dX12_next_75 : decode cX12_next 75 = .ok (.getfield 139, 3) := by decide +kernel
theorem dX12_next_78 : decode cX12_next 78 = .ok (.putfield 136, 3) := by decide +kernel
theorem dX12_next_81 : decode cX12_next 81 = .ok (.aload_n 0, 1) := by decide +kernel
theorem dX12_next_82 : decode cX12_next 82 = .ok (.getfield 139, 3) := by decide +kernel
theorem dX12_next_85 : decode cX12_next 85 = .ok (.aload_n 0, 1) := by decide +kernel
theorem dX12_next_86 : decode cX12_next 86 = .ok (.getfield 129, 3) := by decide +kernel
theorem dX12_next_89 : decode cX12_next 89 = .ok (.if_icmp .ne 9, 3) := by decide +kernel
theorem dX12_next_92 : decode cX12_next 92 = .ok (.aload_n 0, 1) := by decide +kernel
theorem dX12_next_93 : decode cX12_next 93 = .ok (.iconst 0, 1) := by decide +kernel
theorem dX12_next_94 : decode cX12_next 94 = .ok (.putfield 133, 3) := by decide +kernel
theorem dX12_next_97 : decode cX12_next 97 = .ok (.return_, 1) := by decide +kernel
theorem dX12_next_98 : decode cX12_next 98 = .ok (.aload_n 0, 1) := by decide +kernel
theorem dX12_next_99 : decode cX12_next 99 = .ok (.aload_n 0, 1) := by decide +kernel
theorem dX12_next_100 : decode cX12_next 100 = .ok (.aload_n 0, 1) := by decide +kernel
theorem dX12_next_101 : decode cX12_next 101 = .ok (.getfield 139, 3) := by decide +kernel
theorem dX12_next_104 : decode cX12_next 104 = .ok (.invokevirtual 142, 3) := by decide +kernel
theorem dX12_next_107 : decode cX12_next 107 = .ok (.ifCond .eq 7, 3) := by decide +kernel
theorem dX12_next_110 : decode cX12_next 110 = .ok (.iconst 1, 1) := by decide +kernel
theorem dX12_next_111 : decode cX12_next 111 = .ok (.goto 19, 3) := by decide +kernel
theorem dX12_next_114 : decode cX12_next 114 = .ok (.aload_n 0, 1) := by decide +kernel
theorem dX12_next_115 : decode cX12_next 115 = .ok (.aload_n 0, 1) := by decide +kernel
theorem dX12_next_116 : decode cX12_next 116 = .ok (.getfield 139, 3) := by decide +kernel
theorem dX12_next_119 : decode cX12_next 119 = .ok (.invokevirtual 145, 3) := by decide +kernel
theorem dX12_next_122 : decode cX12_next 122 = .ok (.ifCond .eq 7, 3) := by decide +kernel
theorem dX12_next_125 : decode cX12_next 125 = .ok (.iconst 2, 1) := by decide +kernel
theorem dX12_next_126 : decode cX12_next 126 = .ok (.goto 4, 3) := by decide +kernel
theorem dX12_next_129 : decode cX12_next 129 = .ok (.iconst 3, 1) := by decide +kernel
theorem dX12_next_130 : decode cX12_next 130 = .ok (.putfield 133, 3) := by decide +kernel
theorem dX12_next_133 : decode cX12_next 133 = .ok (.aload_n 0, 1) := by decide +kernel
theorem dX12_next_134 : decode cX12_next 134 = .ok (.dup, 1) := by decide +kernel
theorem dX12_next_135 : decode cX12_next 135 = .ok (.getfield 136, 3) := by decide +kernel
theorem dX12_next_138 : decode cX12_next 138 = .ok (.iconst 1, 1) := by decide +kernel
theorem dX12_next_139 : decode cX12_next 139 = .ok (.iadd, 1) := by decide +kernel
theorem dX12_next_140 : decode cX12_next 140 = .ok (.putfield 136, 3) := by decide +kernel
theorem dX12_next_143 : decode cX12_next 143 = .ok (.aload_n 0, 1) := by decide +kernel
theorem dX12_next_144 : decode cX12_next 144 = .ok (.getfield 133, 3) := by decide +kernel
theorem dX12_next_147 : decode cX12_next 147 = .ok (.iconst 1, 1) := by decide +kernel
theorem dX12_next_148 : decode cX12_next 148 = .ok (.if_icmp .ne 14, 3) := by decide +kernel
theorem dX12_next_151 : decode cX12_next 151 = .ok (.aload_n 0, 1) := by decide +kernel
theorem dX12_next_152 : decode cX12_next 152 = .ok (.aload_n 0, 1) := by decide +kernel
theorem dX12_next_153 : decode cX12_next 153 = .ok (.getfield 136, 3) := by decide +kernel
theorem dX12_next_156 : decode cX12_next 156 = .ok (.invokevirtual 142, 3) := by decide +kernel
theorem dX12_next_159 : decode cX12_next 159 = .ok (.ifCond .ne 22, 3) := by decide +kernel
theorem dX12_next_162 : decode cX12_next 162 = .ok (.aload_n 0, 1) := by decide +kernel
theorem dX12_next_163 : decode cX12_next 163 = .ok (.getfield 133, 3) := by decide +kernel
theorem dX12_next_166 : decode cX12_next 166 = .ok (.iconst 2, 1) := by decide +kernel
theorem dX12_next_167 : decode cX12_next 167 = .ok (.if_icmp .ne 27, 3) := by decide +kernel
theorem dX12_next_170 : decode cX12_next 170 = .ok (.aload_n 0, 1) := by decide +kernel
theorem dX12_next_171 : decode cX12_next 171 = .ok (.aload_n 0, 1) := by decide +kernel
theorem dX12_next_172 : decode cX12_next 172 = .ok (.getfield 136, 3) := by decide +kernel
theorem dX12_next_175 : decode cX12_next 175 = .ok (.invokevirtual 145, 3) := by decide +kernel
theorem dX12_next_178 : decode cX12_next 178 = .ok (.ifCond .eq 16, 3) := by decide +kernel
theorem dX12_next_181 : decode cX12_next 181 = .ok (.aload_n 0, 1) := by decide +kernel
theorem dX12_next_182 : decode cX12_next 182 = .ok (.dup, 1) := by decide +kernel
theorem dX12_next_183 : decode cX12_next 183 = .ok (.getfield 136, 3) := by decide +kernel
theorem dX12_next_186 : decode cX12_next 186 = .ok (.iconst 1, 1) := by decide +kernel
theorem dX12_next_187 : decode cX12_next 187 = .ok (.iadd, 1) := by decide +kernel
theorem dX12_next_188 : decode cX12_next 188 = .ok (.putfield 136, 3) := by decide +kernel
theorem dX12_next_191 : decode cX12_next 191 = .ok (.goto (-48), 3) := by decide +kernel
theorem dX12_next_194 : decode cX12_next 194 = .ok (.aload_n 0, 1) := by decide +kernel
theorem dX12_next_195 : decode cX12_next 195 = .ok (.getfield 133, 3) := by decide +kernel
theorem dX12_next_198 : decode cX12_next 198 = .ok (.iconst 3, 1) := by decide +kernel
theorem dX12_next_199 : decode cX12_next 199 = .ok (.if_icmp .eq 15, 3) := by decide +kernel
theorem dX12_next_202 : decode cX12_next 202 = .ok (.iload_n 1, 1) := by decide +kernel
theorem dX12_next_203 : decode cX12_next 203 = .ok (.ifCond .eq 11, 3) := by decide +kernel
theorem dX12_next_206 : decode cX12_next 206 = .ok (.aload_n 0, 1) := by decide +kernel
theorem dX12_next_207 : decode cX12_next 207 = .ok (.getfield 139, 3) := by decide +kernel
theorem dX12_next_210 : decode cX12_next 210 = .ok (.iload_n 2, 1) := by decide +kernel
theorem dX12_next_211 : decode cX12_next 211 = .ok (.if_icmp .eq 24, 3) := by decide +kernel
theorem dX12_next_214 : decode cX12_next 214 = .ok (.aload_n 0, 1) := by decide +kernel
theorem dX12_next_215 : decode cX12_next 215 = .ok (.getfield 133, 3) := by decide +kernel
theorem dX12_next_218 : decode cX12_next 218 = .ok (.iconst 2, 1) := by decide +kernel
theorem dX12_next_219 : decode cX12_next 219 = .ok (.if_icmp .ne 21, 3) := by decide +kernel
theorem dX12_next_222 : decode cX12_next 222 = .ok (.aload_n 0, 1) := by decide +kernel
theorem dX12_next_223 : decode cX12_next 223 = .ok (.getfield 136, 3) := by decide +kernel
theorem dX12_next_226 : decode cX12_next 226 = .ok (.aload_n 0, 1) := by decide +kernel
theorem dX12_next_227 : decode cX12_next 227 = .ok (.getfield 139, 3) := by decide +kernel
theorem dX12_next_230 : decode cX12_next 230 = .ok (.isub, 1) := by decide +kernel
theorem dX12_next_231 : decode cX12_next 231 = .ok (.iconst 5, 1) := by decide +kernel
theorem dX12_next_232 : decode cX12_next 232 = .ok (.if_icmp .le 8, 3) := by decide +kernel
theorem dX12_next_235 : decode cX12_next 235 = .ok (.aload_n 0, 1) := by decide +kernel
theorem dX12_next_236 : decode cX12_next 236 = .ok (.iconst 4, 1) := by decide +kernel
theorem dX12_next_237 : decode cX12_next 237 = .ok (.putfield 133, 3) := by decide +kernel
theorem dX12_next_240 : decode cX12_next 240 = .ok (.return_, 1) := by decide +kernel
theorem dX12_isSign_0 : decode cX12_isSign 0 = .ok (.aload_n 0, 1) := by decide +kernel
theorem dX12_isSign_1 : decode cX12_isSign 1 = .ok (.getfield 148, 3) := by decide +kernel
theorem dX12_isSign_4 : decode cX12_isSign 4 = .ok (.ifCond .ne 28, 3) := by decide +kernel
theorem dX12_isSign_7 : decode cX12_isSign 7 = .ok (.aload_n 0, 1) := by decide +kernel
theorem dX12_isSign_8 : decode cX12_isSign 8 = .ok (.getfield 133, 3) := by decide +kernel
theorem dX12_isSign_11 : decode cX12_isSign 11 = .ok (.iconst 3, 1) := by decide +kernel
theorem dX12_isSign_12 : decode cX12_isSign 12 = .ok (.if_icmp .ne 20, 3) := by decide +kernel
theorem dX12_isSign_15 : decode cX12_isSign 15 = .ok (.aload_n 0, 1) := by decide +kernel
theorem dX12_isSign_16 : decode cX12_isSign 16 = .ok (.getfield 16, 3) := by decide +kernel
theorem dX12_isSign_19 : decode cX12_isSign 19 = .ok (.aload_n 0, 1) := by decide +kernel
theorem dX12_isSign_20 : decode cX12_isSign 20 = .ok (.getfield 139, 3) := by decide +kernel
theorem dX12_isSign_23 : decode cX12_isSign 23 = .ok (.iaload, 1) := by decide +kernel
theorem dX12_isSign_24 : decode cX12_isSign 24 = .ok (.iload_n 1, 1) := by decide +kernel
theorem dX12_isSign_25 : decode cX12_isSign 25 = .ok (.if_icmp .ne 7, 3) := by decide +kernel
theorem dX12_isSign_28 : decode cX12_isSign 28 = .ok (.iconst 1, 1) := by decide +kernel
theorem dX12_isSign_29 : decode cX12_isSign 29 = .ok (.goto 4, 3) := by decide +kernel
theorem dX12_isSign_32 : decode cX12_isSign 32 = .ok (.iconst 0, 1) := by decide +kernel
theorem dX12_isSign_33 : decode cX12_isSign 33 = .ok (.ireturn, 1) := by decide +kernel
theorem dX12_need_0 : decode cX12_need 0 = .ok (.aload_n 0, 1) := by decide +kernel
theorem dX12_need_1 : decode cX12_need 1 = .ok (.aload_n 0, 1) := by decide +kernel
theorem dX12_need_2 : decode cX12_need 2 = .ok (.getfield 148, 3) := by decide +kernel
theorem dX12_need_5 : decode cX12_need 5 = .ok (.ifCond .ne 7, 3) := by decide +kernel
theorem dX12_need_8 : decode cX12_need 8 = .ok (.iload_n 1, 1) := by decide +kernel
theorem dX12_need_9 : decode cX12_need 9 = .ok (.ifCond .ne 7, 3) := by decide +kernel
theorem dX12_need_12 : decode cX12_need 12 = .ok (.iconst 1, 1) := by decide +kernel
theorem dX12_need_13 : decode cX12_need 13 = .ok (.goto 4, 3) := by decide +kernel
theorem dX12_need_16 : decode cX12_need 16 = .ok (.iconst 0, 1) := by decide +kernel
theorem dX12_need_17 : decode cX12_need 17 = .ok (.putfield 148, 3) := by decide +kernel
theorem dX12_need_20 : decode cX12_need 20 = .ok (.aload_n 0, 1) := by decide +kernel
theorem dX12_need_21 : decode cX12_need 21 = .ok (.getfield 148, 3) := by decide +kernel
theorem dX12_need_24 : decode cX12_need 24 = .ok (.ifCond .ne 7, 3) := by decide +kernel
theorem dX12_need_27 : decode cX12_need 27 = .ok (.aload_n 0, 1) := by decide +kernel
theorem dX12_need_28 : decode cX12_need 28 = .ok (.invokevirtual 152, 3) := by decide +kernel
theorem dX12_need_31 : decode cX12_need 31 = .ok (.return_, 1) := by decide +kernel
theorem dX12_word_0 : decode cX12_word 0 = .ok (.aload_n 0, 1) := by decide +kernel
theorem dX12_word_1 : decode cX12_word 1 = .ok (.getfield 133, 3) := by decide +kernel
theorem dX12_word_4 : decode cX12_word 4 = .ok (.iconst 1, 1) := by decide +kernel
theorem dX12_word_5 : decode cX12_word 5 = .ok (.if_icmp .ne 23, 3) := by decide +kernel
theorem dX12_word_8 : decode cX12_word 8 = .ok (.aload_n 0, 1) := by decide +kernel
theorem dX12_word_9 : decode cX12_word 9 = .ok (.getfield 136, 3) := by decide +kernel
theorem dX12_word_12 : decode cX12_word 12 = .ok (.aload_n 0, 1) := by decide +kernel
theorem dX12_word_13 : decode cX12_word 13 = .ok (.getfield 139, 3) := by decide +kernel
theorem dX12_word_16 : decode cX12_word 16 = .ok (.isub, 1) := by decide +kernel
theorem dX12_word_17 : decode cX12_word 17 = .ok (.aload_n 1, 1) := by decide +kernel
theorem dX12_word_18 : decode cX12_word 18 = .ok (.invokevirtual 155, 3) := by decide +kernel
theorem dX12_word_21 : decode cX12_word 21 = .ok (.if_icmp .ne 7, 3) := by decide +kernel
theorem dX12_word_24 : decode cX12_word 24 = .ok (.iconst 1, 1) := by decide +kernel
theorem dX12_word_25 : decode cX12_word 25 = .ok (.goto 4, 3) := by decide +kernel
theorem dX12_word_28 : decode cX12_word 28 = .ok (.iconst 0, 1) := by decide +kernel
theorem dX12_word_29 : decode cX12_word 29 = .ok (.istore_n 2, 1) := by decide +kernel
theorem dX12_word_30 : decode cX12_word 30 = .ok (.iconst 0, 1) := by decide +kernel
theorem dX12_word_31 : decode cX12_word 31 = .ok (.istore_n 3, 1) := by decide +kernel
theorem dX12_word_32 : decode cX12_word 32 = .ok (.iload_n 2, 1) := by decide +kernel
theorem dX12_word_33 : decode cX12_word 33 = .ok (.ifCond .eq 42, 3) := by decide +kernel
theorem dX12_word_36 : decode cX12_word 36 = .ok (.iload_n 3, 1) := by decide +kernel
theorem dX12_word_37 : decode cX12_word 37 = .ok (.aload_n 1, 1) := by decide +kernel
theorem dX12_word_38 : decode cX12_word 38 = .ok (.invokevirtual 155, 3) := by decide +kernel
theorem dX12_word_41 : decode cX12_word 41 = .ok (.if_icmp .ge 34, 3) := by decide +kernel
theorem dX12_word_44 : decode cX12_word 44 = .ok (.aload_n 0, 1) := by decide +kernel
theorem dX12_word_45 : decode cX12_word 45 = .ok (.getfield 16, 3) := by decide +kernel
theorem dX12_word_48 : decode cX12_word 48 = .ok (.aload_n 0, 1) := by decide +kernel
theorem dX12_word_49 : decode cX12_word 49 = .ok (.getfield 139, 3) := by decide +kernel
theorem dX12_word_52 : decode cX12_word 52 = .ok (.iload_n 3, 1) := by decide +kernel
theorem dX12_word_53 : decode cX12_word 53 = .ok (.iadd, 1) := by decide +kernel
theorem dX12_word_54 : decode cX12_word 54 = .ok (.iaload, 1) := by decide +kernel
theorem dX12_word_55 : decode cX12_word 55 = .ok (.aload_n 1, 1) := by decide +kernel
theorem dX12_word_56 : decode cX12_word 56 = .ok (.iload_n 3, 1) := by decide +kernel
theorem dX12_word_57 : decode cX12_word 57 = .ok (.invokevirtual 160, 3) := by decide +kernel
theorem dX12_word_60 : decode cX12_word 60 = .ok (.if_icmp .ne 7, 3) := by decide +kernel
theorem dX12_word_63 : decode cX12_word 63 = .ok (.iconst 1, 1) := by decide +kernel
theorem dX12_word_64 : decode cX12_word 64 = .ok (.goto 4, 3) := by decide +kernel
theorem dX12_word_67 : decode cX12_word 67 = .ok (.iconst 0, 1) := by decide +kernel
theorem dX12_word_68 : decode cX12_word 68 = .ok (.istore_n 2, 1) := by decide +kernel
theorem dX12_word_69 : decode cX12_word 69 = .ok (.iinc 3 1, 3) := by decide +kernel
theorem dX12_word_72 : decode cX12_word 72 = .ok (.goto (-40), 3) := by decide +kernel
theorem dX12_word_75 : decode cX12_word 75 = .ok (.aload_n 0, 1) := by decide +kernel
theorem dX12_word_76 : decode cX12_word 76 = .ok (.iload_n 2, 1) := by decide +kernel
theorem dX12_word_77 : decode cX12_word 77 = .ok (.invokevirtual 164, 3) := by decide +kernel
theorem dX12_word_80 : decode cX12_word 80 = .ok (.return_, 1) := by decide +kernel
theorem dX12_put_0 : decode cX12_put 0 = .ok (.aload_n 0, 1) := by decide +kernel
theorem dX12_put_1 : decode cX12_put 1 = .ok (.getfield 148, 3) := by decide +kernel
theorem dX12_put_4 : decode cX12_put 4 = .ok (.ifCond .ne 23, 3) := by decide +kernel
theorem dX12_put_7 : decode cX12_put 7 = .ok (.aload_n 0, 1) := by decide +kernel
theorem dX12_put_8 : decode cX12_put 8 = .ok (.getfield 31, 3) := by decide +kernel
theorem dX12_put_11 : decode cX12_put 11 = .ok (.aload_n 0, 1) := by decide +kernel
theorem dX12_put_12 : decode cX12_put 12 = .ok (.getfield 168, 3) := by decide +kernel
theorem dX12_put_15 : decode cX12_put 15 = .ok (.iload_n 1, 1) := by decide +kernel
theorem dX12_put_16 : decode cX12_put 16 = .ok (.iastore, 1) := by decide +kernel
theorem dX12_put_17 : decode cX12_put 17 = .ok (.aload_n 0, 1) := by decide +kernel
theorem dX12_put_18 : decode cX12_put 18 = .ok (.dup, 1) := by decide +kernel
theorem dX12_put_19 : decode cX12_put 19 = .ok (.getfield 168, 3) := by decide +kernel
theorem dX12_put_22 : decode cX12_put 22 = .ok (.iconst 1, 1) := by decide +kernel
theorem dX12_put_23 : decode cX12_put 23 = .ok (.iadd, 1) := by decide +kernel
theorem dX12_put_24 : decode cX12_put 24 = .ok (.putfield 168, 3) := by decide +kernel
theorem dX12_put_27 : decode cX12_put 27 = .ok (.return_, 1) := by decide +kernel
theorem dX12_signHere_0 : decode cX12_signHere 0 = .ok (.iconst (-1), 1) := by decide +kernel
theorem dX12_signHere_1 : decode cX12_signHere 1 = .ok (.istore_n 3, 1) := by decide +kernel
theorem dX12_signHere_2 : decode cX12_signHere 2 = .ok (.iload_n 1, 1) := by decide +kernel
theorem dX12_signHere_3 : decode cX12_signHere 3 = .ok (.istore 4, 2) := by decide +kernel
theorem dX12_signHere_5 : decode cX12_signHere 5 = .ok (.iload 4, 2) := by decide +kernel
theorem dX12_signHere_7 : decode cX12_signHere 7 = .ok (.iload_n 2, 1) := by decide +kernel
theorem dX12_signHere_8 : decode cX12_signHere 8 = .ok (.if_icmp .gt 30, 3) := by decide +kernel
theorem dX12_signHere_11 : decode cX12_signHere 11 = .ok (.aload_n 0, 1) := by decide +kernel
theorem dX12_signHere_12 : decode cX12_signHere 12 = .ok (.ldc 171, 2) := by decide +kernel
theorem dX12_signHere_14 : decode cX12_signHere 14 = .ok (.iload 4, 2) := by decide +kernel
theorem dX12_signHere_16 : decode cX12_signHere 16 = .ok (.invokevirtual 160, 3) := by decide +kernel
theorem dX12_signHere_19 : decode cX12_signHere 19 = .ok (.invokevirtual 173, 3) := by decide +kernel
theorem dX12_signHere_22 : decode cX12_signHere 22 = .ok (.ifCond .eq 8, 3) := by decide +kernel
theorem dX12_signHere_25 : decode cX12_signHere 25 = .ok (.iload 4, 2) := by decide +kernel
theorem dX12_signHere_27 : decode cX12_signHere 27 = .ok (.goto 4, 3) := by decide +kernel
theorem dX12_signHere_30 : decode cX12_signHere 30 = .ok (.iload_n 3, 1) := by decide +kernel
theorem dX12_signHere_31 : decode cX12_signHere 31 = .ok (.istore_n 3, 1) := by decide +kernel
theorem dX12_signHere_32 : decode cX12_signHere 32 = .ok (.iinc 4 1, 3) := by decide +kernel
theorem dX12_signHere_35 : decode cX12_signHere 35 = .ok (.goto (-30), 3) := by decide +kernel
theorem dX12_signHere_38 : decode cX12_signHere 38 = .ok (.iload_n 3, 1) := by decide +kernel
theorem dX12_signHere_39 : decode cX12_signHere 39 = .ok (.ireturn, 1) := by decide +kernel
theorem dX12_part_0 : decode cX12_part 0 = .ok (.aload_n 0, 1) := by decide +kernel
theorem dX12_part_1 : decode cX12_part 1 = .ok (.getfield 148, 3) := by decide +kernel
theorem dX12_part_4 : decode cX12_part 4 = .ok (.ifCond .eq 4, 3) := by decide +kernel
theorem dX12_part_7 : decode cX12_part 7 = .ok (.return_, 1) := by decide +kernel
theorem dX12_part_8 : decode cX12_part 8 = .ok (.aload_n 0, 1) := by decide +kernel
theorem dX12_part_9 : decode cX12_part 9 = .ok (.getfield 133, 3) := by decide +kernel
theorem dX12_part_12 : decode cX12_part 12 = .ok (.iconst 2, 1) := by decide +kernel
theorem dX12_part_13 : decode cX12_part 13 = .ok (.if_icmp .ne 61, 3) := by decide +kernel
theorem dX12_part_16 : decode cX12_part 16 = .ok (.iconst 0, 1) := by decide +kernel
theorem dX12_part_17 : decode cX12_part 17 = .ok (.istore_n 1, 1) := by decide +kernel
theorem dX12_part_18 : decode cX12_part 18 = .ok (.aload_n 0, 1) := by decide +kernel
theorem dX12_part_19 : decode cX12_part 19 = .ok (.getfield 139, 3) := by decide +kernel
theorem dX12_part_22 : decode cX12_part 22 = .ok (.istore_n 2, 1) := by decide +kernel
theorem dX12_part_23 : decode cX12_part 23 = .ok (.iload_n 2, 1) := by decide +kernel
theorem dX12_part_24 : decode cX12_part 24 = .ok (.aload_n 0, 1) := by decide +kernel
theorem dX12_part_25 : decode cX12_part 25 = .ok (.getfield 136, 3) := by decide +kernel
theorem dX12_part_28 : decode cX12_part 28 = .ok (.if_icmp .ge 24, 3) := by decide +kernel
theorem dX12_part_31 : decode cX12_part 31 = .ok (.bipush 10, 2) := by decide +kernel
theorem dX12_part_33 : decode cX12_part 33 = .ok (.iload_n 1, 1) := by decide +kernel
theorem dX12_part_34 : decode cX12_part 34 = .ok (.imul, 1) := by decide +kernel
theorem dX12_part_35 : decode cX12_part 35 = .ok (.aload_n 0, 1) := by decide +kernel
theorem dX12_part_36 : decode cX12_part 36 = .ok (.getfield 16, 3) := by decide +kernel
theorem dX12_part_39 : decode cX12_part 39 = .ok (.iload_n 2, 1) := by decide +kernel
theorem dX12_part_40 : decode cX12_part 40 = .ok (.iaload, 1) := by decide +kernel
theorem dX12_part_41 : decode cX12_part 41 = .ok (.iadd, 1) := by decide +kernel
theorem dX12_part_42 : decode cX12_part 42 = .ok (.bipush 48, 2) := by decide +kernel
theorem dX12_part_44 : decode cX12_part 44 = .ok (.isub, 1) := by decide +kernel
theorem dX12_part_45 : decode cX12_part 45 = .ok (.istore_n 1, 1) := by decide +kernel
theorem dX12_part_46 : decode cX12_part 46 = .ok (.iinc 2 1, 3) := by decide +kernel
theorem dX12_part_49 : decode cX12_part 49 = .ok (.goto (-26), 3) := by decide +kernel
theorem dX12_part_52 : decode cX12_part 52 = .ok (.aload_n 0, 1) := by decide +kernel
theorem dX12_part_53 : decode cX12_part 53 = .ok (.iload_n 1, 1) := by decide +kernel
theorem dX12_part_54 : decode cX12_part 54 = .ok (.invokevirtual 176, 3) := by decide +kernel
theorem dX12_part_57 : decode cX12_part 57 = .ok (.aload_n 0, 1) := by decide +kernel
theorem dX12_part_58 : decode cX12_part 58 = .ok (.dup, 1) := by decide +kernel
theorem dX12_part_59 : decode cX12_part 59 = .ok (.getfield 179, 3) := by decide +kernel
theorem dX12_part_62 : decode cX12_part 62 = .ok (.iconst 1, 1) := by decide +kernel
theorem dX12_part_63 : decode cX12_part 63 = .ok (.iadd, 1) := by decide +kernel
theorem dX12_part_64 : decode cX12_part 64 = .ok (.putfield 179, 3) := by decide +kernel
theorem dX12_part_67 : decode cX12_part 67 = .ok (.aload_n 0, 1) := by decide +kernel
theorem dX12_part_68 : decode cX12_part 68 = .ok (.invokevirtual 152, 3) := by decide +kernel
theorem dX12_part_71 : decode cX12_part 71 = .ok (.goto 198, 3) := by decide +kernel
theorem dX12_part_74 : decode cX12_part 74 = .ok (.aload_n 0, 1) := by decide +kernel
theorem dX12_part_75 : decode cX12_part 75 = .ok (.getfield 133, 3) := by decide +kernel
theorem dX12_part_78 : decode cX12_part 78 = .ok (.iconst 1, 1) := by decide +kernel
theorem dX12_part_79 : decode cX12_part 79 = .ok (.if_icmp .ne 71, 3) := by decide +kernel
theorem dX12_part_82 : decode cX12_part 82 = .ok (.aload_n 0, 1) := by decide +kernel
theorem dX12_part_83 : decode cX12_part 83 = .ok (.getfield 136, 3) := by decide +kernel
theorem dX12_part_86 : decode cX12_part 86 = .ok (.aload_n 0, 1) := by decide +kernel
theorem dX12_part_87 : decode cX12_part 87 = .ok (.getfield 139, 3) := by decide +kernel
theorem dX12_part_90 : decode cX12_part 90 = .ok (.isub, 1) := by decide +kernel
theorem dX12_part_91 : decode cX12_part 91 = .ok (.iconst 1, 1) := by decide +kernel
theorem dX12_part_92 : decode cX12_part 92 = .ok (.if_icmp .ne 58, 3) := by decide +kernel
theorem dX12_part_95 : decode cX12_part 95 = .ok (.ldc 182, 2) := by decide +kernel
theorem dX12_part_97 : decode cX12_part 97 = .ok (.aload_n 0, 1) := by decide +kernel
theorem dX12_part_98 : decode cX12_part 98 = .ok (.getfield 16, 3) := by decide +kernel
theorem dX12_part_101 : decode cX12_part 101 = .ok (.aload_n 0, 1) := by decide +kernel
theorem dX12_part_102 : decode cX12_part 102 = .ok (.getfield 139, 3) := by decide +kernel
theorem dX12_part_105 : decode cX12_part 105 = .ok (.iaload, 1) := by decide +kernel
theorem dX12_part_106 : decode cX12_part 106 = .ok (.invokevirtual 184, 3) := by decide +kernel
theorem dX12_part_109 : decode cX12_part 109 = .ok (.ifCond .lt 41, 3) := by decide +kernel
theorem dX12_part_112 : decode cX12_part 112 = .ok (.aload_n 0, 1) := by decide +kernel
theorem dX12_part_113 : decode cX12_part 113 = .ok (.ldc 187, 2) := by decide +kernel
theorem dX12_part_115 : decode cX12_part 115 = .ok (.ldc 182, 2) := by decide +kernel
theorem dX12_part_117 : decode cX12_part 117 = .ok (.aload_n 0, 1) := by decide +kernel
theorem dX12_part_118 : decode cX12_part 118 = .ok (.getfield 16, 3) := by decide +kernel
theorem dX12_part_121 : decode cX12_part 121 = .ok (.aload_n 0, 1) := by decide +kernel
theorem dX12_part_122 : decode cX12_part 122 = .ok (.getfield 139, 3) := by decide +kernel
theorem dX12_part_125 : decode cX12_part 125 = .ok (.iaload, 1) := by decide +kernel
theorem dX12_part_126 : decode cX12_part 126 = .ok (.invokevirtual 184, 3) := by decide +kernel
theorem dX12_part_129 : decode cX12_part 129 = .ok (.iadd, 1) := by decide +kernel
theorem dX12_part_130 : decode cX12_part 130 = .ok (.invokevirtual 176, 3) := by decide +kernel
theorem dX12_part_133 : decode cX12_part 133 = .ok (.aload_n 0, 1) := by decide +kernel
theorem dX12_part_134 : decode cX12_part 134 = .ok (.dup, 1) := by decide +kernel
theorem dX12_part_135 : decode cX12_part 135 = .ok (.getfield 179, 3) := by decide +kernel
theorem dX12_part_138 : decode cX12_part 138 = .ok (.iconst 1, 1) := by decide +kernel
theorem dX12_part_139 : decode cX12_part 139 = .ok (.iadd, 1) := by decide +kernel
theorem dX12_part_140 : decode cX12_part 140 = .ok (.putfield 179, 3) := by decide +kernel
theorem dX12_part_143 : decode cX12_part 143 = .ok (.aload_n 0, 1) := by decide +kernel
theorem dX12_part_144 : decode cX12_part 144 = .ok (.invokevirtual 152, 3) := by decide +kernel
theorem dX12_part_147 : decode cX12_part 147 = .ok (.goto 122, 3) := by decide +kernel
theorem dX12_part_150 : decode cX12_part 150 = .ok (.aload_n 0, 1) := by decide +kernel
theorem dX12_part_151 : decode cX12_part 151 = .ok (.bipush 33, 2) := by decide +kernel
theorem dX12_part_153 : decode cX12_part 153 = .ok (.invokevirtual 173, 3) := by decide +kernel
theorem dX12_part_156 : decode cX12_part 156 = .ok (.ifCond .eq 49, 3) := by decide +kernel
theorem dX12_part_159 : decode cX12_part 159 = .ok (.aload_n 0, 1) := by decide +kernel
theorem dX12_part_160 : decode cX12_part 160 = .ok (.getfield 188, 3) := by decide +kernel
theorem dX12_part_163 : decode cX12_part 163 = .ok (.bipush 8, 2) := by decide +kernel
theorem dX12_part_165 : decode cX12_part 165 = .ok (.if_icmp .ge 40, 3) := by decide +kernel
theorem dX12_part_168 : decode cX12_part 168 = .ok (.aload_n 0, 1) := by decide +kernel
theorem dX12_part_169 : decode cX12_part 169 = .ok (.dup, 1) := by decide +kernel
theorem dX12_part_170 : decode cX12_part 170 = .ok (.getfield 188, 3) := by decide +kernel
theorem dX12_part_173 : decode cX12_part 173 = .ok (.iconst 1, 1) := by decide +kernel
theorem dX12_part_174 : decode cX12_part 174 = .ok (.iadd, 1) := by decide +kernel
theorem dX12_part_175 : decode cX12_part 175 = .ok (.putfield 188, 3) := by decide +kernel
theorem dX12_part_178 : decode cX12_part 178 = .ok (.aload_n 0, 1) := by decide +kernel
theorem dX12_part_179 : decode cX12_part 179 = .ok (.invokevirtual 152, 3) := by decide +kernel
theorem dX12_part_182 : decode cX12_part 182 = .ok (.aload_n 0, 1) := by decide +kernel
theorem dX12_part_183 : decode cX12_part 183 = .ok (.invokevirtual 191, 3) := by decide +kernel
theorem dX12_part_186 : decode cX12_part 186 = .ok (.aload_n 0, 1) := by decide +kernel
theorem dX12_part_187 : decode cX12_part 187 = .ok (.dup, 1) := by decide +kernel
theorem dX12_part_188 : decode cX12_part 188 = .ok (.getfield 188, 3) := by decide +kernel
theorem dX12_part_191 : decode cX12_part 191 = .ok (.iconst 1, 1) := by decide +kernel
theorem dX12_part_192 : decode cX12_part 192 = .ok (.isub, 1) := by decide +kernel
theorem dX12_part_193 : decode cX12_part 193 = .ok (.putfield 188, 3) := by decide +kernel
theorem dX12_part_196 : decode cX12_part 196 = .ok (.aload_n 0, 1) := by decide +kernel
theorem dX12_part_197 : decode cX12_part 197 = .ok (.ldc 194, 2) := by decide +kernel
theorem dX12_part_199 : decode cX12_part 199 = .ok (.invokevirtual 176, 3) := by decide +kernel
theorem dX12_part_202 : decode cX12_part 202 = .ok (.goto 67, 3) := by decide +kernel
theorem dX12_part_205 : decode cX12_part 205 = .ok (.aload_n 0, 1) := by decide +kernel
theorem dX12_part_206 : decode cX12_part 206 = .ok (.bipush 40, 2) := by decide +kernel
theorem dX12_part_208 : decode cX12_part 208 = .ok (.invokevirtual 173, 3) := by decide +kernel
theorem dX12_part_211 : decode cX12_part 211 = .ok (.ifCond .eq 53, 3) := by decide +kernel
theorem dX12_part_214 : decode cX12_part 214 = .ok (.aload_n 0, 1) := by decide +kernel
theorem dX12_part_215 : decode cX12_part 215 = .ok (.getfield 195, 3) := by decide +kernel
theorem dX12_part_218 : decode cX12_part 218 = .ok (.bipush 8, 2) := by decide +kernel
theorem dX12_part_220 : decode cX12_part 220 = .ok (.if_icmp .ge 44, 3) := by decide +kernel
theorem dX12_part_223 : decode cX12_part 223 = .ok (.aload_n 0, 1) := by decide +kernel
theorem dX12_part_224 : decode cX12_part 224 = .ok (.dup, 1) := by decide +kernel
theorem dX12_part_225 : decode cX12_part 225 = .ok (.getfield 195, 3) := by decide +kernel
theorem dX12_part_228 : decode cX12_part 228 = .ok (.iconst 1, 1) := by decide +kernel
theorem dX12_part_229 : decode cX12_part 229 = .ok (.iadd, 1) := by decide +kernel
theorem dX12_part_230 : decode cX12_part 230 = .ok (.putfield 195, 3) := by decide +kernel
theorem dX12_part_233 : decode cX12_part 233 = .ok (.aload_n 0, 1) := by decide +kernel
theorem dX12_part_234 : decode cX12_part 234 = .ok (.invokevirtual 152, 3) := by decide +kernel
theorem dX12_part_237 : decode cX12_part 237 = .ok (.aload_n 0, 1) := by decide +kernel
theorem dX12_part_238 : decode cX12_part 238 = .ok (.invokevirtual 198, 3) := by decide +kernel
theorem dX12_part_241 : decode cX12_part 241 = .ok (.aload_n 0, 1) := by decide +kernel
theorem dX12_part_242 : decode cX12_part 242 = .ok (.aload_n 0, 1) := by decide +kernel
theorem dX12_part_243 : decode cX12_part 243 = .ok (.bipush 41, 2) := by decide +kernel
theorem dX12_part_245 : decode cX12_part 245 = .ok (.invokevirtual 173, 3) := by decide +kernel
theorem dX12_part_248 : decode cX12_part 248 = .ok (.invokevirtual 164, 3) := by decide +kernel
theorem dX12_part_251 : decode cX12_part 251 = .ok (.aload_n 0, 1) := by decide +kernel
theorem dX12_part_252 : decode cX12_part 252 = .ok (.dup, 1) := by decide +kernel
theorem dX12_part_253 : decode cX12_part 253 = .ok (.getfield 195, 3) := by decide +kernel
theorem dX12_part_256 : decode cX12_part 256 = .ok (.iconst 1, 1) := by decide +kernel
theorem dX12_part_257 : decode cX12_part 257 = .ok (.isub, 1) := by decide +kernel
theorem dX12_part_258 : decode cX12_part 258 = .ok (.putfield 195, 3) := by decide +kernel
theorem dX12_part_261 : decode cX12_part 261 = .ok (.goto 8, 3) := by decide +kernel
theorem dX12_part_264 : decode cX12_part 264 = .ok (.aload_n 0, 1) := by decide +kernel
theorem dX12_part_265 : decode cX12_part 265 = .ok (.iconst 1, 1) := by decide +kernel
theorem dX12_part_266 : decode cX12_part 266 = .ok (.putfield 148, 3) := by decide +kernel
theorem dX12_part_269 : decode cX12_part 269 = .ok (.return_, 1) := by decide +kernel
theorem dX12_term_0 : decode cX12_term 0 = .ok (.aload_n 0, 1) := by decide +kernel
theorem dX12_term_1 : decode cX12_term 1 = .ok (.invokevirtual 191, 3) := by decide +kernel
theorem dX12_term_4 : decode cX12_term 4 = .ok (.aload_n 0, 1) := by decide +kernel
theorem dX12_term_5 : decode cX12_term 5 = .ok (.bipush 7, 2) := by decide +kernel
theorem dX12_term_7 : decode cX12_term 7 = .ok (.bipush 8, 2) := by decide +kernel
theorem dX12_term_9 : decode cX12_term 9 = .ok (.invokevirtual 201, 3) := by decide +kernel
theorem dX12_term_12 : decode cX12_term 12 = .ok (.istore_n 1, 1) := by decide +kernel
theorem dX12_term_13 : decode cX12_term 13 = .ok (.iload_n 1, 1) := by decide +kernel
theorem dX12_term_14 : decode cX12_term 14 = .ok (.ifCond .lt 31, 3) := by decide +kernel
theorem dX12_term_17 : decode cX12_term 17 = .ok (.aload_n 0, 1) := by decide +kernel
theorem dX12_term_18 : decode cX12_term 18 = .ok (.invokevirtual 152, 3) := by decide +kernel
theorem dX12_term_21 : decode cX12_term 21 = .ok (.aload_n 0, 1) := by decide +kernel
theorem dX12_term_22 : decode cX12_term 22 = .ok (.invokevirtual 191, 3) := by decide +kernel
theorem dX12_term_25 : decode cX12_term 25 = .ok (.aload_n 0, 1) := by decide +kernel
theorem dX12_term_26 : decode cX12_term 26 = .ok (.ldc 204, 2) := by decide +kernel
theorem dX12_term_28 : decode cX12_term 28 = .ok (.iload_n 1, 1) := by decide +kernel
theorem dX12_term_29 : decode cX12_term 29 = .ok (.iadd, 1) := by decide +kernel
theorem dX12_term_30 : decode cX12_term 30 = .ok (.invokevirtual 176, 3) := by decide +kernel
theorem dX12_term_33 : decode cX12_term 33 = .ok (.aload_n 0, 1) := by decide +kernel
theorem dX12_term_34 : decode cX12_term 34 = .ok (.bipush 7, 2) := by decide +kernel
theorem dX12_term_36 : decode cX12_term 36 = .ok (.bipush 8, 2) := by decide +kernel
theorem dX12_term_38 : decode cX12_term 38 = .ok (.invokevirtual 201, 3) := by decide +kernel
theorem dX12_term_41 : decode cX12_term 41 = .ok (.istore_n 1, 1) := by decide +kernel
theorem dX12_term_42 : decode cX12_term 42 = .ok (.goto (-29), 3) := by decide +kernel
theorem dX12_term_45 : decode cX12_term 45 = .ok (.return_, 1) := by decide +kernel
theorem dX12_sum_0 : decode cX12_sum 0 = .ok (.aload_n 0, 1) := by decide +kernel
theorem dX12_sum_1 : decode cX12_sum 1 = .ok (.invokevirtual 205, 3) := by decide +kernel
theorem dX12_sum_4 : decode cX12_sum 4 = .ok (.aload_n 0, 1) := by decide +kernel
theorem dX12_sum_5 : decode cX12_sum 5 = .ok (.iconst 5, 1) := by decide +kernel
theorem dX12_sum_6 : decode cX12_sum 6 = .ok (.bipush 6, 2) := by decide +kernel
theorem dX12_sum_8 : decode cX12_sum 8 = .ok (.invokevirtual 201, 3) := by decide +kernel
theorem dX12_sum_11 : decode cX12_sum 11 = .ok (.istore_n 1, 1) := by decide +kernel
theorem dX12_sum_12 : decode cX12_sum 12 = .ok (.iload_n 1, 1) := by decide +kernel
theorem dX12_sum_13 : decode cX12_sum 13 = .ok (.ifCond .lt 30, 3) := by decide +kernel
theorem dX12_sum_16 : decode cX12_sum 16 = .ok (.aload_n 0, 1) := by decide +kernel
theorem dX12_sum_17 : decode cX12_sum 17 = .ok (.invokevirtual 152, 3) := by decide +kernel
theorem dX12_sum_20 : decode cX12_sum 20 = .ok (.aload_n 0, 1) := by decide +kernel
theorem dX12_sum_21 : decode cX12_sum 21 = .ok (.invokevirtual 205, 3) := by decide +kernel
theorem dX12_sum_24 : decode cX12_sum 24 = .ok (.aload_n 0, 1) := by decide +kernel
theorem dX12_sum_25 : decode cX12_sum 25 = .ok (.ldc 204, 2) := by decide +kernel
theorem dX12_sum_27 : decode cX12_sum 27 = .ok (.iload_n 1, 1) := by decide +kernel
theorem dX12_sum_28 : decode cX12_sum 28 = .ok (.iadd, 1) := by decide +kernel
theorem dX12_sum_29 : decode cX12_sum 29 = .ok (.invokevirtual 176, 3) := by decide +kernel
theorem dX12_sum_32 : decode cX12_sum 32 = .ok (.aload_n 0, 1) := by decide +kernel
theorem dX12_sum_33 : decode cX12_sum 33 = .ok (.iconst 5, 1) := by decide +kernel
theorem dX12_sum_34 : decode cX12_sum 34 = .ok (.bipush 6, 2) := by decide +kernel
theorem dX12_sum_36 : decode cX12_sum 36 = .ok (.invokevirtual 201, 3) := by decide +kernel
theorem dX12_sum_39 : decode cX12_sum 39 = .ok (.istore_n 1, 1) := by decide +kernel
theorem dX12_sum_40 : decode cX12_sum 40 = .ok (.goto (-28), 3) := by decide +kernel
theorem dX12_sum_43 : decode cX12_sum 43 = .ok (.return_, 1) := by decide +kernel
theorem dX12_test_0 : decode cX12_test 0 = .ok (.aload_n 0, 1) := by decide +kernel
theorem dX12_test_1 : decode cX12_test 1 = .ok (.invokevirtual 208, 3) := by decide +kernel
theorem dX12_test_4 : decode cX12_test 4 = .ok (.aload_n 0, 1) := by decide +kernel
theorem dX12_test_5 : decode cX12_test 5 = .ok (.iconst 2, 1) := by decide +kernel
theorem dX12_test_6 : decode cX12_test 6 = .ok (.iconst 4, 1) := by decide +kernel
theorem dX12_test_7 : decode cX12_test 7 = .ok (.invokevirtual 201, 3) := by decide +kernel
theorem dX12_test_10 : decode cX12_test 10 = .ok (.istore_n 1, 1) := by decide +kernel
theorem dX12_test_11 : decode cX12_test 11 = .ok (.iload_n 1, 1) := by decide +kernel
theorem dX12_test_12 : decode cX12_test 12 = .ok (.ifCond .lt 19, 3) := by decide +kernel
theorem dX12_test_15 : decode cX12_test 15 = .ok (.aload_n 0, 1) := by decide +kernel
theorem dX12_test_16 : decode cX12_test 16 = .ok (.invokevirtual 152, 3) := by decide +kernel
theorem dX12_test_19 : decode cX12_test 19 = .ok (.aload_n 0, 1) := by decide +kernel
theorem dX12_test_20 : decode cX12_test 20 = .ok (.invokevirtual 208, 3) := by decide +kernel
theorem dX12_test_23 : decode cX12_test 23 = .ok (.aload_n 0, 1) := by decide +kernel
theorem dX12_test_24 : decode cX12_test 24 = .ok (.ldc 204, 2) := by decide +kernel
theorem dX12_test_26 : decode cX12_test 26 = .ok (.iload_n 1, 1) := by decide +kernel
theorem dX12_test_27 : decode cX12_test 27 = .ok (.iadd, 1) := by decide +kernel
theorem dX12_test_28 : decode cX12_test 28 = .ok (.invokevirtual 176, 3) := by decide +kernel
theorem dX12_test_31 : decode cX12_test 31 = .ok (.return_, 1) := by decide +kernel
theorem dX12_both_0 : decode cX12_both 0 = .ok (.aload_n 0, 1) := by decide +kernel
theorem dX12_both_1 : decode cX12_both 1 = .ok (.invokevirtual 211, 3) := by decide +kernel
theorem dX12_both_4 : decode cX12_both 4 = .ok (.aload_n 0, 1) := by decide +kernel
theorem dX12_both_5 : decode cX12_both 5 = .ok (.iconst 1, 1) := by decide +kernel
theorem dX12_both_6 : decode cX12_both 6 = .ok (.iconst 1, 1) := by decide +kernel
theorem dX12_both_7 : decode cX12_both 7 = .ok (.invokevirtual 201, 3) := by decide +kernel
theorem dX12_both_10 : decode cX12_both 10 = .ok (.ifCond .lt 20, 3) := by decide +kernel
theorem dX12_both_13 : decode cX12_both 13 = .ok (.aload_n 0, 1) := by decide +kernel
theorem dX12_both_14 : decode cX12_both 14 = .ok (.invokevirtual 152, 3) := by decide +kernel
theorem dX12_both_17 : decode cX12_both 17 = .ok (.aload_n 0, 1) := by decide +kernel
theorem dX12_both_18 : decode cX12_both 18 = .ok (.invokevirtual 211, 3) := by decide +kernel
theorem dX12_both_21 : decode cX12_both 21 = .ok (.aload_n 0, 1) := by decide +kernel
theorem dX12_both_22 : decode cX12_both 22 = .ok (.ldc 214, 2) := by decide +kernel
theorem dX12_both_24 : decode cX12_both 24 = .ok (.invokevirtual 176, 3) := by decide +kernel
theorem dX12_both_27 : decode cX12_both 27 = .ok (.goto (-23), 3) := by decide +kernel
theorem dX12_both_30 : decode cX12_both 30 = .ok (.return_, 1) := by decide +kernel
theorem dX12_either_0 : decode cX12_either 0 = .ok (.aload_n 0, 1) := by decide +kernel
theorem dX12_either_1 : decode cX12_either 1 = .ok (.invokevirtual 215, 3) := by decide +kernel
theorem dX12_either_4 : decode cX12_either 4 = .ok (.aload_n 0, 1) := by decide +kernel
theorem dX12_either_5 : decode cX12_either 5 = .ok (.iconst 0, 1) := by decide +kernel
theorem dX12_either_6 : decode cX12_either 6 = .ok (.iconst 0, 1) := by decide +kernel
theorem dX12_either_7 : decode cX12_either 7 = .ok (.invokevirtual 201, 3) := by decide +kernel
theorem dX12_either_10 : decode cX12_either 10 = .ok (.ifCond .lt 20, 3) := by decide +kernel
theorem dX12_either_13 : decode cX12_either 13 = .ok (.aload_n 0, 1) := by decide +kernel
theorem dX12_either_14 : decode cX12_either 14 = .ok (.invokevirtual 152, 3) := by decide +kernel
theorem dX12_either_17 : decode cX12_either 17 = .ok (.aload_n 0, 1) := by decide +kernel
theorem dX12_either_18 : decode cX12_either 18 = .ok (.invokevirtual 215, 3) := by decide +kernel
theorem dX12_either_21 : decode cX12_either 21 = .ok (.aload_n 0, 1) := by decide +kernel
theorem dX12_either_22 : decode cX12_either 22 = .ok (.ldc 204, 2) := by decide +kernel
theorem dX12_either_24 : decode cX12_either 24 = .ok (.invokevirtual 176, 3) := by decide +kernel
theorem dX12_either_27 : decode cX12_either 27 = .ok (.goto (-23), 3) := by decide +kernel
theorem dX12_either_30 : decode cX12_either 30 = .ok (.return_, 1) := by decide +kernel
theorem dX12_lease_0 : decode cX12_lease 0 = .ok (.aload_n 0, 1) := by decide +kernel
theorem dX12_lease_1 : decode cX12_lease 1 = .ok (.iconst 0, 1) := by decide +kernel
theorem dX12_lease_2 : decode cX12_lease 2 = .ok (.putfield 136, 3) := by decide +kernel
theorem dX12_lease_5 : decode cX12_lease 5 = .ok (.aload_n 0, 1) := by decide +kernel
theorem dX12_lease_6 : decode cX12_lease 6 = .ok (.iconst 0, 1) := by decide +kernel
theorem dX12_lease_7 : decode cX12_lease 7 = .ok (.putfield 133, 3) := by decide +kernel
theorem dX12_lease_10 : decode cX12_lease 10 = .ok (.aload_n 0, 1) := by decide +kernel
theorem dX12_lease_11 : decode cX12_lease 11 = .ok (.iconst 0, 1) := by decide +kernel
theorem dX12_lease_12 : decode cX12_lease 12 = .ok (.putfield 148, 3) := by decide +kernel
theorem dX12_lease_15 : decode cX12_lease 15 = .ok (.aload_n 0, 1) := by decide +kernel
theorem dX12_lease_16 : decode cX12_lease 16 = .ok (.iconst 0, 1) := by decide +kernel
theorem dX12_lease_17 : decode cX12_lease 17 = .ok (.putfield 195, 3) := by decide +kernel
theorem dX12_lease_20 : decode cX12_lease 20 = .ok (.aload_n 0, 1) := by decide +kernel
theorem dX12_lease_21 : decode cX12_lease 21 = .ok (.iconst 0, 1) := by decide +kernel
theorem dX12_lease_22 : decode cX12_lease 22 = .ok (.putfield 188, 3) := by decide +kernel
theorem dX12_lease_25 : decode cX12_lease 25 = .ok (.aload_n 0, 1) := by decide +kernel
theorem dX12_lease_26 : decode cX12_lease 26 = .ok (.iconst 0, 1) := by decide +kernel
theorem dX12_lease_27 : decode cX12_lease 27 = .ok (.putfield 168, 3) := by decide +kernel
theorem dX12_lease_30 : decode cX12_lease 30 = .ok (.aload_n 0, 1) := by decide +kernel
theorem dX12_lease_31 : decode cX12_lease 31 = .ok (.iconst 0, 1) := by decide +kernel
theorem dX12_lease_32 : decode cX12_lease 32 = .ok (.putfield 179, 3) := by decide +kernel
theorem dX12_lease_35 : decode cX12_lease 35 = .ok (.aload_n 0, 1) := by decide +kernel
theorem dX12_lease_36 : decode cX12_lease 36 = .ok (.invokevirtual 152, 3) := by decide +kernel
theorem dX12_lease_39 : decode cX12_lease 39 = .ok (.aload_n 0, 1) := by decide +kernel
theorem dX12_lease_40 : decode cX12_lease 40 = .ok (.ldc 218, 2) := by decide +kernel
theorem dX12_lease_42 : decode cX12_lease 42 = .ok (.invokevirtual 220, 3) := by decide +kernel
theorem dX12_lease_45 : decode cX12_lease 45 = .ok (.aload_n 0, 1) := by decide +kernel
theorem dX12_lease_46 : decode cX12_lease 46 = .ok (.invokevirtual 198, 3) := by decide +kernel
theorem dX12_lease_49 : decode cX12_lease 49 = .ok (.aload_n 0, 1) := by decide +kernel
theorem dX12_lease_50 : decode cX12_lease 50 = .ok (.ldc 224, 2) := by decide +kernel
theorem dX12_lease_52 : decode cX12_lease 52 = .ok (.invokevirtual 176, 3) := by decide +kernel
theorem dX12_lease_55 : decode cX12_lease 55 = .ok (.aload_n 0, 1) := by decide +kernel
theorem dX12_lease_56 : decode cX12_lease 56 = .ok (.ldc 225, 2) := by decide +kernel
theorem dX12_lease_58 : decode cX12_lease 58 = .ok (.invokevirtual 220, 3) := by decide +kernel
theorem dX12_lease_61 : decode cX12_lease 61 = .ok (.aload_n 0, 1) := by decide +kernel
theorem dX12_lease_62 : decode cX12_lease 62 = .ok (.invokevirtual 198, 3) := by decide +kernel
theorem dX12_lease_65 : decode cX12_lease 65 = .ok (.aload_n 0, 1) := by decide +kernel
theorem dX12_lease_66 : decode cX12_lease 66 = .ok (.ldc 224, 2) := by decide +kernel
theorem dX12_lease_68 : decode cX12_lease 68 = .ok (.invokevirtual 176, 3) := by decide +kernel
theorem dX12_lease_71 : decode cX12_lease 71 = .ok (.aload_n 0, 1) := by decide +kernel
theorem dX12_lease_72 : decode cX12_lease 72 = .ok (.ldc 227, 2) := by decide +kernel
theorem dX12_lease_74 : decode cX12_lease 74 = .ok (.invokevirtual 220, 3) := by decide +kernel
theorem dX12_lease_77 : decode cX12_lease 77 = .ok (.aload_n 0, 1) := by decide +kernel
theorem dX12_lease_78 : decode cX12_lease 78 = .ok (.invokevirtual 198, 3) := by decide +kernel
theorem dX12_lease_81 : decode cX12_lease 81 = .ok (.aload_n 0, 1) := by decide +kernel
theorem dX12_lease_82 : decode cX12_lease 82 = .ok (.ldc 224, 2) := by decide +kernel
theorem dX12_lease_84 : decode cX12_lease 84 = .ok (.invokevirtual 176, 3) := by decide +kernel
theorem dX12_lease_87 : decode cX12_lease 87 = .ok (.aload_n 0, 1) := by decide +kernel
theorem dX12_lease_88 : decode cX12_lease 88 = .ok (.aload_n 0, 1) := by decide +kernel
theorem dX12_lease_89 : decode cX12_lease 89 = .ok (.getfield 148, 3) := by decide +kernel
theorem dX12_lease_92 : decode cX12_lease 92 = .ok (.ifCond .ne 10, 3) := by decide +kernel
theorem dX12_lease_95 : decode cX12_lease 95 = .ok (.aload_n 0, 1) := by decide +kernel
theorem dX12_lease_96 : decode cX12_lease 96 = .ok (.getfield 133, 3) := by decide +kernel
theorem dX12_lease_99 : decode cX12_lease 99 = .ok (.ifCond .eq 7, 3) := by decide +kernel
theorem dX12_lease_102 : decode cX12_lease 102 = .ok (.iconst 1, 1) := by decide +kernel
theorem dX12_lease_103 : decode cX12_lease 103 = .ok (.goto 4, 3) := by decide +kernel
theorem dX12_lease_106 : decode cX12_lease 106 = .ok (.iconst 0, 1) := by decide +kernel
theorem dX12_lease_107 : decode cX12_lease 107 = .ok (.putfield 148, 3) := by decide +kernel
theorem dX12_lease_110 : decode cX12_lease 110 = .ok (.aload_n 0, 1) := by decide +kernel
theorem dX12_lease_111 : decode cX12_lease 111 = .ok (.getfield 139, 3) := by decide +kernel
theorem dX12_lease_114 : decode cX12_lease 114 = .ok (.istore_n 2, 1) := by decide +kernel
theorem dX12_lease_115 : decode cX12_lease 115 = .ok (.aload_n 0, 1) := by decide +kernel
theorem dX12_lease_116 : decode cX12_lease 116 = .ok (.iconst 0, 1) := by decide +kernel
theorem dX12_lease_117 : decode cX12_lease 117 = .ok (.putfield 129, 3) := by decide +kernel
theorem dX12_lease_120 : decode cX12_lease 120 = .ok (.aload_n 0, 1) := by decide +kernel
theorem dX12_lease_121 : decode cX12_lease 121 = .ok (.iload_n 1, 1) := by decide +kernel
theorem dX12_lease_122 : decode cX12_lease 122 = .ok (.invokevirtual 65, 3) := by decide +kernel
theorem dX12_lease_125 : decode cX12_lease 125 = .ok (.ifCond .ne 6, 3) := by decide +kernel
theorem dX12_lease_128 : decode cX12_lease 128 = .ok (.ldc 57, 2) := by decide +kernel
theorem dX12_lease_130 : decode cX12_lease 130 = .ok (.ireturn, 1) := by decide +kernel
theorem dX12_lease_131 : decode cX12_lease 131 = .ok (.aload_n 0, 1) := by decide +kernel
theorem dX12_lease_132 : decode cX12_lease 132 = .ok (.getfield 148, 3) := by decide +kernel
theorem dX12_lease_135 : decode cX12_lease 135 = .ok (.ifCond .eq 8, 3) := by decide +kernel
theorem dX12_lease_138 : decode cX12_lease 138 = .ok (.bipush (-100), 2) := by decide +kernel
theorem dX12_lease_140 : decode cX12_lease 140 = .ok (.iload_n 2, 1) := by decide +kernel
theorem dX12_lease_141 : decode cX12_lease 141 = .ok (.isub, 1) := by decide +kernel
theorem dX12_lease_142 : decode cX12_lease 142 = .ok (.ireturn, 1) := by decide +kernel
theorem dX12_lease_143 : decode cX12_lease 143 = .ok (.iconst 0, 1) := by decide +kernel
theorem dX12_lease_144 : decode cX12_lease 144 = .ok (.istore_n 3, 1) := by decide +kernel
theorem dX12_lease_145 : decode cX12_lease 145 = .ok (.iload_n 3, 1) := by decide +kernel
theorem dX12_lease_146 : decode cX12_lease 146 = .ok (.aload_n 0, 1) := by decide +kernel
theorem dX12_lease_147 : decode cX12_lease 147 = .ok (.getfield 168, 3) := by decide +kernel
theorem dX12_lease_150 : decode cX12_lease 150 = .ok (.if_icmp .ge 31, 3) := by decide +kernel
theorem dX12_lease_153 : decode cX12_lease 153 = .ok (.aload_n 0, 1) := by decide +kernel
theorem dX12_lease_154 : decode cX12_lease 154 = .ok (.getfield 9, 3) := by decide +kernel
theorem dX12_lease_157 : decode cX12_lease 157 = .ok (.sipush 540, 3) := by decide +kernel
theorem dX12_lease_160 : decode cX12_lease 160 = .ok (.sipush 140, 3) := by decide +kernel
theorem dX12_lease_163 : decode cX12_lease 163 = .ok (.iload_n 1, 1) := by decide +kernel
theorem dX12_lease_164 : decode cX12_lease 164 = .ok (.imul, 1) := by decide +kernel
theorem dX12_lease_165 : decode cX12_lease 165 = .ok (.iadd, 1) := by decide +kernel
theorem dX12_lease_166 : decode cX12_lease 166 = .ok (.iload_n 3, 1) := by decide +kernel
theorem dX12_lease_167 : decode cX12_lease 167 = .ok (.iadd, 1) := by decide +kernel
theorem dX12_lease_168 : decode cX12_lease 168 = .ok (.aload_n 0, 1) := by decide +kernel
theorem dX12_lease_169 : decode cX12_lease 169 = .ok (.getfield 31, 3) := by decide +kernel
theorem dX12_lease_172 : decode cX12_lease 172 = .ok (.iload_n 3, 1) := by decide +kernel
theorem dX12_lease_173 : decode cX12_lease 173 = .ok (.iaload, 1) := by decide +kernel
theorem dX12_lease_174 : decode cX12_lease 174 = .ok (.iastore, 1) := by decide +kernel
theorem dX12_lease_175 : decode cX12_lease 175 = .ok (.iinc 3 1, 3) := by decide +kernel
theorem dX12_lease_178 : decode cX12_lease 178 = .ok (.goto (-33), 3) := by decide +kernel
theorem dX12_lease_181 : decode cX12_lease 181 = .ok (.aload_n 0, 1) := by decide +kernel
theorem dX12_lease_182 : decode cX12_lease 182 = .ok (.getfield 9, 3) := by decide +kernel
theorem dX12_lease_185 : decode cX12_lease 185 = .ok (.iload_n 1, 1) := by decide +kernel
theorem dX12_lease_186 : decode cX12_lease 186 = .ok (.bipush 7, 2) := by decide +kernel
theorem dX12_lease_188 : decode cX12_lease 188 = .ok (.invokestatic 61, 3) := by decide +kernel
theorem dX12_lease_191 : decode cX12_lease 191 = .ok (.aload_n 0, 1) := by decide +kernel
theorem dX12_lease_192 : decode cX12_lease 192 = .ok (.getfield 179, 3) := by decide +kernel
theorem dX12_lease_195 : decode cX12_lease 195 = .ok (.iastore, 1) := by decide +kernel
theorem dX12_lease_196 : decode cX12_lease 196 = .ok (.aload_n 0, 1) := by decide +kernel
theorem dX12_lease_197 : decode cX12_lease 197 = .ok (.getfield 179, 3) := by decide +kernel
theorem dX12_lease_200 : decode cX12_lease 200 = .ok (.ireturn, 1) := by decide +kernel
theorem dX12_named_0 : decode cX12_named 0 = .ok (.iload_n 1, 1) := by decide +kernel
theorem dX12_named_1 : decode cX12_named 1 = .ok (.tableswitch 129 0 8 #[51, 60, 75, 82, 89, 100, 111, 119, 121], 51) := by decide +kernel
theorem dX12_named_52 : decode cX12_named 52 = .ok (.aload_n 0, 1) := by decide +kernel
theorem dX12_named_53 : decode cX12_named 53 = .ok (.iload_n 2, 1) := by decide +kernel
theorem dX12_named_54 : decode cX12_named 54 = .ok (.iload_n 3, 1) := by decide +kernel
theorem dX12_named_55 : decode cX12_named 55 = .ok (.iload 4, 2) := by decide +kernel
theorem dX12_named_57 : decode cX12_named 57 = .ok (.invokevirtual 124, 3) := by decide +kernel
theorem dX12_named_60 : decode cX12_named 60 = .ok (.ireturn, 1) := by decide +kernel
theorem dX12_named_61 : decode cX12_named 61 = .ok (.aload_n 0, 1) := by decide +kernel
theorem dX12_named_62 : decode cX12_named 62 = .ok (.getfield 9, 3) := by decide +kernel
theorem dX12_named_65 : decode cX12_named 65 = .ok (.bipush 10, 2) := by decide +kernel
theorem dX12_named_67 : decode cX12_named 67 = .ok (.aload_n 0, 1) := by decide +kernel
theorem dX12_named_68 : decode cX12_named 68 = .ok (.getfield 28, 3) := by decide +kernel
theorem dX12_named_71 : decode cX12_named 71 = .ok (.iload_n 2, 1) := by decide +kernel
theorem dX12_named_72 : decode cX12_named 72 = .ok (.iaload, 1) := by decide +kernel
theorem dX12_named_73 : decode cX12_named 73 = .ok (.iadd, 1) := by decide +kernel
theorem dX12_named_74 : decode cX12_named 74 = .ok (.iaload, 1) := by decide +kernel
theorem dX12_named_75 : decode cX12_named 75 = .ok (.ireturn, 1) := by decide +kernel
theorem dX12_named_76 : decode cX12_named 76 = .ok (.aload_n 0, 1) := by decide +kernel
theorem dX12_named_77 : decode cX12_named 77 = .ok (.iload_n 2, 1) := by decide +kernel
theorem dX12_named_78 : decode cX12_named 78 = .ok (.iconst 5, 1) := by decide +kernel
theorem dX12_named_79 : decode cX12_named 79 = .ok (.invokevirtual 116, 3) := by decide +kernel
theorem dX12_named_82 : decode cX12_named 82 = .ok (.ireturn, 1) := by decide +kernel
theorem dX12_named_83 : decode cX12_named 83 = .ok (.aload_n 0, 1) := by decide +kernel
theorem dX12_named_84 : decode cX12_named 84 = .ok (.iload_n 2, 1) := by decide +kernel
theorem dX12_named_85 : decode cX12_named 85 = .ok (.iconst 4, 1) := by decide +kernel
theorem dX12_named_86 : decode cX12_named 86 = .ok (.invokevirtual 116, 3) := by decide +kernel
theorem dX12_named_89 : decode cX12_named 89 = .ok (.ireturn, 1) := by decide +kernel
theorem dX12_named_90 : decode cX12_named 90 = .ok (.aload_n 0, 1) := by decide +kernel
theorem dX12_named_91 : decode cX12_named 91 = .ok (.aload_n 0, 1) := by decide +kernel
theorem dX12_named_92 : decode cX12_named 92 = .ok (.getfield 28, 3) := by decide +kernel
theorem dX12_named_95 : decode cX12_named 95 = .ok (.iload_n 2, 1) := by decide +kernel
theorem dX12_named_96 : decode cX12_named 96 = .ok (.iaload, 1) := by decide +kernel
theorem dX12_named_97 : decode cX12_named 97 = .ok (.invokevirtual 104, 3) := by decide +kernel
theorem dX12_named_100 : decode cX12_named 100 = .ok (.ireturn, 1) := by decide +kernel
theorem dX12_named_101 : decode cX12_named 101 = .ok (.aload_n 0, 1) := by decide +kernel
theorem dX12_named_102 : decode cX12_named 102 = .ok (.getfield 9, 3) := by decide +kernel
theorem dX12_named_105 : decode cX12_named 105 = .ok (.iload_n 2, 1) := by decide +kernel
theorem dX12_named_106 : decode cX12_named 106 = .ok (.iconst 0, 1) := by decide +kernel
theorem dX12_named_107 : decode cX12_named 107 = .ok (.invokestatic 61, 3) := by decide +kernel
theorem dX12_named_110 : decode cX12_named 110 = .ok (.iaload, 1) := by decide +kernel
theorem dX12_named_111 : decode cX12_named 111 = .ok (.ireturn, 1) := by decide +kernel
theorem dX12_named_112 : decode cX12_named 112 = .ok (.aload_n 0, 1) := by decide +kernel
theorem dX12_named_113 : decode cX12_named 113 = .ok (.iload_n 2, 1) := by decide +kernel
theorem dX12_named_114 : decode cX12_named 114 = .ok (.bipush 6, 2) := by decide +kernel
theorem dX12_named_116 : decode cX12_named 116 = .ok (.invokevirtual 116, 3) := by decide +kernel
theorem dX12_named_119 : decode cX12_named 119 = .ok (.ireturn, 1) := by decide +kernel
theorem dX12_named_120 : decode cX12_named 120 = .ok (.iload_n 3, 1) := by decide +kernel
theorem dX12_named_121 : decode cX12_named 121 = .ok (.ireturn, 1) := by decide +kernel
theorem dX12_named_122 : decode cX12_named 122 = .ok (.aload_n 0, 1) := by decide +kernel
theorem dX12_named_123 : decode cX12_named 123 = .ok (.iload_n 2, 1) := by decide +kernel
theorem dX12_named_124 : decode cX12_named 124 = .ok (.bipush 7, 2) := by decide +kernel
theorem dX12_named_126 : decode cX12_named 126 = .ok (.invokevirtual 116, 3) := by decide +kernel
theorem dX12_named_129 : decode cX12_named 129 = .ok (.ireturn, 1) := by decide +kernel
theorem dX12_named_130 : decode cX12_named 130 = .ok (.aload_n 0, 1) := by decide +kernel
theorem dX12_named_131 : decode cX12_named 131 = .ok (.iload_n 2, 1) := by decide +kernel
theorem dX12_named_132 : decode cX12_named 132 = .ok (.invokevirtual 101, 3) := by decide +kernel
theorem dX12_named_135 : decode cX12_named 135 = .ok (.ireturn, 1) := by decide +kernel
theorem dX12_done_0 : decode cX12_done 0 = .ok (.iload_n 0, 1) := by decide +kernel
theorem dX12_done_1 : decode cX12_done 1 = .ok (.tableswitch 120 0 7 #[47, 61, 75, 86, 97, 108, 112, 116], 47) := by decide +kernel
theorem dX12_done_48 : decode cX12_done 48 = .ok (.iload_n 1, 1) := by decide +kernel
theorem dX12_done_49 : decode cX12_done 49 = .ok (.ifCond .ne 7, 3) := by decide +kernel
theorem dX12_done_52 : decode cX12_done 52 = .ok (.iload_n 2, 1) := by decide +kernel
theorem dX12_done_53 : decode cX12_done 53 = .ok (.ifCond .eq 7, 3) := by decide +kernel
theorem dX12_done_56 : decode cX12_done 56 = .ok (.iconst 1, 1) := by decide +kernel
theorem dX12_done_57 : decode cX12_done 57 = .ok (.goto 4, 3) := by decide +kernel
theorem dX12_done_60 : decode cX12_done 60 = .ok (.iconst 0, 1) := by decide +kernel
theorem dX12_done_61 : decode cX12_done 61 = .ok (.ireturn, 1) := by decide +kernel
theorem dX12_done_62 : decode cX12_done 62 = .ok (.iload_n 1, 1) := by decide +kernel
theorem dX12_done_63 : decode cX12_done 63 = .ok (.ifCond .eq 11, 3) := by decide +kernel
theorem dX12_done_66 : decode cX12_done 66 = .ok (.iload_n 2, 1) := by decide +kernel
theorem dX12_done_67 : decode cX12_done 67 = .ok (.ifCond .eq 7, 3) := by decide +kernel
theorem dX12_done_70 : decode cX12_done 70 = .ok (.iconst 1, 1) := by decide +kernel
theorem dX12_done_71 : decode cX12_done 71 = .ok (.goto 4, 3) := by decide +kernel
theorem dX12_done_74 : decode cX12_done 74 = .ok (.iconst 0, 1) := by decide +kernel
theorem dX12_done_75 : decode cX12_done 75 = .ok (.ireturn, 1) := by decide +kernel
theorem dX12_done_76 : decode cX12_done 76 = .ok (.iload_n 1, 1) := by decide +kernel
theorem dX12_done_77 : decode cX12_done 77 = .ok (.iload_n 2, 1) := by decide +kernel
theorem dX12_done_78 : decode cX12_done 78 = .ok (.if_icmp .ge 7, 3) := by decide +kernel
theorem dX12_done_81 : decode cX12_done 81 = .ok (.iconst 1, 1) := by decide +kernel
theorem dX12_done_82 : decode cX12_done 82 = .ok (.goto 4, 3) := by decide +kernel
theorem dX12_done_85 : decode cX12_done 85 = .ok (.iconst 0, 1) := by decide +kernel
theorem dX12_done_86 : decode cX12_done 86 = .ok (.ireturn, 1) := by decide +kernel
theorem dX12_done_87 : decode cX12_done 87 = .ok (.iload_n 1, 1) := by decide +kernel
theorem dX12_done_88 : decode cX12_done 88 = .ok (.iload_n 2, 1) := by decide +kernel
theorem dX12_done_89 : decode cX12_done 89 = .ok (.if_icmp .ne 7, 3) := by decide +kernel
theorem dX12_done_92 : decode cX12_done 92 = .ok (.iconst 1, 1) := by decide +kernel
theorem dX12_done_93 : decode cX12_done 93 = .ok (.goto 4, 3) := by decide +kernel
theorem dX12_done_96 : decode cX12_done 96 = .ok (.iconst 0, 1) := by decide +kernel
theorem dX12_done_97 : decode cX12_done 97 = .ok (.ireturn, 1) := by decide +kernel
theorem dX12_done_98 : decode cX12_done 98 = .ok (.iload_n 1, 1) := by decide +kernel
theorem dX12_done_99 : decode cX12_done 99 = .ok (.iload_n 2, 1) := by decide +kernel
theorem dX12_done_100 : decode cX12_done 100 = .ok (.if_icmp .le 7, 3) := by decide +kernel
theorem dX12_done_103 : decode cX12_done 103 = .ok (.iconst 1, 1) := by decide +kernel
theorem dX12_done_104 : decode cX12_done 104 = .ok (.goto 4, 3) := by decide +kernel
theorem dX12_done_107 : decode cX12_done 107 = .ok (.iconst 0, 1) := by decide +kernel
theorem dX12_done_108 : decode cX12_done 108 = .ok (.ireturn, 1) := by decide +kernel
theorem dX12_done_109 : decode cX12_done 109 = .ok (.iload_n 1, 1) := by decide +kernel
theorem dX12_done_110 : decode cX12_done 110 = .ok (.iload_n 2, 1) := by decide +kernel
theorem dX12_done_111 : decode cX12_done 111 = .ok (.iadd, 1) := by decide +kernel
theorem dX12_done_112 : decode cX12_done 112 = .ok (.ireturn, 1) := by decide +kernel
theorem dX12_done_113 : decode cX12_done 113 = .ok (.iload_n 1, 1) := by decide +kernel
theorem dX12_done_114 : decode cX12_done 114 = .ok (.iload_n 2, 1) := by decide +kernel
theorem dX12_done_115 : decode cX12_done 115 = .ok (.isub, 1) := by decide +kernel
theorem dX12_done_116 : decode cX12_done 116 = .ok (.ireturn, 1) := by decide +kernel
theorem dX12_done_117 : decode cX12_done 117 = .ok (.iload_n 1, 1) := by decide +kernel
theorem dX12_done_118 : decode cX12_done 118 = .ok (.iload_n 2, 1) := by decide +kernel
theorem dX12_done_119 : decode cX12_done 119 = .ok (.imul, 1) := by decide +kernel
theorem dX12_done_120 : decode cX12_done 120 = .ok (.ireturn, 1) := by decide +kernel
theorem dX12_done_121 : decode cX12_done 121 = .ok (.iload_n 2, 1) := by decide +kernel
theorem dX12_done_122 : decode cX12_done 122 = .ok (.ifCond .ne 7, 3) := by decide +kernel
theorem dX12_done_125 : decode cX12_done 125 = .ok (.iconst 0, 1) := by decide +kernel
theorem dX12_done_126 : decode cX12_done 126 = .ok (.goto 6, 3) := by decide +kernel
theorem dX12_done_129 : decode cX12_done 129 = .ok (.iload_n 1, 1) := by decide +kernel
theorem dX12_done_130 : decode cX12_done 130 = .ok (.iload_n 2, 1) := by decide +kernel
theorem dX12_done_131 : decode cX12_done 131 = .ok (.idiv, 1) := by decide +kernel
theorem dX12_done_132 : decode cX12_done 132 = .ok (.ireturn, 1) := by decide +kernel
theorem dX12_worked_0 : decode cX12_worked 0 = .ok (.sipush 540, 3) := by decide +kernel
theorem dX12_worked_3 : decode cX12_worked 3 = .ok (.sipush 140, 3) := by decide +kernel
theorem dX12_worked_6 : decode cX12_worked 6 = .ok (.iload_n 1, 1) := by decide +kernel
theorem dX12_worked_7 : decode cX12_worked 7 = .ok (.imul, 1) := by decide +kernel
theorem dX12_worked_8 : decode cX12_worked 8 = .ok (.iadd, 1) := by decide +kernel
theorem dX12_worked_9 : decode cX12_worked 9 = .ok (.istore 5, 2) := by decide +kernel
theorem dX12_worked_11 : decode cX12_worked 11 = .ok (.iload_n 2, 1) := by decide +kernel
theorem dX12_worked_12 : decode cX12_worked 12 = .ok (.istore 6, 2) := by decide +kernel
theorem dX12_worked_14 : decode cX12_worked 14 = .ok (.iload 6, 2) := by decide +kernel
theorem dX12_worked_16 : decode cX12_worked 16 = .ok (.ifCond .le 31, 3) := by decide +kernel
theorem dX12_worked_19 : decode cX12_worked 19 = .ok (.iload 6, 2) := by decide +kernel
theorem dX12_worked_21 : decode cX12_worked 21 = .ok (.aload_n 0, 1) := by decide +kernel
theorem dX12_worked_22 : decode cX12_worked 22 = .ok (.getfield 9, 3) := by decide +kernel
theorem dX12_worked_25 : decode cX12_worked 25 = .ok (.iload 5, 2) := by decide +kernel
theorem dX12_worked_27 : decode cX12_worked 27 = .ok (.iaload, 1) := by decide +kernel
theorem dX12_worked_28 : decode cX12_worked 28 = .ok (.ldc 224, 2) := by decide +kernel
theorem dX12_worked_30 : decode cX12_worked 30 = .ok (.if_icmp .ne 7, 3) := by decide +kernel
theorem dX12_worked_33 : decode cX12_worked 33 = .ok (.iconst 1, 1) := by decide +kernel
theorem dX12_worked_34 : decode cX12_worked 34 = .ok (.goto 4, 3) := by decide +kernel
theorem dX12_worked_37 : decode cX12_worked 37 = .ok (.iconst 0, 1) := by decide +kernel
theorem dX12_worked_38 : decode cX12_worked 38 = .ok (.isub, 1) := by decide +kernel
theorem dX12_worked_39 : decode cX12_worked 39 = .ok (.istore 6, 2) := by decide +kernel
theorem dX12_worked_41 : decode cX12_worked 41 = .ok (.iinc 5 1, 3) := by decide +kernel
theorem dX12_worked_44 : decode cX12_worked 44 = .ok (.goto (-30), 3) := by decide +kernel
theorem dX12_worked_47 : decode cX12_worked 47 = .ok (.iconst 0, 1) := by decide +kernel
theorem dX12_worked_48 : decode cX12_worked 48 = .ok (.istore 7, 2) := by decide +kernel
theorem dX12_worked_50 : decode cX12_worked 50 = .ok (.aload_n 0, 1) := by decide +kernel
theorem dX12_worked_51 : decode cX12_worked 51 = .ok (.getfield 9, 3) := by decide +kernel
theorem dX12_worked_54 : decode cX12_worked 54 = .ok (.iload 5, 2) := by decide +kernel
theorem dX12_worked_56 : decode cX12_worked 56 = .ok (.iaload, 1) := by decide +kernel
theorem dX12_worked_57 : decode cX12_worked 57 = .ok (.ldc 224, 2) := by decide +kernel
theorem dX12_worked_59 : decode cX12_worked 59 = .ok (.if_icmp .eq 135, 3) := by decide +kernel
theorem dX12_worked_62 : decode cX12_worked 62 = .ok (.aload_n 0, 1) := by decide +kernel
theorem dX12_worked_63 : decode cX12_worked 63 = .ok (.getfield 9, 3) := by decide +kernel
theorem dX12_worked_66 : decode cX12_worked 66 = .ok (.iload 5, 2) := by decide +kernel
theorem dX12_worked_68 : decode cX12_worked 68 = .ok (.iaload, 1) := by decide +kernel
theorem dX12_worked_69 : decode cX12_worked 69 = .ok (.istore 8, 2) := by decide +kernel
theorem dX12_worked_71 : decode cX12_worked 71 = .ok (.iinc 5 1, 3) := by decide +kernel
theorem dX12_worked_74 : decode cX12_worked 74 = .ok (.iload 8, 2) := by decide +kernel
theorem dX12_worked_76 : decode cX12_worked 76 = .ok (.ldc 204, 2) := by decide +kernel
theorem dX12_worked_78 : decode cX12_worked 78 = .ok (.if_icmp .ge 41, 3) := by decide +kernel
theorem dX12_worked_81 : decode cX12_worked 81 = .ok (.aload_n 0, 1) := by decide +kernel
theorem dX12_worked_82 : decode cX12_worked 82 = .ok (.getfield 34, 3) := by decide +kernel
theorem dX12_worked_85 : decode cX12_worked 85 = .ok (.iload 7, 2) := by decide +kernel
theorem dX12_worked_87 : decode cX12_worked 87 = .ok (.iload 8, 2) := by decide +kernel
theorem dX12_worked_89 : decode cX12_worked 89 = .ok (.ldc 187, 2) := by decide +kernel
theorem dX12_worked_91 : decode cX12_worked 91 = .ok (.if_icmp .ge 8, 3) := by decide +kernel
theorem dX12_worked_94 : decode cX12_worked 94 = .ok (.iload 8, 2) := by decide +kernel
theorem dX12_worked_96 : decode cX12_worked 96 = .ok (.goto 16, 3) := by decide +kernel
theorem dX12_worked_99 : decode cX12_worked 99 = .ok (.aload_n 0, 1) := by decide +kernel
theorem dX12_worked_100 : decode cX12_worked 100 = .ok (.iload 8, 2) := by decide +kernel
theorem dX12_worked_102 : decode cX12_worked 102 = .ok (.ldc 187, 2) := by decide +kernel
theorem dX12_worked_104 : decode cX12_worked 104 = .ok (.isub, 1) := by decide +kernel
theorem dX12_worked_105 : decode cX12_worked 105 = .ok (.iload_n 1, 1) := by decide +kernel
theorem dX12_worked_106 : decode cX12_worked 106 = .ok (.iload_n 3, 1) := by decide +kernel
theorem dX12_worked_107 : decode cX12_worked 107 = .ok (.iload 4, 2) := by decide +kernel
theorem dX12_worked_109 : decode cX12_worked 109 = .ok (.invokevirtual 229, 3) := by decide +kernel
theorem dX12_worked_112 : decode cX12_worked 112 = .ok (.iastore, 1) := by decide +kernel
theorem dX12_worked_113 : decode cX12_worked 113 = .ok (.iinc 7 1, 3) := by decide +kernel
theorem dX12_worked_116 : decode cX12_worked 116 = .ok (.goto 75, 3) := by decide +kernel
theorem dX12_worked_119 : decode cX12_worked 119 = .ok (.iload 8, 2) := by decide +kernel
theorem dX12_worked_121 : decode cX12_worked 121 = .ok (.ldc 194, 2) := by decide +kernel
theorem dX12_worked_123 : decode cX12_worked 123 = .ok (.if_icmp .ne 32, 3) := by decide +kernel
theorem dX12_worked_126 : decode cX12_worked 126 = .ok (.aload_n 0, 1) := by decide +kernel
theorem dX12_worked_127 : decode cX12_worked 127 = .ok (.getfield 34, 3) := by decide +kernel
theorem dX12_worked_130 : decode cX12_worked 130 = .ok (.iload 7, 2) := by decide +kernel
theorem dX12_worked_132 : decode cX12_worked 132 = .ok (.iconst 1, 1) := by decide +kernel
theorem dX12_worked_133 : decode cX12_worked 133 = .ok (.isub, 1) := by decide +kernel
theorem dX12_worked_134 : decode cX12_worked 134 = .ok (.aload_n 0, 1) := by decide +kernel
theorem dX12_worked_135 : decode cX12_worked 135 = .ok (.getfield 34, 3) := by decide +kernel
theorem dX12_worked_138 : decode cX12_worked 138 = .ok (.iload 7, 2) := by decide +kernel
theorem dX12_worked_140 : decode cX12_worked 140 = .ok (.iconst 1, 1) := by decide +kernel
theorem dX12_worked_141 : decode cX12_worked 141 = .ok (.isub, 1) := by decide +kernel
theorem dX12_worked_142 : decode cX12_worked 142 = .ok (.iaload, 1) := by decide +kernel
theorem dX12_worked_143 : decode cX12_worked 143 = .ok (.ifCond .ne 7, 3) := by decide +kernel
theorem dX12_worked_146 : decode cX12_worked 146 = .ok (.iconst 1, 1) := by decide +kernel
theorem dX12_worked_147 : decode cX12_worked 147 = .ok (.goto 4, 3) := by decide +kernel
theorem dX12_worked_150 : decode cX12_worked 150 = .ok (.iconst 0, 1) := by decide +kernel
theorem dX12_worked_151 : decode cX12_worked 151 = .ok (.iastore, 1) := by decide +kernel
theorem dX12_worked_152 : decode cX12_worked 152 = .ok (.goto 39, 3) := by decide +kernel
theorem dX12_worked_155 : decode cX12_worked 155 = .ok (.iinc 7 (-1), 3) := by decide +kernel
theorem dX12_worked_158 : decode cX12_worked 158 = .ok (.aload_n 0, 1) := by decide +kernel
theorem dX12_worked_159 : decode cX12_worked 159 = .ok (.getfield 34, 3) := by decide +kernel
theorem dX12_worked_162 : decode cX12_worked 162 = .ok (.iload 7, 2) := by decide +kernel
theorem dX12_worked_164 : decode cX12_worked 164 = .ok (.iconst 1, 1) := by decide +kernel
theorem dX12_worked_165 : decode cX12_worked 165 = .ok (.isub, 1) := by decide +kernel
theorem dX12_worked_166 : decode cX12_worked 166 = .ok (.iload 8, 2) := by decide +kernel
theorem dX12_worked_168 : decode cX12_worked 168 = .ok (.ldc 204, 2) := by decide +kernel
theorem dX12_worked_170 : decode cX12_worked 170 = .ok (.isub, 1) := by decide +kernel
theorem dX12_worked_171 : decode cX12_worked 171 = .ok (.aload_n 0, 1) := by decide +kernel
theorem dX12_worked_172 : decode cX12_worked 172 = .ok (.getfield 34, 3) := by decide +kernel
theorem dX12_worked_175 : decode cX12_worked 175 = .ok (.iload 7, 2) := by decide +kernel
theorem dX12_worked_177 : decode cX12_worked 177 = .ok (.iconst 1, 1) := by decide +kernel
theorem dX12_worked_178 : decode cX12_worked 178 = .ok (.isub, 1) := by decide +kernel
theorem dX12_worked_179 : decode cX12_worked 179 = .ok (.iaload, 1) := by decide +kernel
theorem dX12_worked_180 : decode cX12_worked 180 = .ok (.aload_n 0, 1) := by decide +kernel
theorem dX12_worked_181 : decode cX12_worked 181 = .ok (.getfield 34, 3) := by decide +kernel
theorem dX12_worked_184 : decode cX12_worked 184 = .ok (.iload 7, 2) := by decide +kernel
theorem dX12_worked_186 : decode cX12_worked 186 = .ok (.iaload, 1) := by decide +kernel
theorem dX12_worked_187 : decode cX12_worked 187 = .ok (.invokestatic 233, 3) := by decide +kernel
theorem dX12_worked_190 : decode cX12_worked 190 = .ok (.iastore, 1) := by decide +kernel
theorem dX12_worked_191 : decode cX12_worked 191 = .ok (.goto (-141), 3) := by decide +kernel
theorem dX12_worked_194 : decode cX12_worked 194 = .ok (.aload_n 0, 1) := by decide +kernel
theorem dX12_worked_195 : decode cX12_worked 195 = .ok (.getfield 34, 3) := by decide +kernel
theorem dX12_worked_198 : decode cX12_worked 198 = .ok (.iconst 0, 1) := by decide +kernel
theorem dX12_worked_199 : decode cX12_worked 199 = .ok (.iaload, 1) := by decide +kernel
theorem dX12_worked_200 : decode cX12_worked 200 = .ok (.ireturn, 1) := by decide +kernel
theorem dX12_hasLease_0 : decode cX12_hasLease 0 = .ok (.aload_n 0, 1) := by decide +kernel
theorem dX12_hasLease_1 : decode cX12_hasLease 1 = .ok (.getfield 9, 3) := by decide +kernel
theorem dX12_hasLease_4 : decode cX12_hasLease 4 = .ok (.iload_n 1, 1) := by decide +kernel
theorem dX12_hasLease_5 : decode cX12_hasLease 5 = .ok (.bipush 7, 2) := by decide +kernel
theorem dX12_hasLease_7 : decode cX12_hasLease 7 = .ok (.invokestatic 61, 3) := by decide +kernel
theorem dX12_hasLease_10 : decode cX12_hasLease 10 = .ok (.iaload, 1) := by decide +kernel
theorem dX12_hasLease_11 : decode cX12_hasLease 11 = .ok (.ifCond .le 7, 3) := by decide +kernel
theorem dX12_hasLease_14 : decode cX12_hasLease 14 = .ok (.iconst 1, 1) := by decide +kernel
theorem dX12_hasLease_15 : decode cX12_hasLease 15 = .ok (.goto 4, 3) := by decide +kernel
theorem dX12_hasLease_18 : decode cX12_hasLease 18 = .ok (.iconst 0, 1) := by decide +kernel
theorem dX12_hasLease_19 : decode cX12_hasLease 19 = .ok (.ireturn, 1) := by decide +kernel
theorem dX12_rentOf_0 : decode cX12_rentOf 0 = .ok (.aload_n 0, 1) := by decide +kernel
theorem dX12_rentOf_1 : decode cX12_rentOf 1 = .ok (.getfield 28, 3) := by decide +kernel
theorem dX12_rentOf_4 : decode cX12_rentOf 4 = .ok (.iload_n 1, 1) := by decide +kernel
theorem dX12_rentOf_5 : decode cX12_rentOf 5 = .ok (.iaload, 1) := by decide +kernel
theorem dX12_rentOf_6 : decode cX12_rentOf 6 = .ok (.ifCond .lt 11, 3) := by decide +kernel
theorem dX12_rentOf_9 : decode cX12_rentOf 9 = .ok (.aload_n 0, 1) := by decide +kernel
theorem dX12_rentOf_10 : decode cX12_rentOf 10 = .ok (.iload_n 1, 1) := by decide +kernel
theorem dX12_rentOf_11 : decode cX12_rentOf 11 = .ok (.invokevirtual 236, 3) := by decide +kernel
theorem dX12_rentOf_14 : decode cX12_rentOf 14 = .ok (.ifCond .ne 5, 3) := by decide +kernel
theorem dX12_rentOf_17 : decode cX12_rentOf 17 = .ok (.iconst 0, 1) := by decide +kernel
theorem dX12_rentOf_18 : decode cX12_rentOf 18 = .ok (.ireturn, 1) := by decide +kernel
theorem dX12_rentOf_19 : decode cX12_rentOf 19 = .ok (.iconst 0, 1) := by decide +kernel
theorem dX12_rentOf_20 : decode cX12_rentOf 20 = .ok (.ldc 60, 2) := by decide +kernel
theorem dX12_rentOf_22 : decode cX12_rentOf 22 = .ok (.aload_n 0, 1) := by decide +kernel
theorem dX12_rentOf_23 : decode cX12_rentOf 23 = .ok (.iload_n 1, 1) := by decide +kernel
theorem dX12_rentOf_24 : decode cX12_rentOf 24 = .ok (.iconst 0, 1) := by decide +kernel
theorem dX12_rentOf_25 : decode cX12_rentOf 25 = .ok (.iload_n 2, 1) := by decide +kernel
theorem dX12_rentOf_26 : decode cX12_rentOf 26 = .ok (.iload_n 3, 1) := by decide +kernel
theorem dX12_rentOf_27 : decode cX12_rentOf 27 = .ok (.invokevirtual 239, 3) := by decide +kernel
theorem dX12_rentOf_30 : decode cX12_rentOf 30 = .ok (.invokestatic 93, 3) := by decide +kernel
theorem dX12_rentOf_33 : decode cX12_rentOf 33 = .ok (.invokestatic 98, 3) := by decide +kernel
theorem dX12_rentOf_36 : decode cX12_rentOf 36 = .ok (.istore 4, 2) := by decide +kernel
theorem dX12_rentOf_38 : decode cX12_rentOf 38 = .ok (.iload 4, 2) := by decide +kernel
theorem dX12_rentOf_40 : decode cX12_rentOf 40 = .ok (.iconst 0, 1) := by decide +kernel
theorem dX12_rentOf_41 : decode cX12_rentOf 41 = .ok (.ldc 60, 2) := by decide +kernel
theorem dX12_rentOf_43 : decode cX12_rentOf 43 = .ok (.aload_n 0, 1) := by decide +kernel
theorem dX12_rentOf_44 : decode cX12_rentOf 44 = .ok (.iload_n 1, 1) := by decide +kernel
theorem dX12_rentOf_45 : decode cX12_rentOf 45 = .ok (.iconst 1, 1) := by decide +kernel
theorem dX12_rentOf_46 : decode cX12_rentOf 46 = .ok (.iload_n 2, 1) := by decide +kernel
theorem dX12_rentOf_47 : decode cX12_rentOf 47 = .ok (.iload_n 3, 1) := by decide +kernel
theorem dX12_rentOf_48 : decode cX12_rentOf 48 = .ok (.invokevirtual 239, 3) := by decide +kernel
theorem dX12_rentOf_51 : decode cX12_rentOf 51 = .ok (.invokestatic 93, 3) := by decide +kernel
theorem dX12_rentOf_54 : decode cX12_rentOf 54 = .ok (.invokestatic 98, 3) := by decide +kernel
theorem dX12_rentOf_57 : decode cX12_rentOf 57 = .ok (.iadd, 1) := by decide +kernel
theorem dX12_rentOf_58 : decode cX12_rentOf 58 = .ok (.ireturn, 1) := by decide +kernel
theorem dX12_rent_0 : decode cX12_rent 0 = .ok (.aload_n 0, 1) := by decide +kernel
theorem dX12_rent_1 : decode cX12_rent 1 = .ok (.iload_n 1, 1) := by decide +kernel
theorem dX12_rent_2 : decode cX12_rent 2 = .ok (.invokevirtual 65, 3) := by decide +kernel
theorem dX12_rent_5 : decode cX12_rent 5 = .ok (.ifCond .eq 19, 3) := by decide +kernel
theorem dX12_rent_8 : decode cX12_rent 8 = .ok (.aload_n 0, 1) := by decide +kernel
theorem dX12_rent_9 : decode cX12_rent 9 = .ok (.iload_n 2, 1) := by decide +kernel
theorem dX12_rent_10 : decode cX12_rent 10 = .ok (.invokevirtual 110, 3) := by decide +kernel
theorem dX12_rent_13 : decode cX12_rent 13 = .ok (.ifCond .eq 11, 3) := by decide +kernel
theorem dX12_rent_16 : decode cX12_rent 16 = .ok (.aload_n 0, 1) := by decide +kernel
theorem dX12_rent_17 : decode cX12_rent 17 = .ok (.iload_n 3, 1) := by decide +kernel
theorem dX12_rent_18 : decode cX12_rent 18 = .ok (.invokevirtual 110, 3) := by decide +kernel
theorem dX12_rent_21 : decode cX12_rent 21 = .ok (.ifCond .ne 6, 3) := by decide +kernel
theorem dX12_rent_24 : decode cX12_rent 24 = .ok (.ldc 57, 2) := by decide +kernel
theorem dX12_rent_26 : decode cX12_rent 26 = .ok (.ireturn, 1) := by decide +kernel
theorem dX12_rent_27 : decode cX12_rent 27 = .ok (.aload_n 0, 1) := by decide +kernel
theorem dX12_rent_28 : decode cX12_rent 28 = .ok (.iload_n 2, 1) := by decide +kernel
theorem dX12_rent_29 : decode cX12_rent 29 = .ok (.invokevirtual 72, 3) := by decide +kernel
theorem dX12_rent_32 : decode cX12_rent 32 = .ok (.aload_n 0, 1) := by decide +kernel
theorem dX12_rent_33 : decode cX12_rent 33 = .ok (.iload_n 1, 1) := by decide +kernel
theorem dX12_rent_34 : decode cX12_rent 34 = .ok (.iload_n 2, 1) := by decide +kernel
theorem dX12_rent_35 : decode cX12_rent 35 = .ok (.iload_n 3, 1) := by decide +kernel
theorem dX12_rent_36 : decode cX12_rent 36 = .ok (.invokevirtual 242, 3) := by decide +kernel
theorem dX12_rent_39 : decode cX12_rent 39 = .ok (.ireturn, 1) := by decide +kernel
theorem dX12_rents_0 : decode cX12_rents 0 = .ok (.aload_n 0, 1) := by decide +kernel
theorem dX12_rents_1 : decode cX12_rents 1 = .ok (.iload_n 1, 1) := by decide +kernel
theorem dX12_rents_2 : decode cX12_rents 2 = .ok (.invokevirtual 110, 3) := by decide +kernel
theorem dX12_rents_5 : decode cX12_rents 5 = .ok (.ifCond .eq 11, 3) := by decide +kernel
