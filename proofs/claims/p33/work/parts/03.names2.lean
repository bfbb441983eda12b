theorem dX7_teach_67 : decode cX7_teach 67 = .ok (.iload_n 1, 1) := by decide +kernel
theorem dX7_teach_68 : decode cX7_teach 68 = .ok (.aload_n 0, 1) := by decide +kernel
theorem dX7_teach_69 : decode cX7_teach 69 = .ok (.getfield 43, 3) := by decide +kernel
theorem dX7_teach_72 : decode cX7_teach 72 = .ok (.invokevirtual 98, 3) := by decide +kernel
theorem dX7_teach_75 : decode cX7_teach 75 = .ok (.aload_n 0, 1) := by decide +kernel
theorem dX7_teach_76 : decode cX7_teach 76 = .ok (.getfield 29, 3) := by decide +kernel
theorem dX7_teach_79 : decode cX7_teach 79 = .ok (.invokevirtual 102, 3) := by decide +kernel
theorem dX7_teach_82 : decode cX7_teach 82 = .ok (.aload_n 0, 1) := by decide +kernel
theorem dX7_teach_83 : decode cX7_teach 83 = .ok (.getfield 43, 3) := by decide +kernel
theorem dX7_teach_86 : decode cX7_teach 86 = .ok (.getfield 105, 3) := by decide +kernel
theorem dX7_teach_89 : decode cX7_teach 89 = .ok (.ireturn, 1) := by decide +kernel
set_option maxRecDepth 20000 in
theorem ggX7_forget_X7_isMessage : GoodIn wsX7_forget wsX7_isMessage := goodIn_r _ [9] (by decide +kernel) (by decide +kernel)
set_option maxRecDepth 20000 in
theorem gX7_forget_X7_isMessage : GoodIn wsX7_forget (va_wsS RX7 65 yX7_isMessage wsX7_isMessage) := goodIn_app (goodIn_of _ (by decide +kernel)) ggX7_forget_X7_isMessage
set_option maxRecDepth 20000 in
theorem ggX7_forget_X1_push : GoodIn wsX7_forget wsX1_push := goodIn_r _ [14, 15, 16, 17, 18, 19, 20, 21, 22, 23, 24, 25, 26, 27, 28, 29, 30, 31, 32, 33, 34, 35, 36, 37, 38, 39, 40, 41, 42, 68, 69, 70, 52, 53, 54, 55, 56, 57, 58, 59, 60, 61, 62, 63, 64, 65, 66, 67] (by decide +kernel) (by decide +kernel)
set_option maxRecDepth 20000 in
theorem gX7_forget_X1_push : GoodIn wsX7_forget (wsV RX7 94 RX1 yX1_push wsX1_push) := goodIn_app (goodIn_of _ (by decide +kernel)) ggX7_forget_X1_push
theorem dX7_forget_0 : decode cX7_forget 0 = .ok (.iload_n 1, 1) := by decide +kernel
theorem dX7_forget_1 : decode cX7_forget 1 = .ok (.invokestatic 65, 3) := by decide +kernel
theorem dX7_forget_4 : decode cX7_forget 4 = .ok (.ifCond .ne 13, 3) := by decide +kernel
theorem dX7_forget_7 : decode cX7_forget 7 = .ok (.new 69, 3) := by decide +kernel
theorem dX7_forget_10 : decode cX7_forget 10 = .ok (.dup, 1) := by decide +kernel
theorem dX7_forget_11 : decode cX7_forget 11 = .ok (.ldc 71, 2) := by decide +kernel
theorem dX7_forget_13 : decode cX7_forget 13 = .ok (.invokespecial 73, 3) := by decide +kernel
theorem dX7_forget_16 : decode cX7_forget 16 = .ok (.athrow, 1) := by decide +kernel
theorem dX7_forget_17 : decode cX7_forget 17 = .ok (.aload_n 0, 1) := by decide +kernel
theorem dX7_forget_18 : decode cX7_forget 18 = .ok (.getfield 22, 3) := by decide +kernel
theorem dX7_forget_21 : decode cX7_forget 21 = .ok (.aload_n 0, 1) := by decide +kernel
theorem dX7_forget_22 : decode cX7_forget 22 = .ok (.getfield 10, 3) := by decide +kernel
theorem dX7_forget_25 : decode cX7_forget 25 = .ok (.invokevirtual 94, 3) := by decide +kernel
theorem dX7_forget_28 : decode cX7_forget 28 = .ok (.aload_n 0, 1) := by decide +kernel
theorem dX7_forget_29 : decode cX7_forget 29 = .ok (.getfield 10, 3) := by decide +kernel
theorem dX7_forget_32 : decode cX7_forget 32 = .ok (.getfield 109, 3) := by decide +kernel
theorem dX7_forget_35 : decode cX7_forget 35 = .ok (.iload_n 1, 1) := by decide +kernel
theorem dX7_forget_36 : decode cX7_forget 36 = .ok (.iaload, 1) := by decide +kernel
theorem dX7_forget_37 : decode cX7_forget 37 = .ok (.istore_n 2, 1) := by decide +kernel
theorem dX7_forget_38 : decode cX7_forget 38 = .ok (.aload_n 0, 1) := by decide +kernel
theorem dX7_forget_39 : decode cX7_forget 39 = .ok (.getfield 10, 3) := by decide +kernel
theorem dX7_forget_42 : decode cX7_forget 42 = .ok (.getfield 109, 3) := by decide +kernel
theorem dX7_forget_45 : decode cX7_forget 45 = .ok (.iload_n 1, 1) := by decide +kernel
theorem dX7_forget_46 : decode cX7_forget 46 = .ok (.iconst 0, 1) := by decide +kernel
theorem dX7_forget_47 : decode cX7_forget 47 = .ok (.iastore, 1) := by decide +kernel
theorem dX7_forget_48 : decode cX7_forget 48 = .ok (.iload_n 2, 1) := by decide +kernel
theorem dX7_forget_49 : decode cX7_forget 49 = .ok (.ireturn, 1) := by decide +kernel
set_option maxRecDepth 20000 in
theorem ggX7_key_X7_isKey : GoodIn wsX7_key wsX7_isKey := goodIn_r _ [9] (by decide +kernel) (by decide +kernel)
set_option maxRecDepth 20000 in
theorem gX7_key_X7_isKey : GoodIn wsX7_key (va_wsS RX7 113 yX7_isKey wsX7_isKey) := goodIn_app (goodIn_of _ (by decide +kernel)) ggX7_key_X7_isKey
set_option maxRecDepth 20000 in
theorem ggX7_key_X1_push : GoodIn wsX7_key wsX1_push := goodIn_r _ [14, 15, 16, 17, 18, 19, 20, 21, 22, 23, 24, 25, 26, 27, 28, 29, 30, 31, 32, 33, 34, 35, 36, 37, 38, 39, 40, 41, 42, 68, 69, 70, 52, 53, 54, 55, 56, 57, 58, 59, 60, 61, 62, 63, 64, 65, 66, 67] (by decide +kernel) (by decide +kernel)
set_option maxRecDepth 20000 in
theorem gX7_key_X1_push : GoodIn wsX7_key (wsV RX7 94 RX1 yX1_push wsX1_push) := goodIn_app (goodIn_of _ (by decide +kernel)) ggX7_key_X1_push
theorem dX7_key_0 : decode cX7_key 0 = .ok (.iload_n 1, 1) := by decide +kernel
theorem dX7_key_1 : decode cX7_key 1 = .ok (.invokestatic 113, 3) := by decide +kernel
theorem dX7_key_4 : decode cX7_key 4 = .ok (.ifCond .ne 13, 3) := by decide +kernel
theorem dX7_key_7 : decode cX7_key 7 = .ok (.new 80, 3) := by decide +kernel
theorem dX7_key_10 : decode cX7_key 10 = .ok (.dup, 1) := by decide +kernel
theorem dX7_key_11 : decode cX7_key 11 = .ok (.ldc 116, 2) := by decide +kernel
theorem dX7_key_13 : decode cX7_key 13 = .ok (.invokespecial 84, 3) := by decide +kernel
theorem dX7_key_16 : decode cX7_key 16 = .ok (.athrow, 1) := by decide +kernel
theorem dX7_key_17 : decode cX7_key 17 = .ok (.aload_n 0, 1) := by decide +kernel
theorem dX7_key_18 : decode cX7_key 18 = .ok (.getfield 22, 3) := by decide +kernel
theorem dX7_key_21 : decode cX7_key 21 = .ok (.aload_n 0, 1) := by decide +kernel
theorem dX7_key_22 : decode cX7_key 22 = .ok (.getfield 10, 3) := by decide +kernel
theorem dX7_key_25 : decode cX7_key 25 = .ok (.invokevirtual 94, 3) := by decide +kernel
theorem dX7_key_28 : decode cX7_key 28 = .ok (.aload_n 0, 1) := by decide +kernel
theorem dX7_key_29 : decode cX7_key 29 = .ok (.getfield 10, 3) := by decide +kernel
theorem dX7_key_32 : decode cX7_key 32 = .ok (.getfield 118, 3) := by decide +kernel
theorem dX7_key_35 : decode cX7_key 35 = .ok (.istore_n 2, 1) := by decide +kernel
theorem dX7_key_36 : decode cX7_key 36 = .ok (.aload_n 0, 1) := by decide +kernel
theorem dX7_key_37 : decode cX7_key 37 = .ok (.getfield 10, 3) := by decide +kernel
theorem dX7_key_40 : decode cX7_key 40 = .ok (.iload_n 1, 1) := by decide +kernel
theorem dX7_key_41 : decode cX7_key 41 = .ok (.putfield 118, 3) := by decide +kernel
theorem dX7_key_44 : decode cX7_key 44 = .ok (.iload_n 2, 1) := by decide +kernel
theorem dX7_key_45 : decode cX7_key 45 = .ok (.ireturn, 1) := by decide +kernel
set_option maxRecDepth 20000 in
theorem ggX7_tell_X7_isRoom : GoodIn wsX7_tell wsX7_isRoom := goodIn_r _ [10] (by decide +kernel) (by decide +kernel)
set_option maxRecDepth 20000 in
theorem gX7_tell_X7_isRoom : GoodIn wsX7_tell (va_wsS RX7 121 yX7_isRoom wsX7_isRoom) := goodIn_app (goodIn_of _ (by decide +kernel)) ggX7_tell_X7_isRoom
set_option maxRecDepth 20000 in
theorem ggX7_tell_X1_push : GoodIn wsX7_tell wsX1_push := goodIn_r _ [15, 16, 17, 18, 19, 20, 21, 22, 23, 24, 25, 26, 27, 28, 29, 30, 31, 32, 33, 34, 35, 36, 37, 38, 39, 40, 41, 42, 43, 69, 70, 71, 53, 54, 55, 56, 57, 58, 59, 60, 61, 62, 63, 64, 65, 66, 67, 68] (by decide +kernel) (by decide +kernel)
set_option maxRecDepth 20000 in
theorem gX7_tell_X1_push : GoodIn wsX7_tell (wsV RX7 94 RX1 yX1_push wsX1_push) := goodIn_app (goodIn_of _ (by decide +kernel)) ggX7_tell_X1_push
theorem dX7_tell_0 : decode cX7_tell 0 = .ok (.iload_n 1, 1) := by decide +kernel
theorem dX7_tell_1 : decode cX7_tell 1 = .ok (.invokestatic 121, 3) := by decide +kernel
theorem dX7_tell_4 : decode cX7_tell 4 = .ok (.ifCond .ne 13, 3) := by decide +kernel
theorem dX7_tell_7 : decode cX7_tell 7 = .ok (.new 69, 3) := by decide +kernel
theorem dX7_tell_10 : decode cX7_tell 10 = .ok (.dup, 1) := by decide +kernel
theorem dX7_tell_11 : decode cX7_tell 11 = .ok (.ldc 124, 2) := by decide +kernel
theorem dX7_tell_13 : decode cX7_tell 13 = .ok (.invokespecial 73, 3) := by decide +kernel
theorem dX7_tell_16 : decode cX7_tell 16 = .ok (.athrow, 1) := by decide +kernel
theorem dX7_tell_17 : decode cX7_tell 17 = .ok (.aload_n 0, 1) := by decide +kernel
theorem dX7_tell_18 : decode cX7_tell 18 = .ok (.getfield 22, 3) := by decide +kernel
theorem dX7_tell_21 : decode cX7_tell 21 = .ok (.aload_n 0, 1) := by decide +kernel
theorem dX7_tell_22 : decode cX7_tell 22 = .ok (.getfield 10, 3) := by decide +kernel
theorem dX7_tell_25 : decode cX7_tell 25 = .ok (.invokevirtual 94, 3) := by decide +kernel
theorem dX7_tell_28 : decode cX7_tell 28 = .ok (.aload_n 0, 1) := by decide +kernel
theorem dX7_tell_29 : decode cX7_tell 29 = .ok (.getfield 10, 3) := by decide +kernel
theorem dX7_tell_32 : decode cX7_tell 32 = .ok (.getfield 126, 3) := by decide +kernel
theorem dX7_tell_35 : decode cX7_tell 35 = .ok (.iload_n 1, 1) := by decide +kernel
theorem dX7_tell_36 : decode cX7_tell 36 = .ok (.iaload, 1) := by decide +kernel
theorem dX7_tell_37 : decode cX7_tell 37 = .ok (.istore_n 2, 1) := by decide +kernel
theorem dX7_tell_38 : decode cX7_tell 38 = .ok (.aload_n 0, 1) := by decide +kernel
theorem dX7_tell_39 : decode cX7_tell 39 = .ok (.getfield 10, 3) := by decide +kernel
theorem dX7_tell_42 : decode cX7_tell 42 = .ok (.getfield 126, 3) := by decide +kernel
theorem dX7_tell_45 : decode cX7_tell 45 = .ok (.iload_n 1, 1) := by decide +kernel
theorem dX7_tell_46 : decode cX7_tell 46 = .ok (.aload_n 0, 1) := by decide +kernel
theorem dX7_tell_47 : decode cX7_tell 47 = .ok (.getfield 10, 3) := by decide +kernel
theorem dX7_tell_50 : decode cX7_tell 50 = .ok (.getfield 118, 3) := by decide +kernel
theorem dX7_tell_53 : decode cX7_tell 53 = .ok (.iastore, 1) := by decide +kernel
theorem dX7_tell_54 : decode cX7_tell 54 = .ok (.iload_n 2, 1) := by decide +kernel
theorem dX7_tell_55 : decode cX7_tell 55 = .ok (.ireturn, 1) := by decide +kernel
set_option maxRecDepth 20000 in
theorem ggX7_lookout_X1_push : GoodIn wsX7_lookout wsX1_push := goodIn_r _ [10, 11, 12, 13, 14, 15, 16, 17, 18, 19, 20, 21, 22, 23, 24, 25, 26, 27, 28, 29, 30, 31, 32, 33, 34, 35, 36, 37, 38, 71, 72, 73, 55, 56, 57, 58, 59, 60, 61, 62, 63, 64, 65, 66, 67, 68, 69, 70] (by decide +kernel) (by decide +kernel)
set_option maxRecDepth 20000 in
theorem gX7_lookout_X1_push : GoodIn wsX7_lookout (wsV RX7 94 RX1 yX1_push wsX1_push) := goodIn_app (goodIn_of _ (by decide +kernel)) ggX7_lookout_X1_push
set_option maxRecDepth 20000 in
theorem ggX7_lookout_J6_bitCount_0f7a4 : GoodIn wsX7_lookout wsJ6_bitCount_0f7a4 := goodIn_r _ [42, 43, 44, 45] (by decide +kernel) (by decide +kernel)
set_option maxRecDepth 20000 in
theorem gX7_lookout_J6_bitCount_0f7a4 : GoodIn wsX7_lookout (va_wsS RX7 134 yJ6_bitCount_0f7a4 wsJ6_bitCount_0f7a4) := goodIn_app (goodIn_of _ (by decide +kernel)) ggX7_lookout_J6_bitCount_0f7a4
theorem dX7_lookout_0 : decode cX7_lookout 0 = .ok (.iload_n 1, 1) := by decide +kernel
theorem dX7_lookout_1 : decode cX7_lookout 1 = .ok (.ifCond .lt 8, 3) := by decide +kernel
theorem dX7_lookout_4 : decode cX7_lookout 4 = .ok (.iload_n 1, 1) := by decide +kernel
theorem dX7_lookout_5 : decode cX7_lookout 5 = .ok (.iconst 3, 1) := by decide +kernel
theorem dX7_lookout_6 : decode cX7_lookout 6 = .ok (.if_icmp .lt 13, 3) := by decide +kernel
theorem dX7_lookout_9 : decode cX7_lookout 9 = .ok (.new 69, 3) := by decide +kernel
theorem dX7_lookout_12 : decode cX7_lookout 12 = .ok (.dup, 1) := by decide +kernel
theorem dX7_lookout_13 : decode cX7_lookout 13 = .ok (.ldc 129, 2) := by decide +kernel
theorem dX7_lookout_15 : decode cX7_lookout 15 = .ok (.invokespecial 73, 3) := by decide +kernel
theorem dX7_lookout_18 : decode cX7_lookout 18 = .ok (.athrow, 1) := by decide +kernel
theorem dX7_lookout_19 : decode cX7_lookout 19 = .ok (.aload_n 0, 1) := by decide +kernel
theorem dX7_lookout_20 : decode cX7_lookout 20 = .ok (.getfield 22, 3) := by decide +kernel
theorem dX7_lookout_23 : decode cX7_lookout 23 = .ok (.aload_n 0, 1) := by decide +kernel
theorem dX7_lookout_24 : decode cX7_lookout 24 = .ok (.getfield 10, 3) := by decide +kernel
theorem dX7_lookout_27 : decode cX7_lookout 27 = .ok (.invokevirtual 94, 3) := by decide +kernel
theorem dX7_lookout_30 : decode cX7_lookout 30 = .ok (.iconst 1, 1) := by decide +kernel
theorem dX7_lookout_31 : decode cX7_lookout 31 = .ok (.iload_n 1, 1) := by decide +kernel
theorem dX7_lookout_32 : decode cX7_lookout 32 = .ok (.ishl, 1) := by decide +kernel
theorem dX7_lookout_33 : decode cX7_lookout 33 = .ok (.istore_n 3, 1) := by decide +kernel
theorem dX7_lookout_34 : decode cX7_lookout 34 = .ok (.aload_n 0, 1) := by decide +kernel
theorem dX7_lookout_35 : decode cX7_lookout 35 = .ok (.getfield 10, 3) := by decide +kernel
theorem dX7_lookout_38 : decode cX7_lookout 38 = .ok (.iload_n 2, 1) := by decide +kernel
theorem dX7_lookout_39 : decode cX7_lookout 39 = .ok (.ifCond .eq 15, 3) := by decide +kernel
theorem dX7_lookout_42 : decode cX7_lookout 42 = .ok (.aload_n 0, 1) := by decide +kernel
theorem dX7_lookout_43 : decode cX7_lookout 43 = .ok (.getfield 10, 3) := by decide +kernel
theorem dX7_lookout_46 : decode cX7_lookout 46 = .ok (.getfield 131, 3) := by decide +kernel
theorem dX7_lookout_49 : decode cX7_lookout 49 = .ok (.iload_n 3, 1) := by decide +kernel
theorem dX7_lookout_50 : decode cX7_lookout 50 = .ok (.ior, 1) := by decide +kernel
theorem dX7_lookout_51 : decode cX7_lookout 51 = .ok (.goto 14, 3) := by decide +kernel
theorem dX7_lookout_54 : decode cX7_lookout 54 = .ok (.aload_n 0, 1) := by decide +kernel
theorem dX7_lookout_55 : decode cX7_lookout 55 = .ok (.getfield 10, 3) := by decide +kernel
theorem dX7_lookout_58 : decode cX7_lookout 58 = .ok (.getfield 131, 3) := by decide +kernel
theorem dX7_lookout_61 : decode cX7_lookout 61 = .ok (.iload_n 3, 1) := by decide +kernel
theorem dX7_lookout_62 : decode cX7_lookout 62 = .ok (.iconst (-1), 1) := by decide +kernel
theorem dX7_lookout_63 : decode cX7_lookout 63 = .ok (.ixor, 1) := by decide +kernel
theorem dX7_lookout_64 : decode cX7_lookout 64 = .ok (.iand, 1) := by decide +kernel
theorem dX7_lookout_65 : decode cX7_lookout 65 = .ok (.putfield 131, 3) := by decide +kernel
theorem dX7_lookout_68 : decode cX7_lookout 68 = .ok (.aload_n 0, 1) := by decide +kernel
theorem dX7_lookout_69 : decode cX7_lookout 69 = .ok (.getfield 10, 3) := by decide +kernel
theorem dX7_lookout_72 : decode cX7_lookout 72 = .ok (.getfield 131, 3) := by decide +kernel
theorem dX7_lookout_75 : decode cX7_lookout 75 = .ok (.invokestatic 134, 3) := by decide +kernel
theorem dX7_lookout_78 : decode cX7_lookout 78 = .ok (.ireturn, 1) := by decide +kernel
set_option maxRecDepth 20000 in
theorem ggX7_ban_X7_isMessage : GoodIn wsX7_ban wsX7_isMessage := goodIn_r _ [9] (by decide +kernel) (by decide +kernel)
set_option maxRecDepth 20000 in
theorem gX7_ban_X7_isMessage : GoodIn wsX7_ban (va_wsS RX7 65 yX7_isMessage wsX7_isMessage) := goodIn_app (goodIn_of _ (by decide +kernel)) ggX7_ban_X7_isMessage
set_option maxRecDepth 20000 in
theorem ggX7_ban_X1_push : GoodIn wsX7_ban wsX1_push := goodIn_r _ [14, 15, 16, 17, 18, 19, 20, 21, 22, 23, 24, 25, 26, 27, 28, 29, 30, 31, 32, 33, 34, 35, 36, 37, 38, 39, 40, 41, 42, 71, 72, 73, 55, 56, 57, 58, 59, 60, 61, 62, 63, 64, 65, 66, 67, 68, 69, 70] (by decide +kernel) (by decide +kernel)
set_option maxRecDepth 20000 in
theorem gX7_ban_X1_push : GoodIn wsX7_ban (wsV RX7 94 RX1 yX1_push wsX1_push) := goodIn_app (goodIn_of _ (by decide +kernel)) ggX7_ban_X1_push
set_option maxRecDepth 20000 in
theorem ggX7_ban_X7_hasBit : GoodIn wsX7_ban wsX7_hasBit := goodIn_r _ [45] (by decide +kernel) (by decide +kernel)
set_option maxRecDepth 20000 in
theorem gX7_ban_X7_hasBit : GoodIn wsX7_ban (va_wsS RX7 144 yX7_hasBit wsX7_hasBit) := goodIn_app (goodIn_of _ (by decide +kernel)) ggX7_ban_X7_hasBit
theorem dX7_ban_0 : decode cX7_ban 0 = .ok (.iload_n 1, 1) := by decide +kernel
theorem dX7_ban_1 : decode cX7_ban 1 = .ok (.ifCond .lt 15, 3) := by decide +kernel
theorem dX7_ban_4 : decode cX7_ban 4 = .ok (.iload_n 1, 1) := by decide +kernel
theorem dX7_ban_5 : decode cX7_ban 5 = .ok (.iconst 3, 1) := by decide +kernel
theorem dX7_ban_6 : decode cX7_ban 6 = .ok (.if_icmp .ge 10, 3) := by decide +kernel
theorem dX7_ban_9 : decode cX7_ban 9 = .ok (.iload_n 2, 1) := by decide +kernel
theorem dX7_ban_10 : decode cX7_ban 10 = .ok (.invokestatic 65, 3) := by decide +kernel
theorem dX7_ban_13 : decode cX7_ban 13 = .ok (.ifCond .ne 13, 3) := by decide +kernel
theorem dX7_ban_16 : decode cX7_ban 16 = .ok (.new 69, 3) := by decide +kernel
theorem dX7_ban_19 : decode cX7_ban 19 = .ok (.dup, 1) := by decide +kernel
theorem dX7_ban_20 : decode cX7_ban 20 = .ok (.ldc 139, 2) := by decide +kernel
theorem dX7_ban_22 : decode cX7_ban 22 = .ok (.invokespecial 73, 3) := by decide +kernel
theorem dX7_ban_25 : decode cX7_ban 25 = .ok (.athrow, 1) := by decide +kernel
theorem dX7_ban_26 : decode cX7_ban 26 = .ok (.aload_n 0, 1) := by decide +kernel
theorem dX7_ban_27 : decode cX7_ban 27 = .ok (.getfield 22, 3) := by decide +kernel
theorem dX7_ban_30 : decode cX7_ban 30 = .ok (.aload_n 0, 1) := by decide +kernel
theorem dX7_ban_31 : decode cX7_ban 31 = .ok (.getfield 10, 3) := by decide +kernel
theorem dX7_ban_34 : decode cX7_ban 34 = .ok (.invokevirtual 94, 3) := by decide +kernel
theorem dX7_ban_37 : decode cX7_ban 37 = .ok (.aload_n 0, 1) := by decide +kernel
theorem dX7_ban_38 : decode cX7_ban 38 = .ok (.getfield 10, 3) := by decide +kernel
theorem dX7_ban_41 : decode cX7_ban 41 = .ok (.getfield 141, 3) := by decide +kernel
theorem dX7_ban_44 : decode cX7_ban 44 = .ok (.iload_n 2, 1) := by decide +kernel
theorem dX7_ban_45 : decode cX7_ban 45 = .ok (.dup2, 1) := by decide +kernel
theorem dX7_ban_46 : decode cX7_ban 46 = .ok (.iaload, 1) := by decide +kernel
theorem dX7_ban_47 : decode cX7_ban 47 = .ok (.iconst 1, 1) := by decide +kernel
theorem dX7_ban_48 : decode cX7_ban 48 = .ok (.iload_n 1, 1) := by decide +kernel
theorem dX7_ban_49 : decode cX7_ban 49 = .ok (.ishl, 1) := by decide +kernel
theorem dX7_ban_50 : decode cX7_ban 50 = .ok (.ixor, 1) := by decide +kernel
theorem dX7_ban_51 : decode cX7_ban 51 = .ok (.iastore, 1) := by decide +kernel
theorem dX7_ban_52 : decode cX7_ban 52 = .ok (.aload_n 0, 1) := by decide +kernel
theorem dX7_ban_53 : decode cX7_ban 53 = .ok (.getfield 10, 3) := by decide +kernel
theorem dX7_ban_56 : decode cX7_ban 56 = .ok (.getfield 141, 3) := by decide +kernel
theorem dX7_ban_59 : decode cX7_ban 59 = .ok (.iload_n 2, 1) := by decide +kernel
theorem dX7_ban_60 : decode cX7_ban 60 = .ok (.iaload, 1) := by decide +kernel
theorem dX7_ban_61 : decode cX7_ban 61 = .ok (.iload_n 1, 1) := by decide +kernel
theorem dX7_ban_62 : decode cX7_ban 62 = .ok (.invokestatic 144, 3) := by decide +kernel
theorem dX7_ban_65 : decode cX7_ban 65 = .ok (.ifCond .eq 7, 3) := by decide +kernel
theorem dX7_ban_68 : decode cX7_ban 68 = .ok (.iconst 1, 1) := by decide +kernel
theorem dX7_ban_69 : decode cX7_ban 69 = .ok (.goto 4, 3) := by decide +kernel
theorem dX7_ban_72 : decode cX7_ban 72 = .ok (.iconst 0, 1) := by decide +kernel
theorem dX7_ban_73 : decode cX7_ban 73 = .ok (.ireturn, 1) := by decide +kernel
set_option maxRecDepth 20000 in
theorem ggX7_bell_X1_push : GoodIn wsX7_bell wsX1_push := goodIn_r _ [8, 9, 10, 11, 12, 13, 14, 15, 16, 17, 18, 19, 20, 21, 22, 23, 24, 25, 26, 27, 28, 29, 30, 31, 32, 33, 34, 35, 36, 66, 67, 68, 50, 51, 52, 53, 54, 55, 56, 57, 58, 59, 60, 61, 62, 63, 64, 65] (by decide +kernel) (by decide +kernel)
set_option maxRecDepth 20000 in
theorem gX7_bell_X1_push : GoodIn wsX7_bell (wsV RX7 94 RX1 yX1_push wsX1_push) := goodIn_app (goodIn_of _ (by decide +kernel)) ggX7_bell_X1_push
set_option maxRecDepth 20000 in
theorem ggX7_bell_X3_beginNight : GoodIn wsX7_bell wsX3_beginNight := goodIn_r _ [40, 17, 20, 32, 50, 51, 52, 53, 54, 55, 56, 57, 58, 59, 60, 61, 62, 63, 64, 65] (by decide +kernel) (by decide +kernel)
set_option maxRecDepth 20000 in
theorem gX7_bell_X3_beginNight : GoodIn wsX7_bell (wsV RX7 148 RX3 yX3_beginNight wsX3_beginNight) := goodIn_app (goodIn_of _ (by decide +kernel)) ggX7_bell_X3_beginNight
theorem dX7_bell_0 : decode cX7_bell 0 = .ok (.aload_n 0, 1) := by decide +kernel
theorem dX7_bell_1 : decode cX7_bell 1 = .ok (.getfield 22, 3) := by decide +kernel
theorem dX7_bell_4 : decode cX7_bell 4 = .ok (.aload_n 0, 1) := by decide +kernel
theorem dX7_bell_5 : decode cX7_bell 5 = .ok (.getfield 10, 3) := by decide +kernel
theorem dX7_bell_8 : decode cX7_bell 8 = .ok (.invokevirtual 94, 3) := by decide +kernel
theorem dX7_bell_11 : decode cX7_bell 11 = .ok (.aload_n 0, 1) := by decide +kernel
theorem dX7_bell_12 : decode cX7_bell 12 = .ok (.getfield 10, 3) := by decide +kernel
theorem dX7_bell_15 : decode cX7_bell 15 = .ok (.invokevirtual 148, 3) := by decide +kernel
theorem dX7_bell_18 : decode cX7_bell 18 = .ok (.aload_n 0, 1) := by decide +kernel
theorem dX7_bell_19 : decode cX7_bell 19 = .ok (.getfield 10, 3) := by decide +kernel
theorem dX7_bell_22 : decode cX7_bell 22 = .ok (.getfield 151, 3) := by decide +kernel
theorem dX7_bell_25 : decode cX7_bell 25 = .ok (.ireturn, 1) := by decide +kernel
set_option maxRecDepth 20000 in
theorem ggX7_set_X7_isValueOf : GoodIn wsX7_set wsX7_isValueOf := goodIn_r _ [11] (by decide +kernel) (by decide +kernel)
set_option maxRecDepth 20000 in
theorem gX7_set_X7_isValueOf : GoodIn wsX7_set (va_wsS RX7 156 yX7_isValueOf wsX7_isValueOf) := goodIn_app (goodIn_of _ (by decide +kernel)) ggX7_set_X7_isValueOf
set_option maxRecDepth 20000 in
theorem ggX7_set_X1_push : GoodIn wsX7_set wsX1_push := goodIn_r _ [16, 17, 18, 19, 20, 21, 22, 23, 24, 25, 26, 27, 28, 29, 30, 31, 32, 33, 34, 35, 36, 37, 38, 39, 40, 41, 42, 43, 44, 70, 71, 72, 54, 55, 56, 57, 58, 59, 60, 61, 62, 63, 64, 65, 66, 67, 68, 69] (by decide +kernel) (by decide +kernel)
set_option maxRecDepth 20000 in
theorem gX7_set_X1_push : GoodIn wsX7_set (wsV RX7 94 RX1 yX1_push wsX1_push) := goodIn_app (goodIn_of _ (by decide +kernel)) ggX7_set_X1_push
theorem dX7_set_0 : decode cX7_set 0 = .ok (.iload_n 1, 1) := by decide +kernel
theorem dX7_set_1 : decode cX7_set 1 = .ok (.ifCond .lt 8, 3) := by decide +kernel
theorem dX7_set_4 : decode cX7_set 4 = .ok (.iload_n 1, 1) := by decide +kernel
theorem dX7_set_5 : decode cX7_set 5 = .ok (.iconst 2, 1) := by decide +kernel
theorem dX7_set_6 : decode cX7_set 6 = .ok (.if_icmp .lt 13, 3) := by decide +kernel
theorem dX7_set_9 : decode cX7_set 9 = .ok (.new 69, 3) := by decide +kernel
theorem dX7_set_12 : decode cX7_set 12 = .ok (.dup, 1) := by decide +kernel
theorem dX7_set_13 : decode cX7_set 13 = .ok (.ldc 154, 2) := by decide +kernel
theorem dX7_set_15 : decode cX7_set 15 = .ok (.invokespecial 73, 3) := by decide +kernel
theorem dX7_set_18 : decode cX7_set 18 = .ok (.athrow, 1) := by decide +kernel
theorem dX7_set_19 : decode cX7_set 19 = .ok (.iload_n 1, 1) := by decide +kernel
theorem dX7_set_20 : decode cX7_set 20 = .ok (.iload_n 2, 1) := by decide +kernel
theorem dX7_set_21 : decode cX7_set 21 = .ok (.invokestatic 156, 3) := by decide +kernel
theorem dX7_set_24 : decode cX7_set 24 = .ok (.ifCond .ne 13, 3) := by decide +kernel
theorem dX7_set_27 : decode cX7_set 27 = .ok (.new 80, 3) := by decide +kernel
theorem dX7_set_30 : decode cX7_set 30 = .ok (.dup, 1) := by decide +kernel
theorem dX7_set_31 : decode cX7_set 31 = .ok (.ldc 159, 2) := by decide +kernel
theorem dX7_set_33 : decode cX7_set 33 = .ok (.invokespecial 84, 3) := by decide +kernel
theorem dX7_set_36 : decode cX7_set 36 = .ok (.athrow, 1) := by decide +kernel
theorem dX7_set_37 : decode cX7_set 37 = .ok (.aload_n 0, 1) := by decide +kernel
theorem dX7_set_38 : decode cX7_set 38 = .ok (.getfield 22, 3) := by decide +kernel
theorem dX7_set_41 : decode cX7_set 41 = .ok (.aload_n 0, 1) := by decide +kernel
theorem dX7_set_42 : decode cX7_set 42 = .ok (.getfield 10, 3) := by decide +kernel
theorem dX7_set_45 : decode cX7_set 45 = .ok (.invokevirtual 94, 3) := by decide +kernel
theorem dX7_set_48 : decode cX7_set 48 = .ok (.aload_n 0, 1) := by decide +kernel
theorem dX7_set_49 : decode cX7_set 49 = .ok (.getfield 10, 3) := by decide +kernel
theorem dX7_set_52 : decode cX7_set 52 = .ok (.getfield 161, 3) := by decide +kernel
theorem dX7_set_55 : decode cX7_set 55 = .ok (.iload_n 1, 1) := by decide +kernel
theorem dX7_set_56 : decode cX7_set 56 = .ok (.iaload, 1) := by decide +kernel
theorem dX7_set_57 : decode cX7_set 57 = .ok (.istore_n 3, 1) := by decide +kernel
theorem dX7_set_58 : decode cX7_set 58 = .ok (.aload_n 0, 1) := by decide +kernel
theorem dX7_set_59 : decode cX7_set 59 = .ok (.getfield 10, 3) := by decide +kernel
theorem dX7_set_62 : decode cX7_set 62 = .ok (.getfield 161, 3) := by decide +kernel
theorem dX7_set_65 : decode cX7_set 65 = .ok (.iload_n 1, 1) := by decide +kernel
theorem dX7_set_66 : decode cX7_set 66 = .ok (.iload_n 2, 1) := by decide +kernel
theorem dX7_set_67 : decode cX7_set 67 = .ok (.iastore, 1) := by decide +kernel
theorem dX7_set_68 : decode cX7_set 68 = .ok (.iload_n 3, 1) := by decide +kernel
theorem dX7_set_69 : decode cX7_set 69 = .ok (.ireturn, 1) := by decide +kernel
set_option maxRecDepth 20000 in
theorem ggX7_whistle_X7_isRoom : GoodIn wsX7_whistle wsX7_isRoom := goodIn_r _ [10] (by decide +kernel) (by decide +kernel)
set_option maxRecDepth 20000 in
theorem gX7_whistle_X7_isRoom : GoodIn wsX7_whistle (va_wsS RX7 121 yX7_isRoom wsX7_isRoom) := goodIn_app (goodIn_of _ (by decide +kernel)) ggX7_whistle_X7_isRoom
set_option maxRecDepth 20000 in
theorem ggX7_whistle_X7_isMessage : GoodIn wsX7_whistle wsX7_isMessage := goodIn_r _ [13] (by decide +kernel) (by decide +kernel)
set_option maxRecDepth 20000 in
theorem gX7_whistle_X7_isMessage : GoodIn wsX7_whistle (va_wsS RX7 65 yX7_isMessage wsX7_isMessage) := goodIn_app (goodIn_of _ (by decide +kernel)) ggX7_whistle_X7_isMessage
set_option maxRecDepth 20000 in
theorem ggX7_whistle_X3_reasonAgainst : GoodIn wsX7_whistle wsX3_reasonAgainst := goodIn_r _ [18, 19, 20, 21, 22, 17, 23, 24, 25, 126, 127, 128, 129, 130, 131, 132, 133, 134, 135, 136, 137, 138, 139, 140, 141] (by decide +kernel) (by decide +kernel)
set_option maxRecDepth 20000 in
theorem gX7_whistle_X3_reasonAgainst : GoodIn wsX7_whistle (wsV RX7 166 RX3 yX3_reasonAgainst wsX3_reasonAgainst) := goodIn_app (goodIn_of _ (by decide +kernel)) ggX7_whistle_X3_reasonAgainst
set_option maxRecDepth 20000 in
theorem ggX7_whistle_X1_push : GoodIn wsX7_whistle wsX1_push := goodIn_r _ [30, 31, 32, 33, 34, 35, 36, 17, 37, 38, 39, 40, 41, 25, 42, 43, 44, 45, 19, 46, 47, 48, 49, 50, 24, 51, 52, 53, 54, 142, 143, 144, 126, 127, 128, 129, 130, 131, 132, 133, 134, 135, 136, 137, 138, 139, 140, 141] (by decide +kernel) (by decide +kernel)
set_option maxRecDepth 20000 in
theorem gX7_whistle_X1_push : GoodIn wsX7_whistle (wsV RX7 94 RX1 yX1_push wsX1_push) := goodIn_app (goodIn_of _ (by decide +kernel)) ggX7_whistle_X1_push
set_option maxRecDepth 20000 in
theorem ggX7_whistle_X7_soundWhistle : GoodIn wsX7_whistle wsX7_soundWhistle := goodIn_r _ [58, 59, 5, 60, 61, 62, 63, 64, 65, 66, 67, 68, 69, 70, 71, 72, 73, 74, 75, 76, 17, 77, 40, 78, 79, 80, 81, 25, 82, 9, 83, 84, 85, 86, 87, 88, 89, 90, 91, 50, 92, 93, 94, 95, 38, 96, 97, 98, 99, 53, 100, 101, 102, 103, 48, 49, 104, 24, 41, 105, 106, 107, 108, 109, 110, 111, 112, 113, 114, 115, 51, 52, 116, 117, 118, 119, 120, 121, 122, 123, 124, 125, 145, 146, 147, 148, 149, 126, 127, 128, 129, 130, 131, 132, 133, 134, 135, 136, 137, 138, 139, 140, 141] (by decide +kernel) (by decide +kernel)
set_option maxRecDepth 20000 in
theorem gX7_whistle_X7_soundWhistle : GoodIn wsX7_whistle (wsV RX7 172 RX7 yX7_soundWhistle wsX7_soundWhistle) := goodIn_app (goodIn_of _ (by decide +kernel)) ggX7_whistle_X7_soundWhistle
theorem dX7_whistle_0 : decode cX7_whistle 0 = .ok (.iload_n 1, 1) := by decide +kernel
theorem dX7_whistle_1 : decode cX7_whistle 1 = .ok (.invokestatic 121, 3) := by decide +kernel
theorem dX7_whistle_4 : decode cX7_whistle 4 = .ok (.ifCond .eq 10, 3) := by decide +kernel
theorem dX7_whistle_7 : decode cX7_whistle 7 = .ok (.iload_n 2, 1) := by decide +kernel
theorem dX7_whistle_8 : decode cX7_whistle 8 = .ok (.invokestatic 65, 3) := by decide +kernel
theorem dX7_whistle_11 : decode cX7_whistle 11 = .ok (.ifCond .ne 13, 3) := by decide +kernel
theorem dX7_whistle_14 : decode cX7_whistle 14 = .ok (.new 69, 3) := by decide +kernel
theorem dX7_whistle_17 : decode cX7_whistle 17 = .ok (.dup, 1) := by decide +kernel
theorem dX7_whistle_18 : decode cX7_whistle 18 = .ok (.ldc 164, 2) := by decide +kernel
theorem dX7_whistle_20 : decode cX7_whistle 20 = .ok (.invokespecial 73, 3) := by decide +kernel
theorem dX7_whistle_23 : decode cX7_whistle 23 = .ok (.athrow, 1) := by decide +kernel
theorem dX7_whistle_24 : decode cX7_whistle 24 = .ok (.aload_n 0, 1) := by decide +kernel
theorem dX7_whistle_25 : decode cX7_whistle 25 = .ok (.getfield 10, 3) := by decide +kernel
theorem dX7_whistle_28 : decode cX7_whistle 28 = .ok (.iload_n 1, 1) := by decide +kernel
theorem dX7_whistle_29 : decode cX7_whistle 29 = .ok (.iload_n 2, 1) := by decide +kernel
theorem dX7_whistle_30 : decode cX7_whistle 30 = .ok (.invokevirtual 166, 3) := by decide +kernel
theorem dX7_whistle_33 : decode cX7_whistle 33 = .ok (.ifCond .eq 13, 3) := by decide +kernel
theorem dX7_whistle_36 : decode cX7_whistle 36 = .ok (.new 89, 3) := by decide +kernel
theorem dX7_whistle_39 : decode cX7_whistle 39 = .ok (.dup, 1) := by decide +kernel
theorem dX7_whistle_40 : decode cX7_whistle 40 = .ok (.ldc 170, 2) := by decide +kernel
theorem dX7_whistle_42 : decode cX7_whistle 42 = .ok (.invokespecial 93, 3) := by decide +kernel
theorem dX7_whistle_45 : decode cX7_whistle 45 = .ok (.athrow, 1) := by decide +kernel
theorem dX7_whistle_46 : decode cX7_whistle 46 = .ok (.aload_n 0, 1) := by decide +kernel
theorem dX7_whistle_47 : decode cX7_whistle 47 = .ok (.getfield 22, 3) := by decide +kernel
theorem dX7_whistle_50 : decode cX7_whistle 50 = .ok (.aload_n 0, 1) := by decide +kernel
theorem dX7_whistle_51 : decode cX7_whistle 51 = .ok (.getfield 10, 3) := by decide +kernel
theorem dX7_whistle_54 : decode cX7_whistle 54 = .ok (.invokevirtual 94, 3) := by decide +kernel
theorem dX7_whistle_57 : decode cX7_whistle 57 = .ok (.aload_n 0, 1) := by decide +kernel
theorem dX7_whistle_58 : decode cX7_whistle 58 = .ok (.iload_n 1, 1) := by decide +kernel
theorem dX7_whistle_59 : decode cX7_whistle 59 = .ok (.iload_n 2, 1) := by decide +kernel
theorem dX7_whistle_60 : decode cX7_whistle 60 = .ok (.invokevirtual 172, 3) := by decide +kernel
theorem dX7_whistle_63 : decode cX7_whistle 63 = .ok (.ireturn, 1) := by decide +kernel
set_option maxRecDepth 20000 in
theorem ggX7_append_X5_add : GoodIn wsX7_append wsX5_add := goodIn_r _ [11, 12, 13, 23, 24] (by decide +kernel) (by decide +kernel)
set_option maxRecDepth 20000 in
theorem gX7_append_X5_add : GoodIn wsX7_append (wsV RX7 180 RX5 yX5_add wsX5_add) := goodIn_app (goodIn_of _ (by decide +kernel)) ggX7_append_X5_add
theorem dX7_append_0 : decode cX7_append 0 = .ok (.iload_n 1, 1) := by decide +kernel
theorem dX7_append_1 : decode cX7_append 1 = .ok (.bipush 33, 2) := by decide +kernel
theorem dX7_append_3 : decode cX7_append 3 = .ok (.if_icmp .lt 9, 3) := by decide +kernel
theorem dX7_append_6 : decode cX7_append 6 = .ok (.iload_n 1, 1) := by decide +kernel
theorem dX7_append_7 : decode cX7_append 7 = .ok (.bipush 126, 2) := by decide +kernel
theorem dX7_append_9 : decode cX7_append 9 = .ok (.if_icmp .le 13, 3) := by decide +kernel
theorem dX7_append_12 : decode cX7_append 12 = .ok (.new 80, 3) := by decide +kernel
theorem dX7_append_15 : decode cX7_append 15 = .ok (.dup, 1) := by decide +kernel
theorem dX7_append_16 : decode cX7_append 16 = .ok (.ldc 175, 2) := by decide +kernel
theorem dX7_append_18 : decode cX7_append 18 = .ok (.invokespecial 84, 3) := by decide +kernel
theorem dX7_append_21 : decode cX7_append 21 = .ok (.athrow, 1) := by decide +kernel
theorem dX7_append_22 : decode cX7_append 22 = .ok (.aload_n 0, 1) := by decide +kernel
theorem dX7_append_23 : decode cX7_append 23 = .ok (.getfield 29, 3) := by decide +kernel
theorem dX7_append_26 : decode cX7_append 26 = .ok (.getfield 177, 3) := by decide +kernel
theorem dX7_append_29 : decode cX7_append 29 = .ok (.bipush 60, 2) := by decide +kernel
theorem dX7_append_31 : decode cX7_append 31 = .ok (.if_icmp .lt 13, 3) := by decide +kernel
theorem dX7_append_34 : decode cX7_append 34 = .ok (.new 89, 3) := by decide +kernel
theorem dX7_append_37 : decode cX7_append 37 = .ok (.dup, 1) := by decide +kernel
theorem dX7_append_38 : decode cX7_append 38 = .ok (.ldc 178, 2) := by decide +kernel
theorem dX7_append_40 : decode cX7_append 40 = .ok (.invokespecial 93, 3) := by decide +kernel
theorem dX7_append_43 : decode cX7_append 43 = .ok (.athrow, 1) := by decide +kernel
theorem dX7_append_44 : decode cX7_append 44 = .ok (.aload_n 0, 1) := by decide +kernel
theorem dX7_append_45 : decode cX7_append 45 = .ok (.getfield 29, 3) := by decide +kernel
theorem dX7_append_48 : decode cX7_append 48 = .ok (.iload_n 1, 1) := by decide +kernel
theorem dX7_append_49 : decode cX7_append 49 = .ok (.i2c, 1) := by decide +kernel
theorem dX7_append_50 : decode cX7_append 50 = .ok (.invokevirtual 180, 3) := by decide +kernel
theorem dX7_append_53 : decode cX7_append 53 = .ok (.aload_n 0, 1) := by decide +kernel
theorem dX7_append_54 : decode cX7_append 54 = .ok (.getfield 29, 3) := by decide +kernel
theorem dX7_append_57 : decode cX7_append 57 = .ok (.getfield 177, 3) := by decide +kernel
theorem dX7_append_60 : decode cX7_append 60 = .ok (.ireturn, 1) := by decide +kernel
set_option maxRecDepth 20000 in
theorem ggX7_clearBuffer_X5_empty : GoodIn wsX7_clearBuffer wsX5_empty := goodIn_r _ [7, 8, 18, 19] (by decide +kernel) (by decide +kernel)
set_option maxRecDepth 20000 in
theorem gX7_clearBuffer_X5_empty : GoodIn wsX7_clearBuffer (wsV RX7 102 RX5 yX5_empty wsX5_empty) := goodIn_app (goodIn_of _ (by decide +kernel)) ggX7_clearBuffer_X5_empty
theorem dX7_clearBuffer_0 : decode cX7_clearBuffer 0 = .ok (.aload_n 0, 1) := by decide +kernel
theorem dX7_clearBuffer_1 : decode cX7_clearBuffer 1 = .ok (.getfield 29, 3) := by decide +kernel
theorem dX7_clearBuffer_4 : decode cX7_clearBuffer 4 = .ok (.getfield 177, 3) := by decide +kernel
theorem dX7_clearBuffer_7 : decode cX7_clearBuffer 7 = .ok (.istore_n 1, 1) := by decide +kernel
theorem dX7_clearBuffer_8 : decode cX7_clearBuffer 8 = .ok (.aload_n 0, 1) := by decide +kernel
theorem dX7_clearBuffer_9 : decode cX7_clearBuffer 9 = .ok (.getfield 29, 3) := by decide +kernel
theorem dX7_clearBuffer_12 : decode cX7_clearBuffer 12 = .ok (.invokevirtual 102, 3) := by decide +kernel
theorem dX7_clearBuffer_15 : decode cX7_clearBuffer 15 = .ok (.iload_n 1, 1) := by decide +kernel
theorem dX7_clearBuffer_16 : decode cX7_clearBuffer 16 = .ok (.ireturn, 1) := by decide +kernel
set_option maxRecDepth 20000 in
theorem ggX7_tuneError_X0_readTune : GoodIn wsX7_tuneError wsX0_readTune := goodIn_r _ [7, 8, 9, 10, 11, 6, 12, 13, 14, 15, 16, 17, 18, 19, 20, 21, 22, 23, 24, 25, 26, 27, 28, 29, 30, 31, 32, 33, 34, 35, 36, 37, 38, 39, 40, 41, 42, 43, 44, 45, 46, 47, 48, 49, 50, 51, 52, 53, 54, 55, 56, 57, 58, 59, 60, 61, 62, 63, 64, 65, 66, 67, 68, 69, 70, 71, 72, 73, 74, 75, 76, 77, 78, 79, 80, 81, 82, 83, 84, 85, 86, 87, 88, 89, 90, 91, 92, 93, 94, 95, 96, 97, 98, 99, 100, 101, 102, 103, 104, 105, 106, 107, 108, 109, 110, 111, 112, 113, 114, 115, 116, 117, 118, 119, 120, 121, 122, 123, 124, 125, 126, 127, 128, 129, 130, 131, 132, 142, 143, 144, 145, 146] (by decide +kernel) (by decide +kernel)
set_option maxRecDepth 20000 in
theorem gX7_tuneError_X0_readTune : GoodIn wsX7_tuneError (wsV RX7 188 RX0 yX0_readTune wsX0_readTune) := goodIn_app (goodIn_of _ (by decide +kernel)) ggX7_tuneError_X0_readTune
theorem dX7_tuneError_0 : decode cX7_tuneError 0 = .ok (.aload_n 0, 1) := by decide +kernel
theorem dX7_tuneError_1 : decode cX7_tuneError 1 = .ok (.getfield 36, 3) := by decide +kernel
theorem dX7_tuneError_4 : decode cX7_tuneError 4 = .ok (.aload_n 0, 1) := by decide +kernel
theorem dX7_tuneError_5 : decode cX7_tuneError 5 = .ok (.getfield 29, 3) := by decide +kernel
theorem dX7_tuneError_8 : decode cX7_tuneError 8 = .ok (.invokevirtual 188, 3) := by decide +kernel
theorem dX7_tuneError_11 : decode cX7_tuneError 11 = .ok (.ireturn, 1) := by decide +kernel
set_option maxRecDepth 20000 in
theorem ggX7_undo_X1_popInto : GoodIn wsX7_undo wsX1_popInto := goodIn_r _ [10, 11, 12, 13, 14, 15, 16, 17, 18, 19, 20, 21, 22, 23, 24, 25, 26, 27, 28, 29, 30, 31, 32, 33, 34, 35, 36, 37, 38, 48, 49, 50, 51, 52, 53, 54, 55, 56, 57, 58, 59, 60, 61, 62, 63, 64, 65, 66] (by decide +kernel) (by decide +kernel)
set_option maxRecDepth 20000 in
theorem gX7_undo_X1_popInto : GoodIn wsX7_undo (wsV RX7 213 RX1 yX1_popInto wsX1_popInto) := goodIn_app (goodIn_of _ (by decide +kernel)) ggX7_undo_X1_popInto
theorem dX7_undo_0 : decode cX7_undo 0 = .ok (.aload_n 0, 1) := by decide +kernel
theorem dX7_undo_1 : decode cX7_undo 1 = .ok (.getfield 22, 3) := by decide +kernel
theorem dX7_undo_4 : decode cX7_undo 4 = .ok (.getfield 208, 3) := by decide +kernel
theorem dX7_undo_7 : decode cX7_undo 7 = .ok (.ifCond .ne 13, 3) := by decide +kernel
theorem dX7_undo_10 : decode cX7_undo 10 = .ok (.new 89, 3) := by decide +kernel
theorem dX7_undo_13 : decode cX7_undo 13 = .ok (.dup, 1) := by decide +kernel
theorem dX7_undo_14 : decode cX7_undo 14 = .ok (.ldc 211, 2) := by decide +kernel
theorem dX7_undo_16 : decode cX7_undo 16 = .ok (.invokespecial 93, 3) := by decide +kernel
theorem dX7_undo_19 : decode cX7_undo 19 = .ok (.athrow, 1) := by decide +kernel
theorem dX7_undo_20 : decode cX7_undo 20 = .ok (.aload_n 0, 1) := by decide +kernel
theorem dX7_undo_21 : decode cX7_undo 21 = .ok (.getfield 22, 3) := by decide +kernel
theorem dX7_undo_24 : decode cX7_undo 24 = .ok (.aload_n 0, 1) := by decide +kernel
theorem dX7_undo_25 : decode cX7_undo 25 = .ok (.getfield 10, 3) := by decide +kernel
theorem dX7_undo_28 : decode cX7_undo 28 = .ok (.invokevirtual 213, 3) := by decide +kernel
theorem dX7_undo_31 : decode cX7_undo 31 = .ok (.aload_n 0, 1) := by decide +kernel
theorem dX7_undo_32 : decode cX7_undo 32 = .ok (.getfield 22, 3) := by decide +kernel
theorem dX7_undo_35 : decode cX7_undo 35 = .ok (.getfield 208, 3) := by decide +kernel
theorem dX7_undo_38 : decode cX7_undo 38 = .ok (.ireturn, 1) := by decide +kernel
set_option maxRecDepth 20000 in
theorem ggX7_message_X7_isMessage : GoodIn wsX7_message wsX7_isMessage := goodIn_r _ [13] (by decide +kernel) (by decide +kernel)
set_option maxRecDepth 20000 in
theorem gX7_message_X7_isMessage : GoodIn wsX7_message (va_wsS RX7 65 yX7_isMessage wsX7_isMessage) := goodIn_app (goodIn_of _ (by decide +kernel)) ggX7_message_X7_isMessage
theorem dX7_message_0 : decode cX7_message 0 = .ok (.iload_n 1, 1) := by decide +kernel
theorem dX7_message_1 : decode cX7_message 1 = .ok (.invokestatic 65, 3) := by decide +kernel
theorem dX7_message_4 : decode cX7_message 4 = .ok (.ifCond .ne 13, 3) := by decide +kernel
theorem dX7_message_7 : decode cX7_message 7 = .ok (.new 69, 3) := by decide +kernel
theorem dX7_message_10 : decode cX7_message 10 = .ok (.dup, 1) := by decide +kernel
theorem dX7_message_11 : decode cX7_message 11 = .ok (.ldc 71, 2) := by decide +kernel
theorem dX7_message_13 : decode cX7_message 13 = .ok (.invokespecial 73, 3) := by decide +kernel
theorem dX7_message_16 : decode cX7_message 16 = .ok (.athrow, 1) := by decide +kernel
theorem dX7_message_17 : decode cX7_message 17 = .ok (.iload_n 2, 1) := by decide +kernel
theorem dX7_message_18 : decode cX7_message 18 = .ok (.tableswitch 70 0 3 #[30, 40, 50, 60], 30) := by decide +kernel
theorem dX7_message_48 : decode cX7_message 48 = .ok (.aload_n 0, 1) := by decide +kernel
theorem dX7_message_49 : decode cX7_message 49 = .ok (.getfield 10, 3) := by decide +kernel
theorem dX7_message_52 : decode cX7_message 52 = .ok (.getfield 109, 3) := by decide +kernel
theorem dX7_message_55 : decode cX7_message 55 = .ok (.iload_n 1, 1) := by decide +kernel
theorem dX7_message_56 : decode cX7_message 56 = .ok (.iaload, 1) := by decide +kernel
theorem dX7_message_57 : decode cX7_message 57 = .ok (.ireturn, 1) := by decide +kernel
theorem dX7_message_58 : decode cX7_message 58 = .ok (.aload_n 0, 1) := by decide +kernel
theorem dX7_message_59 : decode cX7_message 59 = .ok (.getfield 10, 3) := by decide +kernel
theorem dX7_message_62 : decode cX7_message 62 = .ok (.getfield 141, 3) := by decide +kernel
theorem dX7_message_65 : decode cX7_message 65 = .ok (.iload_n 1, 1) := by decide +kernel
theorem dX7_message_66 : decode cX7_message 66 = .ok (.iaload, 1) := by decide +kernel
theorem dX7_message_67 : decode cX7_message 67 = .ok (.ireturn, 1) := by decide +kernel
theorem dX7_message_68 : decode cX7_message 68 = .ok (.aload_n 0, 1) := by decide +kernel
theorem dX7_message_69 : decode cX7_message 69 = .ok (.getfield 10, 3) := by decide +kernel
theorem dX7_message_72 : decode cX7_message 72 = .ok (.getfield 221, 3) := by decide +kernel
theorem dX7_message_75 : decode cX7_message 75 = .ok (.iload_n 1, 1) := by decide +kernel
theorem dX7_message_76 : decode cX7_message 76 = .ok (.iaload, 1) := by decide +kernel
theorem dX7_message_77 : decode cX7_message 77 = .ok (.ireturn, 1) := by decide +kernel
theorem dX7_message_78 : decode cX7_message 78 = .ok (.aload_n 0, 1) := by decide +kernel
theorem dX7_message_79 : decode cX7_message 79 = .ok (.getfield 10, 3) := by decide +kernel
theorem dX7_message_82 : decode cX7_message 82 = .ok (.getfield 224, 3) := by decide +kernel
theorem dX7_message_85 : decode cX7_message 85 = .ok (.iload_n 1, 1) := by decide +kernel
theorem dX7_message_86 : decode cX7_message 86 = .ok (.iaload, 1) := by decide +kernel
theorem dX7_message_87 : decode cX7_message 87 = .ok (.ireturn, 1) := by decide +kernel
theorem dX7_message_88 : decode cX7_message 88 = .ok (.new 80, 3) := by decide +kernel
theorem dX7_message_91 : decode cX7_message 91 = .ok (.dup, 1) := by decide +kernel
theorem dX7_message_92 : decode cX7_message 92 = .ok (.ldc 206, 2) := by decide +kernel
theorem dX7_message_94 : decode cX7_message 94 = .ok (.invokespecial 84, 3) := by decide +kernel
theorem dX7_message_97 : decode cX7_message 97 = .ok (.athrow, 1) := by decide +kernel
set_option maxRecDepth 20000 in
theorem ggX7_note_X7_isMessage : GoodIn wsX7_note wsX7_isMessage := goodIn_r _ [10] (by decide +kernel) (by decide +kernel)
set_option maxRecDepth 20000 in
theorem gX7_note_X7_isMessage : GoodIn wsX7_note (va_wsS RX7 65 yX7_isMessage wsX7_isMessage) := goodIn_app (goodIn_of _ (by decide +kernel)) ggX7_note_X7_isMessage
set_option maxRecDepth 20000 in
theorem ggX7_note_X3_noteAt : GoodIn wsX7_note wsX3_noteAt := goodIn_r _ [15, 16, 26, 27, 28, 29, 30, 31, 32, 33, 34, 35, 36, 37, 38, 39, 40, 41] (by decide +kernel) (by decide +kernel)
set_option maxRecDepth 20000 in
theorem gX7_note_X3_noteAt : GoodIn wsX7_note (wsV RX7 229 RX3 yX3_noteAt wsX3_noteAt) := goodIn_app (goodIn_of _ (by decide +kernel)) ggX7_note_X3_noteAt
theorem dX7_note_0 : decode cX7_note 0 = .ok (.iload_n 1, 1) := by decide +kernel
theorem dX7_note_1 : decode cX7_note 1 = .ok (.invokestatic 65, 3) := by decide +kernel
theorem dX7_note_4 : decode cX7_note 4 = .ok (.ifCond .ne 13, 3) := by decide +kernel
theorem dX7_note_7 : decode cX7_note 7 = .ok (.new 69, 3) := by decide +kernel
theorem dX7_note_10 : decode cX7_note 10 = .ok (.dup, 1) := by decide +kernel
theorem dX7_note_11 : decode cX7_note 11 = .ok (.ldc 71, 2) := by decide +kernel
theorem dX7_note_13 : decode cX7_note 13 = .ok (.invokespecial 73, 3) := by decide +kernel
theorem dX7_note_16 : decode cX7_note 16 = .ok (.athrow, 1) := by decide +kernel
theorem dX7_note_17 : decode cX7_note 17 = .ok (.iload_n 2, 1) := by decide +kernel
theorem dX7_note_18 : decode cX7_note 18 = .ok (.ifCond .lt 9, 3) := by decide +kernel
theorem dX7_note_21 : decode cX7_note 21 = .ok (.iload_n 2, 1) := by decide +kernel
theorem dX7_note_22 : decode cX7_note 22 = .ok (.bipush 8, 2) := by decide +kernel
theorem dX7_note_24 : decode cX7_note 24 = .ok (.if_icmp .lt 13, 3) := by decide +kernel
theorem dX7_note_27 : decode cX7_note 27 = .ok (.new 80, 3) := by decide +kernel
theorem dX7_note_30 : decode cX7_note 30 = .ok (.dup, 1) := by decide +kernel
theorem dX7_note_31 : decode cX7_note 31 = .ok (.ldc 227, 2) := by decide +kernel
theorem dX7_note_33 : decode cX7_note 33 = .ok (.invokespecial 84, 3) := by decide +kernel
theorem dX7_note_36 : decode cX7_note 36 = .ok (.athrow, 1) := by decide +kernel
theorem dX7_note_37 : decode cX7_note 37 = .ok (.iload_n 2, 1) := by decide +kernel
theorem dX7_note_38 : decode cX7_note 38 = .ok (.aload_n 0, 1) := by decide +kernel
theorem dX7_note_39 : decode cX7_note 39 = .ok (.getfield 10, 3) := by decide +kernel
theorem dX7_note_42 : decode cX7_note 42 = .ok (.getfield 109, 3) := by decide +kernel
theorem dX7_note_45 : decode cX7_note 45 = .ok (.iload_n 1, 1) := by decide +kernel
theorem dX7_note_46 : decode cX7_note 46 = .ok (.iaload, 1) := by decide +kernel
theorem dX7_note_47 : decode cX7_note 47 = .ok (.if_icmp .ge 15, 3) := by decide +kernel
theorem dX7_note_50 : decode cX7_note 50 = .ok (.aload_n 0, 1) := by decide +kernel
theorem dX7_note_51 : decode cX7_note 51 = .ok (.getfield 10, 3) := by decide +kernel
theorem dX7_note_54 : decode cX7_note 54 = .ok (.iload_n 1, 1) := by decide +kernel
theorem dX7_note_55 : decode cX7_note 55 = .ok (.iload_n 2, 1) := by decide +kernel
theorem dX7_note_56 : decode cX7_note 56 = .ok (.invokevirtual 229, 3) := by decide +kernel
theorem dX7_note_59 : decode cX7_note 59 = .ok (.goto 4, 3) := by decide +kernel
theorem dX7_note_62 : decode cX7_note 62 = .ok (.iconst (-1), 1) := by decide +kernel
theorem dX7_note_63 : decode cX7_note 63 = .ok (.ireturn, 1) := by decide +kernel
set_option maxRecDepth 20000 in
theorem ggX7_room_X7_isRoom : GoodIn wsX7_room wsX7_isRoom := goodIn_r _ [14] (by decide +kernel) (by decide +kernel)
set_option maxRecDepth 20000 in
theorem gX7_room_X7_isRoom : GoodIn wsX7_room (va_wsS RX7 121 yX7_isRoom wsX7_isRoom) := goodIn_app (goodIn_of _ (by decide +kernel)) ggX7_room_X7_isRoom
set_option maxRecDepth 20000 in
theorem ggX7_room_X7_hasBit : GoodIn wsX7_room wsX7_hasBit := goodIn_r _ [17] (by decide +kernel) (by decide +kernel)
set_option maxRecDepth 20000 in
theorem gX7_room_X7_hasBit : GoodIn wsX7_room (va_wsS RX7 144 yX7_hasBit wsX7_hasBit) := goodIn_app (goodIn_of _ (by decide +kernel)) ggX7_room_X7_hasBit
set_option maxRecDepth 20000 in
theorem ggX7_room_X3_isSilenced : GoodIn wsX7_room wsX3_isSilenced := goodIn_r _ [22, 23, 24, 34, 35, 36, 37, 38, 39, 40, 41, 42, 43, 44, 45, 46, 47, 48, 49] (by decide +kernel) (by decide +kernel)
set_option maxRecDepth 20000 in
theorem gX7_room_X3_isSilenced : GoodIn wsX7_room (wsV RX7 238 RX3 yX3_isSilenced wsX3_isSilenced) := goodIn_app (goodIn_of _ (by decide +kernel)) ggX7_room_X3_isSilenced
theorem dX7_room_0 : decode cX7_room 0 = .ok (.iload_n 1, 1) := by decide +kernel
theorem dX7_room_1 : decode cX7_room 1 = .ok (.invokestatic 121, 3) := by decide +kernel
theorem dX7_room_4 : decode cX7_room 4 = .ok (.ifCond .ne 13, 3) := by decide +kernel
theorem dX7_room_7 : decode cX7_room 7 = .ok (.new 69, 3) := by decide +kernel
theorem dX7_room_10 : decode cX7_room 10 = .ok (.dup, 1) := by decide +kernel
theorem dX7_room_11 : decode cX7_room 11 = .ok (.ldc 124, 2) := by decide +kernel
theorem dX7_room_13 : decode cX7_room 13 = .ok (.invokespecial 73, 3) := by decide +kernel
theorem dX7_room_16 : decode cX7_room 16 = .ok (.athrow, 1) := by decide +kernel
theorem dX7_room_17 : decode cX7_room 17 = .ok (.iload_n 2, 1) := by decide +kernel
theorem dX7_room_18 : decode cX7_room 18 = .ok (.tableswitch 115 0 5 #[38, 48, 58, 78, 95, 105], 38) := by decide +kernel
theorem dX7_room_56 : decode cX7_room 56 = .ok (.aload_n 0, 1) := by decide +kernel
theorem dX7_room_57 : decode cX7_room 57 = .ok (.getfield 10, 3) := by decide +kernel
theorem dX7_room_60 : decode cX7_room 60 = .ok (.getfield 126, 3) := by decide +kernel
theorem dX7_room_63 : decode cX7_room 63 = .ok (.iload_n 1, 1) := by decide +kernel
theorem dX7_room_64 : decode cX7_room 64 = .ok (.iaload, 1) := by decide +kernel
theorem dX7_room_65 : decode cX7_room 65 = .ok (.ireturn, 1) := by decide +kernel
theorem dX7_room_66 : decode cX7_room 66 = .ok (.aload_n 0, 1) := by decide +kernel
theorem dX7_room_67 : decode cX7_room 67 = .ok (.getfield 10, 3) := by decide +kernel
theorem dX7_room_70 : decode cX7_room 70 = .ok (.getfield 232, 3) := by decide +kernel
theorem dX7_room_73 : decode cX7_room 73 = .ok (.iload_n 1, 1) := by decide +kernel
theorem dX7_room_74 : decode cX7_room 74 = .ok (.iaload, 1) := by decide +kernel
theorem dX7_room_75 : decode cX7_room 75 = .ok (.ireturn, 1) := by decide +kernel
theorem dX7_room_76 : decode cX7_room 76 = .ok (.aload_n 0, 1) := by decide +kernel
theorem dX7_room_77 : decode cX7_room 77 = .ok (.getfield 10, 3) := by decide +kernel
theorem dX7_room_80 : decode cX7_room 80 = .ok (.getfield 235, 3) := by decide +kernel
theorem dX7_room_83 : decode cX7_room 83 = .ok (.iload_n 1, 1) := by decide +kernel
theorem dX7_room_84 : decode cX7_room 84 = .ok (.invokestatic 144, 3) := by decide +kernel
theorem dX7_room_87 : decode cX7_room 87 = .ok (.ifCond .eq 7, 3) := by decide +kernel
theorem dX7_room_90 : decode cX7_room 90 = .ok (.iconst 1, 1) := by decide +kernel
theorem dX7_room_91 : decode cX7_room 91 = .ok (.goto 4, 3) := by decide +kernel
theorem dX7_room_94 : decode cX7_room 94 = .ok (.iconst 0, 1) := by decide +kernel
theorem dX7_room_95 : decode cX7_room 95 = .ok (.ireturn, 1) := by decide +kernel
theorem dX7_room_96 : decode cX7_room 96 = .ok (.aload_n 0, 1) := by decide +kernel
theorem dX7_room_97 : decode cX7_room 97 = .ok (.getfield 10, 3) := by decide +kernel
theorem dX7_room_100 : decode cX7_room 100 = .ok (.iload_n 1, 1) := by decide +kernel
theorem dX7_room_101 : decode cX7_room 101 = .ok (.invokevirtual 238, 3) := by decide +kernel
theorem dX7_room_104 : decode cX7_room 104 = .ok (.ifCond .eq 7, 3) := by decide +kernel
theorem dX7_room_107 : decode cX7_room 107 = .ok (.iconst 1, 1) := by decide +kernel
theorem dX7_room_108 : decode cX7_room 108 = .ok (.goto 4, 3) := by decide +kernel
theorem dX7_room_111 : decode cX7_room 111 = .ok (.iconst 0, 1) := by decide +kernel
theorem dX7_room_112 : decode cX7_room 112 = .ok (.ireturn, 1) := by decide +kernel
theorem dX7_room_113 : decode cX7_room 113 = .ok (.aload_n 0, 1) := by decide +kernel
theorem dX7_room_114 : decode cX7_room 114 = .ok (.getfield 10, 3) := by decide +kernel
theorem dX7_room_117 : decode cX7_room 117 = .ok (.getfield 241, 3) := by decide +kernel
theorem dX7_room_120 : decode cX7_room 120 = .ok (.iload_n 1, 1) := by decide +kernel
theorem dX7_room_121 : decode cX7_room 121 = .ok (.iaload, 1) := by decide +kernel
theorem dX7_room_122 : decode cX7_room 122 = .ok (.ireturn, 1) := by decide +kernel
theorem dX7_room_123 : decode cX7_room 123 = .ok (.aload_n 0, 1) := by decide +kernel
theorem dX7_room_124 : decode cX7_room 124 = .ok (.getfield 10, 3) := by decide +kernel
theorem dX7_room_127 : decode cX7_room 127 = .ok (.getfield 244, 3) := by decide +kernel
theorem dX7_room_130 : decode cX7_room 130 = .ok (.iload_n 1, 1) := by decide +kernel
theorem dX7_room_131 : decode cX7_room 131 = .ok (.iaload, 1) := by decide +kernel
theorem dX7_room_132 : decode cX7_room 132 = .ok (.ireturn, 1) := by decide +kernel
theorem dX7_room_133 : decode cX7_room 133 = .ok (.new 80, 3) := by decide +kernel
theorem dX7_room_136 : decode cX7_room 136 = .ok (.dup, 1) := by decide +kernel
theorem dX7_room_137 : decode cX7_room 137 = .ok (.ldc 206, 2) := by decide +kernel
theorem dX7_room_139 : decode cX7_room 139 = .ok (.invokespecial 84, 3) := by decide +kernel
theorem dX7_room_142 : decode cX7_room 142 = .ok (.athrow, 1) := by decide +kernel
theorem dX7_latest_0 : decode cX7_latest 0 = .ok (.iload_n 1, 1) := by decide +kernel
theorem dX7_latest_1 : decode cX7_latest 1 = .ok (.ifCond .lt 9, 3) := by decide +kernel
theorem dX7_latest_4 : decode cX7_latest 4 = .ok (.iload_n 1, 1) := by decide +kernel
theorem dX7_latest_5 : decode cX7_latest 5 = .ok (.bipush 6, 2) := by decide +kernel
theorem dX7_latest_7 : decode cX7_latest 7 = .ok (.if_icmp .lt 13, 3) := by decide +kernel
theorem dX7_latest_10 : decode cX7_latest 10 = .ok (.new 80, 3) := by decide +kernel
theorem dX7_latest_13 : decode cX7_latest 13 = .ok (.dup, 1) := by decide +kernel
theorem dX7_latest_14 : decode cX7_latest 14 = .ok (.ldc 206, 2) := by decide +kernel
theorem dX7_latest_16 : decode cX7_latest 16 = .ok (.invokespecial 84, 3) := by decide +kernel
theorem dX7_latest_19 : decode cX7_latest 19 = .ok (.athrow, 1) := by decide +kernel
theorem dX7_latest_20 : decode cX7_latest 20 = .ok (.aload_n 0, 1) := by decide +kernel
theorem dX7_latest_21 : decode cX7_latest 21 = .ok (.getfield 10, 3) := by decide +kernel
theorem dX7_latest_24 : decode cX7_latest 24 = .ok (.getfield 247, 3) := by decide +kernel
theorem dX7_latest_27 : decode cX7_latest 27 = .ok (.iload_n 1, 1) := by decide +kernel
theorem dX7_latest_28 : decode cX7_latest 28 = .ok (.iaload, 1) := by decide +kernel
theorem dX7_latest_29 : decode cX7_latest 29 = .ok (.ireturn, 1) := by decide +kernel
set_option maxRecDepth 20000 in
theorem ggX7_count_X3_messagesWithTune : GoodIn wsX7_count wsX3_messagesWithTune := goodIn_r _ [19, 20, 94, 95, 96, 97, 98, 99, 100, 101, 102, 103, 104, 105, 106, 107, 108, 109] (by decide +kernel) (by decide +kernel)
set_option maxRecDepth 20000 in
theorem gX7_count_X3_messagesWithTune : GoodIn wsX7_count (wsV RX7 250 RX3 yX3_messagesWithTune wsX3_messagesWithTune) := goodIn_app (goodIn_of _ (by decide +kernel)) ggX7_count_X3_messagesWithTune
set_option maxRecDepth 20000 in
theorem ggX7_count_X4_growFrom : GoodIn wsX7_count wsX4_growFrom := goodIn_r _ [25, 26, 27, 28, 29, 30, 31, 32, 33, 34, 35, 36, 24, 37, 38, 39, 40, 18, 41, 42, 43, 44, 45, 46, 47, 48, 49, 50, 110, 111, 112, 94, 95, 96, 97, 98, 99, 100, 101, 102, 103, 104, 105, 106, 107, 108, 109] (by decide +kernel) (by decide +kernel)
set_option maxRecDepth 20000 in
theorem gX7_count_X4_growFrom : GoodIn wsX7_count (wsV RX7 254 RX4 yX4_growFrom wsX4_growFrom) := goodIn_app (goodIn_of _ (by decide +kernel)) ggX7_count_X4_growFrom
set_option maxRecDepth 20000 in
theorem ggX7_count_X3_longestTune : GoodIn wsX7_count wsX3_longestTune := goodIn_r _ [54, 20, 55, 56, 57, 58, 94, 95, 96, 97, 98, 99, 100, 101, 102, 103, 104, 105, 106, 107, 108, 109] (by decide +kernel) (by decide +kernel)
set_option maxRecDepth 20000 in
theorem gX7_count_X3_longestTune : GoodIn wsX7_count (wsV RX7 260 RX3 yX3_longestTune wsX3_longestTune) := goodIn_app (goodIn_of _ (by decide +kernel)) ggX7_count_X3_longestTune
set_option maxRecDepth 20000 in
theorem ggX7_count_J6_bitCount_0f7a4 : GoodIn wsX7_count wsJ6_bitCount_0f7a4 := goodIn_r _ [62, 63, 64, 65] (by decide +kernel) (by decide +kernel)
set_option maxRecDepth 20000 in
theorem gX7_count_J6_bitCount_0f7a4 : GoodIn wsX7_count (va_wsS RX7 134 yJ6_bitCount_0f7a4 wsJ6_bitCount_0f7a4) := goodIn_app (goodIn_of _ (by decide +kernel)) ggX7_count_J6_bitCount_0f7a4
set_option maxRecDepth 20000 in
theorem ggX7_count_X3_silencedRooms : GoodIn wsX7_count wsX3_silencedRooms := goodIn_r _ [69, 70, 71, 72, 18, 73, 74, 75, 94, 95, 96, 97, 98, 99, 100, 101, 102, 103, 104, 105, 106, 107, 108, 109] (by decide +kernel) (by decide +kernel)
set_option maxRecDepth 20000 in
theorem gX7_count_X3_silencedRooms : GoodIn wsX7_count (wsV RX7 263 RX3 yX3_silencedRooms wsX3_silencedRooms) := goodIn_app (goodIn_of _ (by decide +kernel)) ggX7_count_X3_silencedRooms
set_option maxRecDepth 20000 in
theorem ggX7_count_X7_sumOf : GoodIn wsX7_count wsX7_sumOf := goodIn_r _ [79] (by decide +kernel) (by decide +kernel)
set_option maxRecDepth 20000 in
theorem gX7_count_X7_sumOf : GoodIn wsX7_count (va_wsS RX7 266 yX7_sumOf wsX7_sumOf) := goodIn_app (goodIn_of _ (by decide +kernel)) ggX7_count_X7_sumOf
set_option maxRecDepth 20000 in
theorem ggX7_count_X3_roomsOfKey : GoodIn wsX7_count wsX3_roomsOfKey := goodIn_r _ [83, 84, 94, 95, 96, 97, 98, 99, 100, 101, 102, 103, 104, 105, 106, 107, 108, 109] (by decide +kernel) (by decide +kernel)
set_option maxRecDepth 20000 in
theorem gX7_count_X3_roomsOfKey : GoodIn wsX7_count (wsV RX7 270 RX3 yX3_roomsOfKey wsX3_roomsOfKey) := goodIn_app (goodIn_of _ (by decide +kernel)) ggX7_count_X3_roomsOfKey
theorem dX7_count_0 : decode cX7_count 0 = .ok (.iload_n 1, 1) := by decide +kernel
theorem dX7_count_1 : decode cX7_count 1 = .ok (.tableswitch 214 0 13 #[71, 79, 87, 95, 114, 122, 130, 141, 149, 160, 171, 186, 196, 206], 71) := by decide +kernel
theorem dX7_count_72 : decode cX7_count 72 = .ok (.aload_n 0, 1) := by decide +kernel
theorem dX7_count_73 : decode cX7_count 73 = .ok (.getfield 10, 3) := by decide +kernel
theorem dX7_count_76 : decode cX7_count 76 = .ok (.getfield 151, 3) := by decide +kernel
theorem dX7_count_79 : decode cX7_count 79 = .ok (.ireturn, 1) := by decide +kernel
theorem dX7_count_80 : decode cX7_count 80 = .ok (.aload_n 0, 1) := by decide +kernel
theorem dX7_count_81 : decode cX7_count 81 = .ok (.getfield 10, 3) := by decide +kernel
theorem dX7_count_84 : decode cX7_count 84 = .ok (.getfield 118, 3) := by decide +kernel
theorem dX7_count_87 : decode cX7_count 87 = .ok (.ireturn, 1) := by decide +kernel
theorem dX7_count_88 : decode cX7_count 88 = .ok (.aload_n 0, 1) := by decide +kernel
theorem dX7_count_89 : decode cX7_count 89 = .ok (.getfield 10, 3) := by decide +kernel
theorem dX7_count_92 : decode cX7_count 92 = .ok (.invokevirtual 250, 3) := by decide +kernel
theorem dX7_count_95 : decode cX7_count 95 = .ok (.ireturn, 1) := by decide +kernel
theorem dX7_count_96 : decode cX7_count 96 = .ok (.aload_n 0, 1) := by decide +kernel
theorem dX7_count_97 : decode cX7_count 97 = .ok (.getfield 50, 3) := by decide +kernel
theorem dX7_count_100 : decode cX7_count 100 = .ok (.aload_n 0, 1) := by decide +kernel
theorem dX7_count_101 : decode cX7_count 101 = .ok (.getfield 10, 3) := by decide +kernel
theorem dX7_count_104 : decode cX7_count 104 = .ok (.invokevirtual 254, 3) := by decide +kernel
theorem dX7_count_107 : decode cX7_count 107 = .ok (.aload_n 0, 1) := by decide +kernel
theorem dX7_count_108 : decode cX7_count 108 = .ok (.getfield 50, 3) := by decide +kernel
theorem dX7_count_111 : decode cX7_count 111 = .ok (.getfield 257, 3) := by decide +kernel
theorem dX7_count_114 : decode cX7_count 114 = .ok (.ireturn, 1) := by decide +kernel
theorem dX7_count_115 : decode cX7_count 115 = .ok (.aload_n 0, 1) := by decide +kernel
theorem dX7_count_116 : decode cX7_count 116 = .ok (.getfield 10, 3) := by decide +kernel
theorem dX7_count_119 : decode cX7_count 119 = .ok (.invokevirtual 260, 3) := by decide +kernel
theorem dX7_count_122 : decode cX7_count 122 = .ok (.ireturn, 1) := by decide +kernel
theorem dX7_count_123 : decode cX7_count 123 = .ok (.aload_n 0, 1) := by decide +kernel
theorem dX7_count_124 : decode cX7_count 124 = .ok (.getfield 10, 3) := by decide +kernel
theorem dX7_count_127 : decode cX7_count 127 = .ok (.getfield 131, 3) := by decide +kernel
theorem dX7_count_130 : decode cX7_count 130 = .ok (.ireturn, 1) := by decide +kernel
theorem dX7_count_131 : decode cX7_count 131 = .ok (.aload_n 0, 1) := by decide +kernel
theorem dX7_count_132 : decode cX7_count 132 = .ok (.getfield 10, 3) := by decide +kernel
theorem dX7_count_135 : decode cX7_count 135 = .ok (.getfield 235, 3) := by decide +kernel
theorem dX7_count_138 : decode cX7_count 138 = .ok (.invokestatic 134, 3) := by decide +kernel
theorem dX7_count_141 : decode cX7_count 141 = .ok (.ireturn, 1) := by decide +kernel
theorem dX7_count_142 : decode cX7_count 142 = .ok (.aload_n 0, 1) := by decide +kernel
theorem dX7_count_143 : decode cX7_count 143 = .ok (.getfield 10, 3) := by decide +kernel
theorem dX7_count_146 : decode cX7_count 146 = .ok (.invokevirtual 263, 3) := by decide +kernel
theorem dX7_count_149 : decode cX7_count 149 = .ok (.ireturn, 1) := by decide +kernel
theorem dX7_count_150 : decode cX7_count 150 = .ok (.aload_n 0, 1) := by decide +kernel
theorem dX7_count_151 : decode cX7_count 151 = .ok (.getfield 10, 3) := by decide +kernel
theorem dX7_count_154 : decode cX7_count 154 = .ok (.getfield 221, 3) := by decide +kernel
theorem dX7_count_157 : decode cX7_count 157 = .ok (.invokestatic 266, 3) := by decide +kernel
theorem dX7_count_160 : decode cX7_count 160 = .ok (.ireturn, 1) := by decide +kernel
theorem dX7_count_161 : decode cX7_count 161 = .ok (.aload_n 0, 1) := by decide +kernel
theorem dX7_count_162 : decode cX7_count 162 = .ok (.getfield 10, 3) := by decide +kernel
theorem dX7_count_165 : decode cX7_count 165 = .ok (.getfield 232, 3) := by decide +kernel
theorem dX7_count_168 : decode cX7_count 168 = .ok (.invokestatic 266, 3) := by decide +kernel
theorem dX7_count_171 : decode cX7_count 171 = .ok (.ireturn, 1) := by decide +kernel
theorem dX7_count_172 : decode cX7_count 172 = .ok (.aload_n 0, 1) := by decide +kernel
theorem dX7_count_173 : decode cX7_count 173 = .ok (.getfield 10, 3) := by decide +kernel
theorem dX7_count_176 : decode cX7_count 176 = .ok (.aload_n 0, 1) := by decide +kernel
theorem dX7_count_177 : decode cX7_count 177 = .ok (.getfield 10, 3) := by decide +kernel
theorem dX7_count_180 : decode cX7_count 180 = .ok (.getfield 118, 3) := by decide +kernel
theorem dX7_count_183 : decode cX7_count 183 = .ok (.invokevirtual 270, 3) := by decide +kernel
theorem dX7_count_186 : decode cX7_count 186 = .ok (.ireturn, 1) := by decide +kernel
theorem dX7_count_187 : decode cX7_count 187 = .ok (.aload_n 0, 1) := by decide +kernel
theorem dX7_count_188 : decode cX7_count 188 = .ok (.getfield 10, 3) := by decide +kernel
theorem dX7_count_191 : decode cX7_count 191 = .ok (.getfield 161, 3) := by decide +kernel
theorem dX7_count_194 : decode cX7_count 194 = .ok (.iconst 0, 1) := by decide +kernel
theorem dX7_count_195 : decode cX7_count 195 = .ok (.iaload, 1) := by decide +kernel
theorem dX7_count_196 : decode cX7_count 196 = .ok (.ireturn, 1) := by decide +kernel
theorem dX7_count_197 : decode cX7_count 197 = .ok (.aload_n 0, 1) := by decide +kernel
theorem dX7_count_198 : decode cX7_count 198 = .ok (.getfield 10, 3) := by decide +kernel
theorem dX7_count_201 : decode cX7_count 201 = .ok (.getfield 161, 3) := by decide +kernel
theorem dX7_count_204 : decode cX7_count 204 = .ok (.iconst 1, 1) := by decide +kernel
theorem dX7_count_205 : decode cX7_count 205 = .ok (.iaload, 1) := by decide +kernel
theorem dX7_count_206 : decode cX7_count 206 = .ok (.ireturn, 1) := by decide +kernel
theorem dX7_count_207 : decode cX7_count 207 = .ok (.aload_n 0, 1) := by decide +kernel
theorem dX7_count_208 : decode cX7_count 208 = .ok (.getfield 22, 3) := by decide +kernel
theorem dX7_count_211 : decode cX7_count 211 = .ok (.getfield 208, 3) := by decide +kernel
theorem dX7_count_214 : decode cX7_count 214 = .ok (.ireturn, 1) := by decide +kernel
theorem dX7_count_215 : decode cX7_count 215 = .ok (.new 80, 3) := by decide +kernel
theorem dX7_count_218 : decode cX7_count 218 = .ok (.dup, 1) := by decide +kernel
theorem dX7_count_219 : decode cX7_count 219 = .ok (.ldc 206, 2) := by decide +kernel
theorem dX7_count_221 : decode cX7_count 221 = .ok (.invokespecial 84, 3) := by decide +kernel
theorem dX7_count_224 : decode cX7_count 224 = .ok (.athrow, 1) := by decide +kernel
set_option maxRecDepth 20000 in
theorem ggX7_decode_X7_isKey : GoodIn wsX7_decode wsX7_isKey := goodIn_r _ [6] (by decide +kernel) (by decide +kernel)
set_option maxRecDepth 20000 in
theorem gX7_decode_X7_isKey : GoodIn wsX7_decode (va_wsS RX7 113 yX7_isKey wsX7_isKey) := goodIn_app (goodIn_of _ (by decide +kernel)) ggX7_decode_X7_isKey
set_option maxRecDepth 20000 in
theorem ggX7_decode_X7_readTuneOfText : GoodIn wsX7_decode wsX7_readTuneOfText := goodIn_r _ [10, 11, 12, 13, 14, 15, 16, 17, 18, 19, 20, 21, 22, 23, 24, 25, 26, 27, 28, 29, 30, 31, 32, 33, 34, 35, 36, 37, 38, 39, 40, 41, 42, 43, 44, 45, 46, 47, 48, 49, 50, 51, 52, 53, 54, 55, 56, 57, 58, 59, 60, 61, 62, 63, 64, 65, 66, 67, 68, 69, 70, 71, 72, 73, 74, 75, 76, 77, 78, 79, 80, 81, 82, 83, 84, 85, 86, 87, 88, 89, 90, 91, 92, 93, 94, 95, 96, 97, 98, 99, 100, 101, 102, 103, 104, 105, 106, 107, 108, 109, 110, 111, 112, 113, 114, 115, 116, 117, 118, 119, 120, 121, 122, 123, 124, 125, 126, 127, 128, 129, 130, 131, 132, 133, 134, 135, 136, 137, 138, 139, 140, 141, 142, 143, 144, 145, 146, 147, 148, 149, 150, 151, 152, 153, 154, 155, 156, 157, 158, 159, 160, 161, 162, 163, 164, 165, 166, 243, 244, 245, 246, 247, 248, 249, 250, 251, 252, 253, 254, 255, 256, 257, 258, 259] (by decide +kernel) (by decide +kernel)
set_option maxRecDepth 20000 in
theorem gX7_decode_X7_readTuneOfText : GoodIn wsX7_decode (wsV RX7 76 RX7 yX7_readTuneOfText wsX7_readTuneOfText) := goodIn_app (goodIn_of _ (by decide +kernel)) ggX7_decode_X7_readTuneOfText
set_option maxRecDepth 20000 in
theorem ggX7_decode_X7_decodeByTree : GoodIn wsX7_decode wsX7_decodeByTree := goodIn_r _ [170, 171, 172, 173, 5, 174, 14, 175, 176, 177, 178, 179, 152, 180, 154, 181, 182, 183, 184, 185, 186, 187, 188, 189, 190, 191, 192, 193, 194, 195, 196, 197, 198, 199, 200, 201, 202, 203, 204, 205, 206, 207, 208, 209, 210, 211, 212, 213, 214, 215, 216, 217, 218, 219, 220, 162, 221, 222, 223, 224, 225, 226, 227, 228, 229, 230, 231, 232, 243, 244, 245, 246, 247, 248, 249, 250, 251, 257, 258, 259, 260, 261, 262, 263, 264, 265, 266, 267, 268, 269, 270, 271, 272, 273, 274, 275, 276, 277, 278] (by decide +kernel) (by decide +kernel)
set_option maxRecDepth 20000 in
theorem gX7_decode_X7_decodeByTree : GoodIn wsX7_decode (wsV RX7 275 RX7 yX7_decodeByTree wsX7_decodeByTree) := goodIn_app (goodIn_of _ (by decide +kernel)) ggX7_decode_X7_decodeByTree
set_option maxRecDepth 20000 in
theorem ggX7_decode_X7_decodeByMessages : GoodIn wsX7_decode wsX7_decodeByMessages := goodIn_r _ [236, 14, 177, 178, 179, 152, 180, 154, 237, 238, 239, 5, 240, 241, 176, 242, 230, 231, 199, 200, 201, 202, 203, 243, 244, 245, 246, 247, 248, 249, 250, 251, 257, 258, 259, 263, 264, 265, 266, 267, 268, 269, 270, 271, 272, 273, 274, 275, 276, 277, 278] (by decide +kernel) (by decide +kernel)
set_option maxRecDepth 20000 in
theorem gX7_decode_X7_decodeByMessages : GoodIn wsX7_decode (wsV RX7 278 RX7 yX7_decodeByMessages wsX7_decodeByMessages) := goodIn_app (goodIn_of _ (by decide +kernel)) ggX7_decode_X7_decodeByMessages
theorem dX7_decode_0 : decode cX7_decode 0 = .ok (.iload_n 1, 1) := by decide +kernel
theorem dX7_decode_1 : decode cX7_decode 1 = .ok (.invokestatic 113, 3) := by decide +kernel
theorem dX7_decode_4 : decode cX7_decode 4 = .ok (.ifCond .eq 12, 3) := by decide +kernel
theorem dX7_decode_7 : decode cX7_decode 7 = .ok (.iload_n 2, 1) := by decide +kernel
theorem dX7_decode_8 : decode cX7_decode 8 = .ok (.ifCond .lt 8, 3) := by decide +kernel
theorem dX7_decode_11 : decode cX7_decode 11 = .ok (.iload_n 2, 1) := by decide +kernel
theorem dX7_decode_12 : decode cX7_decode 12 = .ok (.iconst 1, 1) := by decide +kernel
theorem dX7_decode_13 : decode cX7_decode 13 = .ok (.if_icmp .le 14, 3) := by decide +kernel
theorem dX7_decode_16 : decode cX7_decode 16 = .ok (.new 80, 3) := by decide +kernel
theorem dX7_decode_19 : decode cX7_decode 19 = .ok (.dup, 1) := by decide +kernel
theorem dX7_decode_20 : decode cX7_decode 20 = .ok (.ldc_w 273, 3) := by decide +kernel
theorem dX7_decode_23 : decode cX7_decode 23 = .ok (.invokespecial 84, 3) := by decide +kernel
theorem dX7_decode_26 : decode cX7_decode 26 = .ok (.athrow, 1) := by decide +kernel
theorem dX7_decode_27 : decode cX7_decode 27 = .ok (.aload_n 0, 1) := by decide +kernel
theorem dX7_decode_28 : decode cX7_decode 28 = .ok (.invokevirtual 76, 3) := by decide +kernel
theorem dX7_decode_31 : decode cX7_decode 31 = .ok (.ifCond .ne 13, 3) := by decide +kernel
theorem dX7_decode_34 : decode cX7_decode 34 = .ok (.new 80, 3) := by decide +kernel
theorem dX7_decode_37 : decode cX7_decode 37 = .ok (.dup, 1) := by decide +kernel
theorem dX7_decode_38 : decode cX7_decode 38 = .ok (.ldc 82, 2) := by decide +kernel
theorem dX7_decode_40 : decode cX7_decode 40 = .ok (.invokespecial 84, 3) := by decide +kernel
theorem dX7_decode_43 : decode cX7_decode 43 = .ok (.athrow, 1) := by decide +kernel
theorem dX7_decode_44 : decode cX7_decode 44 = .ok (.iload_n 2, 1) := by decide +kernel
theorem dX7_decode_45 : decode cX7_decode 45 = .ok (.ifCond .ne 11, 3) := by decide +kernel
theorem dX7_decode_48 : decode cX7_decode 48 = .ok (.aload_n 0, 1) := by decide +kernel
theorem dX7_decode_49 : decode cX7_decode 49 = .ok (.iload_n 1, 1) := by decide +kernel
theorem dX7_decode_50 : decode cX7_decode 50 = .ok (.invokevirtual 275, 3) := by decide +kernel
theorem dX7_decode_53 : decode cX7_decode 53 = .ok (.goto 8, 3) := by decide +kernel
theorem dX7_decode_56 : decode cX7_decode 56 = .ok (.aload_n 0, 1) := by decide +kernel
theorem dX7_decode_57 : decode cX7_decode 57 = .ok (.iload_n 1, 1) := by decide +kernel
theorem dX7_decode_58 : decode cX7_decode 58 = .ok (.invokevirtual 278, 3) := by decide +kernel
theorem dX7_decode_61 : decode cX7_decode 61 = .ok (.ireturn, 1) := by decide +kernel
set_option maxRecDepth 20000 in
theorem ggX7_keyOf_X7_readTuneOfText : GoodIn wsX7_keyOf wsX7_readTuneOfText := goodIn_r _ [7, 8, 9, 10, 11, 12, 13, 14, 15, 16, 17, 18, 19, 20, 21, 22, 23, 24, 25, 26, 27, 28, 29, 30, 31, 32, 33, 34, 35, 36, 37, 38, 39, 40, 41, 42, 43, 44, 45, 46, 47, 48, 49, 50, 51, 52, 53, 54, 55, 56, 57, 58, 59, 60, 61, 62, 63, 64, 65, 66, 67, 68, 69, 70, 71, 72, 73, 74, 75, 76, 77, 78, 79, 80, 81, 82, 83, 84, 85, 86, 87, 88, 89, 90, 91, 92, 93, 94, 95, 96, 97, 98, 99, 100, 101, 102, 103, 104, 105, 106, 107, 108, 109, 110, 111, 112, 113, 114, 115, 116, 117, 118, 119, 120, 121, 122, 123, 124, 125, 126, 127, 128, 129, 130, 131, 132, 133, 134, 135, 136, 137, 138, 139, 140, 141, 142, 143, 144, 145, 146, 147, 148, 149, 150, 151, 152, 153, 154, 155, 156, 157, 158, 159, 160, 161, 162, 163, 226, 227, 228, 229, 230, 231, 232, 233, 234, 235, 236, 237, 238, 239, 240, 241, 242] (by decide +kernel) (by decide +kernel)
set_option maxRecDepth 20000 in
theorem gX7_keyOf_X7_readTuneOfText : GoodIn wsX7_keyOf (wsV RX7 76 RX7 yX7_readTuneOfText wsX7_readTuneOfText) := goodIn_app (goodIn_of _ (by decide +kernel)) ggX7_keyOf_X7_readTuneOfText
set_option maxRecDepth 20000 in
theorem ggX7_keyOf_X7_messageOfShape : GoodIn wsX7_keyOf wsX7_messageOfShape := goodIn_r _ [167, 11, 168, 169, 170, 171, 172, 149, 173, 151, 174, 175, 176, 177, 178, 179, 180, 181, 182, 183, 184, 185, 186, 187, 188, 189, 190, 191, 192, 193, 194, 195, 196, 197, 198, 199, 200, 201, 202, 203, 204, 205, 206, 207, 208, 209, 210, 211, 212, 213, 159, 214, 215, 216, 217, 218, 226, 227, 228, 229, 230, 231, 232, 233, 234, 240, 241, 242, 243, 244, 245, 246, 247, 248, 249, 250, 251, 252, 253, 254, 255, 256, 257, 258, 259, 260, 261] (by decide +kernel) (by decide +kernel)
set_option maxRecDepth 20000 in
theorem gX7_keyOf_X7_messageOfShape : GoodIn wsX7_keyOf (wsV RX7 281 RX7 yX7_messageOfShape wsX7_messageOfShape) := goodIn_app (goodIn_of _ (by decide +kernel)) ggX7_keyOf_X7_messageOfShape
set_option maxRecDepth 20000 in
theorem ggX7_keyOf_X7_keyBetween : GoodIn wsX7_keyOf wsX7_keyBetween := goodIn_r _ [222, 11, 223, 169, 224, 192, 193, 194, 195, 196, 225, 198, 199, 200, 226, 227, 228, 229, 230, 231, 232, 233, 234, 240, 241, 242, 246, 247, 248, 249, 250, 251, 252, 253, 254, 255, 256, 257, 258, 259, 260, 261] (by decide +kernel) (by decide +kernel)
set_option maxRecDepth 20000 in
theorem gX7_keyOf_X7_keyBetween : GoodIn wsX7_keyOf (wsV RX7 284 RX7 yX7_keyBetween wsX7_keyBetween) := goodIn_app (goodIn_of _ (by decide +kernel)) ggX7_keyOf_X7_keyBetween
theorem dX7_keyOf_0 : decode cX7_keyOf 0 = .ok (.aload_n 0, 1) := by decide +kernel
theorem dX7_keyOf_1 : decode cX7_keyOf 1 = .ok (.invokevirtual 76, 3) := by decide +kernel
theorem dX7_keyOf_4 : decode cX7_keyOf 4 = .ok (.ifCond .ne 13, 3) := by decide +kernel
theorem dX7_keyOf_7 : decode cX7_keyOf 7 = .ok (.new 80, 3) := by decide +kernel
theorem dX7_keyOf_10 : decode cX7_keyOf 10 = .ok (.dup, 1) := by decide +kernel
theorem dX7_keyOf_11 : decode cX7_keyOf 11 = .ok (.ldc 82, 2) := by decide +kernel
theorem dX7_keyOf_13 : decode cX7_keyOf 13 = .ok (.invokespecial 84, 3) := by decide +kernel
theorem dX7_keyOf_16 : decode cX7_keyOf 16 = .ok (.athrow, 1) := by decide +kernel
theorem dX7_keyOf_17 : decode cX7_keyOf 17 = .ok (.aload_n 0, 1) := by decide +kernel
theorem dX7_keyOf_18 : decode cX7_keyOf 18 = .ok (.invokevirtual 281, 3) := by decide +kernel
theorem dX7_keyOf_21 : decode cX7_keyOf 21 = .ok (.istore_n 1, 1) := by decide +kernel
theorem dX7_keyOf_22 : decode cX7_keyOf 22 = .ok (.iload_n 1, 1) := by decide +kernel
theorem dX7_keyOf_23 : decode cX7_keyOf 23 = .ok (.iconst (-1), 1) := by decide +kernel
theorem dX7_keyOf_24 : decode cX7_keyOf 24 = .ok (.if_icmp .ne 7, 3) := by decide +kernel
theorem dX7_keyOf_27 : decode cX7_keyOf 27 = .ok (.iconst (-1), 1) := by decide +kernel
theorem dX7_keyOf_28 : decode cX7_keyOf 28 = .ok (.goto 8, 3) := by decide +kernel
theorem dX7_keyOf_31 : decode cX7_keyOf 31 = .ok (.aload_n 0, 1) := by decide +kernel
theorem dX7_keyOf_32 : decode cX7_keyOf 32 = .ok (.iload_n 1, 1) := by decide +kernel
theorem dX7_keyOf_33 : decode cX7_keyOf 33 = .ok (.invokevirtual 284, 3) := by decide +kernel
theorem dX7_keyOf_36 : decode cX7_keyOf 36 = .ok (.ireturn, 1) := by decide +kernel
set_option maxRecDepth 20000 in
theorem ggX7_whyNot_X7_isRoom : GoodIn wsX7_whyNot wsX7_isRoom := goodIn_r _ [7] (by decide +kernel) (by decide +kernel)
set_option maxRecDepth 20000 in
theorem gX7_whyNot_X7_isRoom : GoodIn wsX7_whyNot (va_wsS RX7 121 yX7_isRoom wsX7_isRoom) := goodIn_app (goodIn_of _ (by decide +kernel)) ggX7_whyNot_X7_isRoom
set_option maxRecDepth 20000 in
theorem ggX7_whyNot_X7_isMessage : GoodIn wsX7_whyNot wsX7_isMessage := goodIn_r _ [10] (by decide +kernel) (by decide +kernel)
set_option maxRecDepth 20000 in
theorem gX7_whyNot_X7_isMessage : GoodIn wsX7_whyNot (va_wsS RX7 65 yX7_isMessage wsX7_isMessage) := goodIn_app (goodIn_of _ (by decide +kernel)) ggX7_whyNot_X7_isMessage
set_option maxRecDepth 20000 in
theorem ggX7_whyNot_X3_reasonAgainst : GoodIn wsX7_whyNot wsX3_reasonAgainst := goodIn_r _ [15, 16, 17, 18, 19, 14, 20, 21, 22, 32, 33, 34, 35, 36, 37, 38, 39, 40, 41, 42, 43, 44, 45, 46, 47] (by decide +kernel) (by decide +kernel)
set_option maxRecDepth 20000 in
theorem gX7_whyNot_X3_reasonAgainst : GoodIn wsX7_whyNot (wsV RX7 166 RX3 yX3_reasonAgainst wsX3_reasonAgainst) := goodIn_app (goodIn_of _ (by decide +kernel)) ggX7_whyNot_X3_reasonAgainst
theorem dX7_whyNot_0 : decode cX7_whyNot 0 = .ok (.iload_n 1, 1) := by decide +kernel
theorem dX7_whyNot_1 : decode cX7_whyNot 1 = .ok (.invokestatic 121, 3) := by decide +kernel
theorem dX7_whyNot_4 : decode cX7_whyNot 4 = .ok (.ifCond .eq 10, 3) := by decide +kernel
theorem dX7_whyNot_7 : decode cX7_whyNot 7 = .ok (.iload_n 2, 1) := by decide +kernel
theorem dX7_whyNot_8 : decode cX7_whyNot 8 = .ok (.invokestatic 65, 3) := by decide +kernel
theorem dX7_whyNot_11 : decode cX7_whyNot 11 = .ok (.ifCond .ne 13, 3) := by decide +kernel
theorem dX7_whyNot_14 : decode cX7_whyNot 14 = .ok (.new 69, 3) := by decide +kernel
theorem dX7_whyNot_17 : decode cX7_whyNot 17 = .ok (.dup, 1) := by decide +kernel
theorem dX7_whyNot_18 : decode cX7_whyNot 18 = .ok (.ldc 164, 2) := by decide +kernel
theorem dX7_whyNot_20 : decode cX7_whyNot 20 = .ok (.invokespecial 73, 3) := by decide +kernel
theorem dX7_whyNot_23 : decode cX7_whyNot 23 = .ok (.athrow, 1) := by decide +kernel
theorem dX7_whyNot_24 : decode cX7_whyNot 24 = .ok (.aload_n 0, 1) := by decide +kernel
theorem dX7_whyNot_25 : decode cX7_whyNot 25 = .ok (.getfield 10, 3) := by decide +kernel
theorem dX7_whyNot_28 : decode cX7_whyNot 28 = .ok (.iload_n 1, 1) := by decide +kernel
theorem dX7_whyNot_29 : decode cX7_whyNot 29 = .ok (.iload_n 2, 1) := by decide +kernel
theorem dX7_whyNot_30 : decode cX7_whyNot 30 = .ok (.invokevirtual 166, 3) := by decide +kernel
theorem dX7_whyNot_33 : decode cX7_whyNot 33 = .ok (.ireturn, 1) := by decide +kernel
set_option maxRecDepth 20000 in
theorem ggX7_ifWhistled_X7_isRoom : GoodIn wsX7_ifWhistled wsX7_isRoom := goodIn_r _ [14] (by decide +kernel) (by decide +kernel)
set_option maxRecDepth 20000 in
theorem gX7_ifWhistled_X7_isRoom : GoodIn wsX7_ifWhistled (va_wsS RX7 121 yX7_isRoom wsX7_isRoom) := goodIn_app (goodIn_of _ (by decide +kernel)) ggX7_ifWhistled_X7_isRoom
set_option maxRecDepth 20000 in
theorem ggX7_ifWhistled_X7_isMessage : GoodIn wsX7_ifWhistled wsX7_isMessage := goodIn_r _ [17] (by decide +kernel) (by decide +kernel)
set_option maxRecDepth 20000 in
theorem gX7_ifWhistled_X7_isMessage : GoodIn wsX7_ifWhistled (va_wsS RX7 65 yX7_isMessage wsX7_isMessage) := goodIn_app (goodIn_of _ (by decide +kernel)) ggX7_ifWhistled_X7_isMessage
set_option maxRecDepth 20000 in
theorem ggX7_ifWhistled_X3_reasonAgainst : GoodIn wsX7_ifWhistled wsX3_reasonAgainst := goodIn_r _ [22, 23, 24, 25, 26, 21, 27, 28, 29, 82, 83, 84, 85, 86, 87, 88, 89, 90, 91, 92, 93, 94, 95, 96, 97] (by decide +kernel) (by decide +kernel)
set_option maxRecDepth 20000 in
theorem gX7_ifWhistled_X3_reasonAgainst : GoodIn wsX7_ifWhistled (wsV RX7 166 RX3 yX3_reasonAgainst wsX3_reasonAgainst) := goodIn_app (goodIn_of _ (by decide +kernel)) ggX7_ifWhistled_X3_reasonAgainst
set_option maxRecDepth 20000 in
theorem ggX7_ifWhistled_X2_foresee : GoodIn wsX7_ifWhistled wsX2_foresee := goodIn_r _ [34, 35, 36, 37, 38, 39, 40, 41, 42, 43, 44, 45, 21, 46, 47, 48, 49, 50, 51, 29, 52, 13, 53, 54, 55, 56, 57, 58, 59, 60, 61, 62, 63, 64, 65, 66, 67, 82, 83, 84, 85, 86, 87, 88, 89, 90, 91, 92, 93, 94, 95, 96, 97, 77, 78, 79, 80, 81] (by decide +kernel) (by decide +kernel)
set_option maxRecDepth 20000 in
theorem gX7_ifWhistled_X2_foresee : GoodIn wsX7_ifWhistled (wsV RX7 289 RX2 yX2_foresee wsX2_foresee) := goodIn_app (goodIn_of _ (by decide +kernel)) ggX7_ifWhistled_X2_foresee
theorem dX7_ifWhistled_0 : decode cX7_ifWhistled 0 = .ok (.iload_n 1, 1) := by decide +kernel
theorem dX7_ifWhistled_1 : decode cX7_ifWhistled 1 = .ok (.invokestatic 121, 3) := by decide +kernel
theorem dX7_ifWhistled_4 : decode cX7_ifWhistled 4 = .ok (.ifCond .eq 10, 3) := by decide +kernel
theorem dX7_ifWhistled_7 : decode cX7_ifWhistled 7 = .ok (.iload_n 2, 1) := by decide +kernel
theorem dX7_ifWhistled_8 : decode cX7_ifWhistled 8 = .ok (.invokestatic 65, 3) := by decide +kernel
theorem dX7_ifWhistled_11 : decode cX7_ifWhistled 11 = .ok (.ifCond .ne 13, 3) := by decide +kernel
theorem dX7_ifWhistled_14 : decode cX7_ifWhistled 14 = .ok (.new 69, 3) := by decide +kernel
theorem dX7_ifWhistled_17 : decode cX7_ifWhistled 17 = .ok (.dup, 1) := by decide +kernel
theorem dX7_ifWhistled_18 : decode cX7_ifWhistled 18 = .ok (.ldc 164, 2) := by decide +kernel
theorem dX7_ifWhistled_20 : decode cX7_ifWhistled 20 = .ok (.invokespecial 73, 3) := by decide +kernel
theorem dX7_ifWhistled_23 : decode cX7_ifWhistled 23 = .ok (.athrow, 1) := by decide +kernel
theorem dX7_ifWhistled_24 : decode cX7_ifWhistled 24 = .ok (.iload_n 3, 1) := by decide +kernel
theorem dX7_ifWhistled_25 : decode cX7_ifWhistled 25 = .ok (.ifCond .lt 8, 3) := by decide +kernel
theorem dX7_ifWhistled_28 : decode cX7_ifWhistled 28 = .ok (.iload_n 3, 1) := by decide +kernel
theorem dX7_ifWhistled_29 : decode cX7_ifWhistled 29 = .ok (.iconst 4, 1) := by decide +kernel
theorem dX7_ifWhistled_30 : decode cX7_ifWhistled 30 = .ok (.if_icmp .lt 14, 3) := by decide +kernel
theorem dX7_ifWhistled_33 : decode cX7_ifWhistled 33 = .ok (.new 80, 3) := by decide +kernel
theorem dX7_ifWhistled_36 : decode cX7_ifWhistled 36 = .ok (.dup, 1) := by decide +kernel
theorem dX7_ifWhistled_37 : decode cX7_ifWhistled 37 = .ok (.ldc_w 287, 3) := by decide +kernel
theorem dX7_ifWhistled_40 : decode cX7_ifWhistled 40 = .ok (.invokespecial 84, 3) := by decide +kernel
theorem dX7_ifWhistled_43 : decode cX7_ifWhistled 43 = .ok (.athrow, 1) := by decide +kernel
theorem dX7_ifWhistled_44 : decode cX7_ifWhistled 44 = .ok (.aload_n 0, 1) := by decide +kernel
theorem dX7_ifWhistled_45 : decode cX7_ifWhistled 45 = .ok (.getfield 10, 3) := by decide +kernel
theorem dX7_ifWhistled_48 : decode cX7_ifWhistled 48 = .ok (.iload_n 1, 1) := by decide +kernel
theorem dX7_ifWhistled_49 : decode cX7_ifWhistled 49 = .ok (.iload_n 2, 1) := by decide +kernel
theorem dX7_ifWhistled_50 : decode cX7_ifWhistled 50 = .ok (.invokevirtual 166, 3) := by decide +kernel
theorem dX7_ifWhistled_53 : decode cX7_ifWhistled 53 = .ok (.ifCond .eq 5, 3) := by decide +kernel
theorem dX7_ifWhistled_56 : decode cX7_ifWhistled 56 = .ok (.iconst (-1), 1) := by decide +kernel
theorem dX7_ifWhistled_57 : decode cX7_ifWhistled 57 = .ok (.ireturn, 1) := by decide +kernel
theorem dX7_ifWhistled_58 : decode cX7_ifWhistled 58 = .ok (.aload_n 0, 1) := by decide +kernel
theorem dX7_ifWhistled_59 : decode cX7_ifWhistled 59 = .ok (.getfield 57, 3) := by decide +kernel
theorem dX7_ifWhistled_62 : decode cX7_ifWhistled 62 = .ok (.aload_n 0, 1) := by decide +kernel
theorem dX7_ifWhistled_63 : decode cX7_ifWhistled 63 = .ok (.getfield 10, 3) := by decide +kernel
theorem dX7_ifWhistled_66 : decode cX7_ifWhistled 66 = .ok (.iload_n 1, 1) := by decide +kernel
theorem dX7_ifWhistled_67 : decode cX7_ifWhistled 67 = .ok (.iload_n 2, 1) := by decide +kernel
theorem dX7_ifWhistled_68 : decode cX7_ifWhistled 68 = .ok (.invokevirtual 289, 3) := by decide +kernel
theorem dX7_ifWhistled_71 : decode cX7_ifWhistled 71 = .ok (.iload_n 3, 1) := by decide +kernel
theorem dX7_ifWhistled_72 : decode cX7_ifWhistled 72 = .ok (.tableswitch 52 0 2 #[28, 36, 44], 28) := by decide +kernel
theorem dX7_ifWhistled_100 : decode cX7_ifWhistled 100 = .ok (.aload_n 0, 1) := by decide +kernel
theorem dX7_ifWhistled_101 : decode cX7_ifWhistled 101 = .ok (.getfield 57, 3) := by decide +kernel
theorem dX7_ifWhistled_104 : decode cX7_ifWhistled 104 = .ok (.getfield 293, 3) := by decide +kernel
theorem dX7_ifWhistled_107 : decode cX7_ifWhistled 107 = .ok (.ireturn, 1) := by decide +kernel
theorem dX7_ifWhistled_108 : decode cX7_ifWhistled 108 = .ok (.aload_n 0, 1) := by decide +kernel
theorem dX7_ifWhistled_109 : decode cX7_ifWhistled 109 = .ok (.getfield 57, 3) := by decide +kernel
theorem dX7_ifWhistled_112 : decode cX7_ifWhistled 112 = .ok (.getfield 296, 3) := by decide +kernel
theorem dX7_ifWhistled_115 : decode cX7_ifWhistled 115 = .ok (.ireturn, 1) := by decide +kernel
theorem dX7_ifWhistled_116 : decode cX7_ifWhistled 116 = .ok (.aload_n 0, 1) := by decide +kernel
theorem dX7_ifWhistled_117 : decode cX7_ifWhistled 117 = .ok (.getfield 57, 3) := by decide +kernel
theorem dX7_ifWhistled_120 : decode cX7_ifWhistled 120 = .ok (.getfield 299, 3) := by decide +kernel
theorem dX7_ifWhistled_123 : decode cX7_ifWhistled 123 = .ok (.ireturn, 1) := by decide +kernel
theorem dX7_ifWhistled_124 : decode cX7_ifWhistled 124 = .ok (.aload_n 0, 1) := by decide +kernel
theorem dX7_ifWhistled_125 : decode cX7_ifWhistled 125 = .ok (.getfield 57, 3) := by decide +kernel
theorem dX7_ifWhistled_128 : decode cX7_ifWhistled 128 = .ok (.getfield 302, 3) := by decide +kernel
theorem dX7_ifWhistled_131 : decode cX7_ifWhistled 131 = .ok (.ireturn, 1) := by decide +kernel
set_option maxRecDepth 20000 in
theorem ggX7_bestRoom_X7_isMessage : GoodIn wsX7_bestRoom wsX7_isMessage := goodIn_r _ [10] (by decide +kernel) (by decide +kernel)
set_option maxRecDepth 20000 in
theorem gX7_bestRoom_X7_isMessage : GoodIn wsX7_bestRoom (va_wsS RX7 65 yX7_isMessage wsX7_isMessage) := goodIn_app (goodIn_of _ (by decide +kernel)) ggX7_bestRoom_X7_isMessage
set_option maxRecDepth 20000 in
theorem ggX7_bestRoom_X2_foresee : GoodIn wsX7_bestRoom wsX2_foresee := goodIn_r _ [15, 16, 17, 18, 19, 20, 21, 22, 23, 24, 25, 26, 27, 28, 29, 30, 31, 32, 33, 34, 35, 9, 36, 37, 38, 39, 40, 41, 42, 43, 44, 45, 46, 47, 48, 49, 50, 82, 83, 84, 85, 86, 87, 88, 89, 90, 91, 92, 93, 94, 95, 96, 97, 77, 78, 79, 80, 81] (by decide +kernel) (by decide +kernel)
set_option maxRecDepth 20000 in
theorem gX7_bestRoom_X2_foresee : GoodIn wsX7_bestRoom (wsV RX7 289 RX2 yX2_foresee wsX2_foresee) := goodIn_app (goodIn_of _ (by decide +kernel)) ggX7_bestRoom_X2_foresee
set_option maxRecDepth 20000 in
theorem ggX7_bestRoom_J6_bitCount_0f7a4 : GoodIn wsX7_bestRoom wsJ6_bitCount_0f7a4 := goodIn_r _ [54, 55, 56, 57] (by decide +kernel) (by decide +kernel)
set_option maxRecDepth 20000 in
theorem gX7_bestRoom_J6_bitCount_0f7a4 : GoodIn wsX7_bestRoom (va_wsS RX7 134 yJ6_bitCount_0f7a4 wsJ6_bitCount_0f7a4) := goodIn_app (goodIn_of _ (by decide +kernel)) ggX7_bestRoom_J6_bitCount_0f7a4
set_option maxRecDepth 20000 in
theorem ggX7_bestRoom_X3_reasonAgainst : GoodIn wsX7_bestRoom wsX3_reasonAgainst := goodIn_r _ [61, 62, 63, 64, 65, 27, 66, 67, 34, 82, 83, 84, 85, 86, 87, 88, 89, 90, 91, 92, 93, 94, 95, 96, 97] (by decide +kernel) (by decide +kernel)
set_option maxRecDepth 20000 in
theorem gX7_bestRoom_X3_reasonAgainst : GoodIn wsX7_bestRoom (wsV RX7 166 RX3 yX3_reasonAgainst wsX3_reasonAgainst) := goodIn_app (goodIn_of _ (by decide +kernel)) ggX7_bestRoom_X3_reasonAgainst
theorem dX7_bestRoom_0 : decode cX7_bestRoom 0 = .ok (.iload_n 1, 1) := by decide +kernel
theorem dX7_bestRoom_1 : decode cX7_bestRoom 1 = .ok (.invokestatic 65, 3) := by decide +kernel
theorem dX7_bestRoom_4 : decode cX7_bestRoom 4 = .ok (.ifCond .ne 13, 3) := by decide +kernel
theorem dX7_bestRoom_7 : decode cX7_bestRoom 7 = .ok (.new 69, 3) := by decide +kernel
theorem dX7_bestRoom_10 : decode cX7_bestRoom 10 = .ok (.dup, 1) := by decide +kernel
theorem dX7_bestRoom_11 : decode cX7_bestRoom 11 = .ok (.ldc 71, 2) := by decide +kernel
theorem dX7_bestRoom_13 : decode cX7_bestRoom 13 = .ok (.invokespecial 73, 3) := by decide +kernel
theorem dX7_bestRoom_16 : decode cX7_bestRoom 16 = .ok (.athrow, 1) := by decide +kernel
theorem dX7_bestRoom_17 : decode cX7_bestRoom 17 = .ok (.iconst (-1), 1) := by decide +kernel
theorem dX7_bestRoom_18 : decode cX7_bestRoom 18 = .ok (.istore_n 2, 1) := by decide +kernel
theorem dX7_bestRoom_19 : decode cX7_bestRoom 19 = .ok (.iconst (-1), 1) := by decide +kernel
theorem dX7_bestRoom_20 : decode cX7_bestRoom 20 = .ok (.istore_n 3, 1) := by decide +kernel
theorem dX7_bestRoom_21 : decode cX7_bestRoom 21 = .ok (.iconst 0, 1) := by decide +kernel
theorem dX7_bestRoom_22 : decode cX7_bestRoom 22 = .ok (.istore 4, 2) := by decide +kernel
theorem dX7_bestRoom_24 : decode cX7_bestRoom 24 = .ok (.iload 4, 2) := by decide +kernel
theorem dX7_bestRoom_26 : decode cX7_bestRoom 26 = .ok (.bipush 6, 2) := by decide +kernel
theorem dX7_bestRoom_28 : decode cX7_bestRoom 28 = .ok (.if_icmp .ge 82, 3) := by decide +kernel
theorem dX7_bestRoom_31 : decode cX7_bestRoom 31 = .ok (.aload_n 0, 1) := by decide +kernel
theorem dX7_bestRoom_32 : decode cX7_bestRoom 32 = .ok (.getfield 57, 3) := by decide +kernel
theorem dX7_bestRoom_35 : decode cX7_bestRoom 35 = .ok (.aload_n 0, 1) := by decide +kernel
theorem dX7_bestRoom_36 : decode cX7_bestRoom 36 = .ok (.getfield 10, 3) := by decide +kernel
theorem dX7_bestRoom_39 : decode cX7_bestRoom 39 = .ok (.iload 4, 2) := by decide +kernel
theorem dX7_bestRoom_41 : decode cX7_bestRoom 41 = .ok (.iload_n 1, 1) := by decide +kernel
theorem dX7_bestRoom_42 : decode cX7_bestRoom 42 = .ok (.invokevirtual 289, 3) := by decide +kernel
theorem dX7_bestRoom_45 : decode cX7_bestRoom 45 = .ok (.aload_n 0, 1) := by decide +kernel
theorem dX7_bestRoom_46 : decode cX7_bestRoom 46 = .ok (.getfield 57, 3) := by decide +kernel
theorem dX7_bestRoom_49 : decode cX7_bestRoom 49 = .ok (.getfield 296, 3) := by decide +kernel
theorem dX7_bestRoom_52 : decode cX7_bestRoom 52 = .ok (.invokestatic 134, 3) := by decide +kernel
theorem dX7_bestRoom_55 : decode cX7_bestRoom 55 = .ok (.istore 5, 2) := by decide +kernel
theorem dX7_bestRoom_57 : decode cX7_bestRoom 57 = .ok (.aload_n 0, 1) := by decide +kernel
theorem dX7_bestRoom_58 : decode cX7_bestRoom 58 = .ok (.getfield 57, 3) := by decide +kernel
theorem dX7_bestRoom_61 : decode cX7_bestRoom 61 = .ok (.getfield 299, 3) := by decide +kernel
theorem dX7_bestRoom_64 : decode cX7_bestRoom 64 = .ok (.ifCond .ne 20, 3) := by decide +kernel
theorem dX7_bestRoom_67 : decode cX7_bestRoom 67 = .ok (.aload_n 0, 1) := by decide +kernel
theorem dX7_bestRoom_68 : decode cX7_bestRoom 68 = .ok (.getfield 10, 3) := by decide +kernel
theorem dX7_bestRoom_71 : decode cX7_bestRoom 71 = .ok (.iload 4, 2) := by decide +kernel
theorem dX7_bestRoom_73 : decode cX7_bestRoom 73 = .ok (.iload_n 1, 1) := by decide +kernel
theorem dX7_bestRoom_74 : decode cX7_bestRoom 74 = .ok (.invokevirtual 166, 3) := by decide +kernel
theorem dX7_bestRoom_77 : decode cX7_bestRoom 77 = .ok (.ifCond .ne 7, 3) := by decide +kernel
theorem dX7_bestRoom_80 : decode cX7_bestRoom 80 = .ok (.iconst 1, 1) := by decide +kernel
theorem dX7_bestRoom_81 : decode cX7_bestRoom 81 = .ok (.goto 4, 3) := by decide +kernel
theorem dX7_bestRoom_84 : decode cX7_bestRoom 84 = .ok (.iconst 0, 1) := by decide +kernel
theorem dX7_bestRoom_85 : decode cX7_bestRoom 85 = .ok (.istore 6, 2) := by decide +kernel
theorem dX7_bestRoom_87 : decode cX7_bestRoom 87 = .ok (.iload 6, 2) := by decide +kernel
theorem dX7_bestRoom_89 : decode cX7_bestRoom 89 = .ok (.ifCond .eq 15, 3) := by decide +kernel
theorem dX7_bestRoom_92 : decode cX7_bestRoom 92 = .ok (.iload 5, 2) := by decide +kernel
theorem dX7_bestRoom_94 : decode cX7_bestRoom 94 = .ok (.iload_n 3, 1) := by decide +kernel
theorem dX7_bestRoom_95 : decode cX7_bestRoom 95 = .ok (.if_icmp .le 9, 3) := by decide +kernel
theorem dX7_bestRoom_98 : decode cX7_bestRoom 98 = .ok (.iload 5, 2) := by decide +kernel
theorem dX7_bestRoom_100 : decode cX7_bestRoom 100 = .ok (.istore_n 3, 1) := by decide +kernel
theorem dX7_bestRoom_101 : decode cX7_bestRoom 101 = .ok (.iload 4, 2) := by decide +kernel
theorem dX7_bestRoom_103 : decode cX7_bestRoom 103 = .ok (.istore_n 2, 1) := by decide +kernel
theorem dX7_bestRoom_104 : decode cX7_bestRoom 104 = .ok (.iinc 4 1, 3) := by decide +kernel
theorem dX7_bestRoom_107 : decode cX7_bestRoom 107 = .ok (.goto (-83), 3) := by decide +kernel
theorem dX7_bestRoom_110 : decode cX7_bestRoom 110 = .ok (.iload_n 2, 1) := by decide +kernel
theorem dX7_bestRoom_111 : decode cX7_bestRoom 111 = .ok (.ireturn, 1) := by decide +kernel
set_option maxRecDepth 20000 in
theorem ggX7_understoodShare_X7_sumOf : GoodIn wsX7_understoodShare wsX7_sumOf := goodIn_r _ [7] (by decide +kernel) (by decide +kernel)
set_option maxRecDepth 20000 in
theorem gX7_understoodShare_X7_sumOf : GoodIn wsX7_understoodShare (va_wsS RX7 266 yX7_sumOf wsX7_sumOf) := goodIn_app (goodIn_of _ (by decide +kernel)) ggX7_understoodShare_X7_sumOf
theorem dX7_understoodShare_0 : decode cX7_understoodShare 0 = .ok (.aload_n 0, 1) := by decide +kernel
theorem dX7_understoodShare_1 : decode cX7_understoodShare 1 = .ok (.getfield 10, 3) := by decide +kernel
theorem dX7_understoodShare_4 : decode cX7_understoodShare 4 = .ok (.getfield 241, 3) := by decide +kernel
theorem dX7_understoodShare_7 : decode cX7_understoodShare 7 = .ok (.invokestatic 266, 3) := by decide +kernel
theorem dX7_understoodShare_10 : decode cX7_understoodShare 10 = .ok (.istore_n 1, 1) := by decide +kernel
theorem dX7_understoodShare_11 : decode cX7_understoodShare 11 = .ok (.iload_n 1, 1) := by decide +kernel
theorem dX7_understoodShare_12 : decode cX7_understoodShare 12 = .ok (.aload_n 0, 1) := by decide +kernel
theorem dX7_understoodShare_13 : decode cX7_understoodShare 13 = .ok (.getfield 10, 3) := by decide +kernel
theorem dX7_understoodShare_16 : decode cX7_understoodShare 16 = .ok (.getfield 244, 3) := by decide +kernel
theorem dX7_understoodShare_19 : decode cX7_understoodShare 19 = .ok (.invokestatic 266, 3) := by decide +kernel
theorem dX7_understoodShare_22 : decode cX7_understoodShare 22 = .ok (.iadd, 1) := by decide +kernel
theorem dX7_understoodShare_23 : decode cX7_understoodShare 23 = .ok (.istore_n 2, 1) := by decide +kernel
theorem dX7_understoodShare_24 : decode cX7_understoodShare 24 = .ok (.iload_n 2, 1) := by decide +kernel
theorem dX7_understoodShare_25 : decode cX7_understoodShare 25 = .ok (.ifCond .gt 7, 3) := by decide +kernel
theorem dX7_understoodShare_28 : decode cX7_understoodShare 28 = .ok (.dconst 1, 1) := by decide +kernel
theorem dX7_understoodShare_29 : decode cX7_understoodShare 29 = .ok (.goto 8, 3) := by decide +kernel
theorem dX7_understoodShare_32 : decode cX7_understoodShare 32 = .ok (.iload_n 1, 1) := by decide +kernel
theorem dX7_understoodShare_33 : decode cX7_understoodShare 33 = .ok (.i2d, 1) := by decide +kernel
theorem dX7_understoodShare_34 : decode cX7_understoodShare 34 = .ok (.iload_n 2, 1) := by decide +kernel
theorem dX7_understoodShare_35 : decode cX7_understoodShare 35 = .ok (.i2d, 1) := by decide +kernel
theorem dX7_understoodShare_36 : decode cX7_understoodShare 36 = .ok (.ddiv, 1) := by decide +kernel
theorem dX7_understoodShare_37 : decode cX7_understoodShare 37 = .ok (.dreturn, 1) := by decide +kernel
theorem dX7_isMessage_0 : decode cX7_isMessage 0 = .ok (.iload_n 0, 1) := by decide +kernel
theorem dX7_isMessage_1 : decode cX7_isMessage 1 = .ok (.ifCond .lt 13, 3) := by decide +kernel
theorem dX7_isMessage_4 : decode cX7_isMessage 4 = .ok (.iload_n 0, 1) := by decide +kernel
theorem dX7_isMessage_5 : decode cX7_isMessage 5 = .ok (.bipush 20, 2) := by decide +kernel
theorem dX7_isMessage_7 : decode cX7_isMessage 7 = .ok (.if_icmp .ge 7, 3) := by decide +kernel
theorem dX7_isMessage_10 : decode cX7_isMessage 10 = .ok (.iconst 1, 1) := by decide +kernel
theorem dX7_isMessage_11 : decode cX7_isMessage 11 = .ok (.goto 4, 3) := by decide +kernel
theorem dX7_isMessage_14 : decode cX7_isMessage 14 = .ok (.iconst 0, 1) := by decide +kernel
theorem dX7_isMessage_15 : decode cX7_isMessage 15 = .ok (.ireturn, 1) := by decide +kernel
theorem dX7_isRoom_0 : decode cX7_isRoom 0 = .ok (.iload_n 0, 1) := by decide +kernel
theorem dX7_isRoom_1 : decode cX7_isRoom 1 = .ok (.ifCond .lt 13, 3) := by decide +kernel
theorem dX7_isRoom_4 : decode cX7_isRoom 4 = .ok (.iload_n 0, 1) := by decide +kernel
theorem dX7_isRoom_5 : decode cX7_isRoom 5 = .ok (.bipush 6, 2) := by decide +kernel
theorem dX7_isRoom_7 : decode cX7_isRoom 7 = .ok (.if_icmp .ge 7, 3) := by decide +kernel
theorem dX7_isRoom_10 : decode cX7_isRoom 10 = .ok (.iconst 1, 1) := by decide +kernel
theorem dX7_isRoom_11 : decode cX7_isRoom 11 = .ok (.goto 4, 3) := by decide +kernel
theorem dX7_isRoom_14 : decode cX7_isRoom 14 = .ok (.iconst 0, 1) := by decide +kernel
theorem dX7_isRoom_15 : decode cX7_isRoom 15 = .ok (.ireturn, 1) := by decide +kernel
theorem dX7_isKey_0 : decode cX7_isKey 0 = .ok (.iload_n 0, 1) := by decide +kernel
theorem dX7_isKey_1 : decode cX7_isKey 1 = .ok (.ifCond .lt 13, 3) := by decide +kernel
theorem dX7_isKey_4 : decode cX7_isKey 4 = .ok (.iload_n 0, 1) := by decide +kernel
theorem dX7_isKey_5 : decode cX7_isKey 5 = .ok (.bipush 7, 2) := by decide +kernel
theorem dX7_isKey_7 : decode cX7_isKey 7 = .ok (.if_icmp .ge 7, 3) := by decide +kernel
theorem dX7_isKey_10 : decode cX7_isKey 10 = .ok (.iconst 1, 1) := by decide +kernel
theorem dX7_isKey_11 : decode cX7_isKey 11 = .ok (.goto 4, 3) := by decide +kernel
theorem dX7_isKey_14 : decode cX7_isKey 14 = .ok (.iconst 0, 1) := by decide +kernel
theorem dX7_isKey_15 : decode cX7_isKey 15 = .ok (.ireturn, 1) := by decide +kernel
theorem dX7_isValueOf_0 : decode cX7_isValueOf 0 = .ok (.iload_n 0, 1) := by decide +kernel
theorem dX7_isValueOf_1 : decode cX7_isValueOf 1 = .ok (.ifCond .ne 20, 3) := by decide +kernel
theorem dX7_isValueOf_4 : decode cX7_isValueOf 4 = .ok (.iload_n 1, 1) := by decide +kernel
theorem dX7_isValueOf_5 : decode cX7_isValueOf 5 = .ok (.ifCond .lt 12, 3) := by decide +kernel
theorem dX7_isValueOf_8 : decode cX7_isValueOf 8 = .ok (.iload_n 1, 1) := by decide +kernel
theorem dX7_isValueOf_9 : decode cX7_isValueOf 9 = .ok (.iconst 2, 1) := by decide +kernel
theorem dX7_isValueOf_10 : decode cX7_isValueOf 10 = .ok (.if_icmp .gt 7, 3) := by decide +kernel
theorem dX7_isValueOf_13 : decode cX7_isValueOf 13 = .ok (.iconst 1, 1) := by decide +kernel
theorem dX7_isValueOf_14 : decode cX7_isValueOf 14 = .ok (.goto 23, 3) := by decide +kernel
theorem dX7_isValueOf_17 : decode cX7_isValueOf 17 = .ok (.iconst 0, 1) := by decide +kernel
theorem dX7_isValueOf_18 : decode cX7_isValueOf 18 = .ok (.goto 19, 3) := by decide +kernel
theorem dX7_isValueOf_21 : decode cX7_isValueOf 21 = .ok (.iload_n 1, 1) := by decide +kernel
theorem dX7_isValueOf_22 : decode cX7_isValueOf 22 = .ok (.iconst 1, 1) := by decide +kernel
theorem dX7_isValueOf_23 : decode cX7_isValueOf 23 = .ok (.if_icmp .lt 13, 3) := by decide +kernel
theorem dX7_isValueOf_26 : decode cX7_isValueOf 26 = .ok (.iload_n 1, 1) := by decide +kernel
theorem dX7_isValueOf_27 : decode cX7_isValueOf 27 = .ok (.bipush 9, 2) := by decide +kernel
theorem dX7_isValueOf_29 : decode cX7_isValueOf 29 = .ok (.if_icmp .gt 7, 3) := by decide +kernel
theorem dX7_isValueOf_32 : decode cX7_isValueOf 32 = .ok (.iconst 1, 1) := by decide +kernel
theorem dX7_isValueOf_33 : decode cX7_isValueOf 33 = .ok (.goto 4, 3) := by decide +kernel
theorem dX7_isValueOf_36 : decode cX7_isValueOf 36 = .ok (.iconst 0, 1) := by decide +kernel
theorem dX7_isValueOf_37 : decode cX7_isValueOf 37 = .ok (.ireturn, 1) := by decide +kernel
theorem dX7_hasBit_0 : decode cX7_hasBit 0 = .ok (.iload_n 0, 1) := by decide +kernel
theorem dX7_hasBit_1 : decode cX7_hasBit 1 = .ok (.iload_n 1, 1) := by decide +kernel
theorem dX7_hasBit_2 : decode cX7_hasBit 2 = .ok (.ishr, 1) := by decide +kernel
theorem dX7_hasBit_3 : decode cX7_hasBit 3 = .ok (.iconst 1, 1) := by decide +kernel
theorem dX7_hasBit_4 : decode cX7_hasBit 4 = .ok (.iand, 1) := by decide +kernel
theorem dX7_hasBit_5 : decode cX7_hasBit 5 = .ok (.iconst 1, 1) := by decide +kernel
theorem dX7_hasBit_6 : decode cX7_hasBit 6 = .ok (.if_icmp .ne 7, 3) := by decide +kernel
theorem dX7_hasBit_9 : decode cX7_hasBit 9 = .ok (.iconst 1, 1) := by decide +kernel
theorem dX7_hasBit_10 : decode cX7_hasBit 10 = .ok (.goto 4, 3) := by decide +kernel
theorem dX7_hasBit_13 : decode cX7_hasBit 13 = .ok (.iconst 0, 1) := by decide +kernel
theorem dX7_hasBit_14 : decode cX7_hasBit 14 = .ok (.ireturn, 1) := by decide +kernel
theorem dX7_sumOf_0 : decode cX7_sumOf 0 = .ok (.iconst 0, 1) := by decide +kernel
theorem dX7_sumOf_1 : decode cX7_sumOf 1 = .ok (.istore_n 1, 1) := by decide +kernel
theorem dX7_sumOf_2 : decode cX7_sumOf 2 = .ok (.aload_n 0, 1) := by decide +kernel
theorem dX7_sumOf_3 : decode cX7_sumOf 3 = .ok (.astore_n 2, 1) := by decide +kernel
theorem dX7_sumOf_4 : decode cX7_sumOf 4 = .ok (.aload_n 2, 1) := by decide +kernel
theorem dX7_sumOf_5 : decode cX7_sumOf 5 = .ok (.arraylength, 1) := by decide +kernel
theorem dX7_sumOf_6 : decode cX7_sumOf 6 = .ok (.istore_n 3, 1) := by decide +kernel
theorem dX7_sumOf_7 : decode cX7_sumOf 7 = .ok (.iconst 0, 1) := by decide +kernel
theorem dX7_sumOf_8 : decode cX7_sumOf 8 = .ok (.istore 4, 2) := by decide +kernel
theorem dX7_sumOf_10 : decode cX7_sumOf 10 = .ok (.iload 4, 2) := by decide +kernel
theorem dX7_sumOf_12 : decode cX7_sumOf 12 = .ok (.iload_n 3, 1) := by decide +kernel
theorem dX7_sumOf_13 : decode cX7_sumOf 13 = .ok (.if_icmp .ge 20, 3) := by decide +kernel
theorem dX7_sumOf_16 : decode cX7_sumOf 16 = .ok (.aload_n 2, 1) := by decide +kernel
theorem dX7_sumOf_17 : decode cX7_sumOf 17 = .ok (.iload 4, 2) := by decide +kernel
theorem dX7_sumOf_19 : decode cX7_sumOf 19 = .ok (.iaload, 1) := by decide +kernel
theorem dX7_sumOf_20 : decode cX7_sumOf 20 = .ok (.istore 5, 2) := by decide +kernel
theorem dX7_sumOf_22 : decode cX7_sumOf 22 = .ok (.iload_n 1, 1) := by decide +kernel
theorem dX7_sumOf_23 : decode cX7_sumOf 23 = .ok (.iload 5, 2) := by decide +kernel
theorem dX7_sumOf_25 : decode cX7_sumOf 25 = .ok (.iadd, 1) := by decide +kernel
theorem dX7_sumOf_26 : decode cX7_sumOf 26 = .ok (.istore_n 1, 1) := by decide +kernel
theorem dX7_sumOf_27 : decode cX7_sumOf 27 = .ok (.iinc 4 1, 3) := by decide +kernel
theorem dX7_sumOf_30 : decode cX7_sumOf 30 = .ok (.goto (-20), 3) := by decide +kernel
theorem dX7_sumOf_33 : decode cX7_sumOf 33 = .ok (.iload_n 1, 1) := by decide +kernel
theorem dX7_sumOf_34 : decode cX7_sumOf 34 = .ok (.ireturn, 1) := by decide +kernel
set_option maxRecDepth 20000 in
theorem ggX7_readTuneOfText_X0_readTune : GoodIn wsX7_readTuneOfText wsX0_readTune := goodIn_r _ [9, 10, 11, 12, 13, 8, 14, 15, 16, 17, 18, 19, 20, 21, 22, 23, 24, 25, 26, 27, 28, 29, 30, 31, 32, 33, 34, 35, 36, 37, 38, 39, 40, 41, 42, 43, 44, 45, 46, 47, 48, 49, 50, 51, 52, 53, 54, 55, 56, 57, 58, 59, 60, 61, 62, 63, 64, 65, 66, 67, 68, 69, 70, 71, 72, 73, 74, 75, 76, 77, 78, 79, 80, 81, 82, 83, 84, 85, 86, 87, 88, 89, 90, 91, 92, 93, 94, 95, 96, 97, 98, 99, 100, 101, 102, 103, 104, 105, 106, 107, 108, 109, 110, 111, 112, 113, 114, 115, 116, 117, 118, 119, 120, 121, 122, 123, 124, 125, 126, 127, 128, 129, 130, 131, 132, 133, 134, 168, 169, 170, 166, 167] (by decide +kernel) (by decide +kernel)
set_option maxRecDepth 20000 in
theorem gX7_readTuneOfText_X0_readTune : GoodIn wsX7_readTuneOfText (wsV RX7 188 RX0 yX0_readTune wsX0_readTune) := goodIn_app (goodIn_of _ (by decide +kernel)) ggX7_readTuneOfText_X0_readTune
set_option maxRecDepth 20000 in
theorem ggX7_readTuneOfText_X0_mayEnd : GoodIn wsX7_readTuneOfText wsX0_mayEnd := goodIn_r _ [138, 15, 16, 168, 169, 170] (by decide +kernel) (by decide +kernel)
set_option maxRecDepth 20000 in
theorem gX7_readTuneOfText_X0_mayEnd : GoodIn wsX7_readTuneOfText (wsV RX7 191 RX0 yX0_mayEnd wsX0_mayEnd) := goodIn_app (goodIn_of _ (by decide +kernel)) ggX7_readTuneOfText_X0_mayEnd
set_option maxRecDepth 20000 in
theorem ggX7_readTuneOfText_X6_read : GoodIn wsX7_readTuneOfText wsX6_read := goodIn_r _ [143, 144, 145, 146, 19, 20, 21, 22, 23, 24, 147, 43, 44, 45, 46, 47, 48, 49, 50, 51, 52, 53, 54, 55, 56, 57, 58, 59, 60, 61, 62, 63, 64, 65, 66, 67, 68, 69, 70, 71, 72, 73, 74, 75, 76, 77, 78, 79, 80, 81, 82, 83, 84, 85, 86, 87, 88, 89, 90, 91, 92, 93, 94, 95, 96, 97, 98, 99, 100, 101, 102, 103, 104, 105, 106, 107, 108, 109, 110, 111, 112, 113, 114, 115, 116, 117, 118, 119, 120, 121, 122, 123, 124, 125, 126, 127, 128, 129, 130, 148, 149, 150, 142, 151, 152, 153, 154, 155, 156, 171, 172, 173, 166, 167] (by decide +kernel) (by decide +kernel)
set_option maxRecDepth 20000 in
theorem gX7_readTuneOfText_X6_read : GoodIn wsX7_readTuneOfText (wsV RX7 362 RX6 yX6_read wsX6_read) := goodIn_app (goodIn_of _ (by decide +kernel)) ggX7_readTuneOfText_X6_read
theorem dX7_readTuneOfText_0 : decode cX7_readTuneOfText 0 = .ok (.aload_n 0, 1) := by decide +kernel
theorem dX7_readTuneOfText_1 : decode cX7_readTuneOfText 1 = .ok (.getfield 36, 3) := by decide +kernel
theorem dX7_readTuneOfText_4 : decode cX7_readTuneOfText 4 = .ok (.aload_n 0, 1) := by decide +kernel
theorem dX7_readTuneOfText_5 : decode cX7_readTuneOfText 5 = .ok (.getfield 29, 3) := by decide +kernel
theorem dX7_readTuneOfText_8 : decode cX7_readTuneOfText 8 = .ok (.invokevirtual 188, 3) := by decide +kernel
theorem dX7_readTuneOfText_11 : decode cX7_readTuneOfText 11 = .ok (.aload_n 0, 1) := by decide +kernel
theorem dX7_readTuneOfText_12 : decode cX7_readTuneOfText 12 = .ok (.getfield 29, 3) := by decide +kernel
theorem dX7_readTuneOfText_15 : decode cX7_readTuneOfText 15 = .ok (.getfield 177, 3) := by decide +kernel
theorem dX7_readTuneOfText_18 : decode cX7_readTuneOfText 18 = .ok (.if_icmp .lt 13, 3) := by decide +kernel
theorem dX7_readTuneOfText_21 : decode cX7_readTuneOfText 21 = .ok (.aload_n 0, 1) := by decide +kernel
theorem dX7_readTuneOfText_22 : decode cX7_readTuneOfText 22 = .ok (.getfield 36, 3) := by decide +kernel
theorem dX7_readTuneOfText_25 : decode cX7_readTuneOfText 25 = .ok (.invokevirtual 191, 3) := by decide +kernel
theorem dX7_readTuneOfText_28 : decode cX7_readTuneOfText 28 = .ok (.ifCond .ne 5, 3) := by decide +kernel
theorem dX7_readTuneOfText_31 : decode cX7_readTuneOfText 31 = .ok (.iconst 0, 1) := by decide +kernel
theorem dX7_readTuneOfText_32 : decode cX7_readTuneOfText 32 = .ok (.ireturn, 1) := by decide +kernel
theorem dX7_readTuneOfText_33 : decode cX7_readTuneOfText 33 = .ok (.aload_n 0, 1) := by decide +kernel
theorem dX7_readTuneOfText_34 : decode cX7_readTuneOfText 34 = .ok (.getfield 43, 3) := by decide +kernel
theorem dX7_readTuneOfText_37 : decode cX7_readTuneOfText 37 = .ok (.aload_n 0, 1) := by decide +kernel
theorem dX7_readTuneOfText_38 : decode cX7_readTuneOfText 38 = .ok (.getfield 29, 3) := by decide +kernel
theorem dX7_readTuneOfText_41 : decode cX7_readTuneOfText 41 = .ok (.iconst 0, 1) := by decide +kernel
theorem dX7_readTuneOfText_42 : decode cX7_readTuneOfText 42 = .ok (.aload_n 0, 1) := by decide +kernel
theorem dX7_readTuneOfText_43 : decode cX7_readTuneOfText 43 = .ok (.getfield 29, 3) := by decide +kernel
theorem dX7_readTuneOfText_46 : decode cX7_readTuneOfText 46 = .ok (.getfield 177, 3) := by decide +kernel
theorem dX7_readTuneOfText_49 : decode cX7_readTuneOfText 49 = .ok (.invokevirtual 362, 3) := by decide +kernel
theorem dX7_readTuneOfText_52 : decode cX7_readTuneOfText 52 = .ok (.iconst 1, 1) := by decide +kernel
theorem dX7_readTuneOfText_53 : decode cX7_readTuneOfText 53 = .ok (.ireturn, 1) := by decide +kernel
set_option maxRecDepth 20000 in
theorem ggX7_reasonAgainstTune_X6_isOfTuneLength : GoodIn wsX7_reasonAgainstTune wsX6_isOfTuneLength := goodIn_r _ [8, 9, 65, 66, 67] (by decide +kernel) (by decide +kernel)
set_option maxRecDepth 20000 in
theorem gX7_reasonAgainstTune_X6_isOfTuneLength : GoodIn wsX7_reasonAgainstTune (wsV RX7 366 RX6 yX6_isOfTuneLength wsX6_isOfTuneLength) := goodIn_app (goodIn_of _ (by decide +kernel)) ggX7_reasonAgainstTune_X6_isOfTuneLength
set_option maxRecDepth 20000 in
theorem ggX7_reasonAgainstTune_X4_growFrom : GoodIn wsX7_reasonAgainstTune wsX4_growFrom := goodIn_r _ [14, 15, 16, 17, 18, 19, 20, 21, 22, 23, 24, 25, 13, 26, 27, 28, 29, 30, 31, 32, 33, 34, 35, 36, 37, 38, 39, 40, 68, 69, 70, 71, 72, 73, 74, 75, 76, 77, 78, 79, 80, 81, 82, 83, 84, 85, 86] (by decide +kernel) (by decide +kernel)
set_option maxRecDepth 20000 in
theorem gX7_reasonAgainstTune_X4_growFrom : GoodIn wsX7_reasonAgainstTune (wsV RX7 254 RX4 yX4_growFrom wsX4_growFrom) := goodIn_app (goodIn_of _ (by decide +kernel)) ggX7_reasonAgainstTune_X4_growFrom
set_option maxRecDepth 20000 in
theorem ggX7_reasonAgainstTune_X4_messageOf : GoodIn wsX7_reasonAgainstTune wsX4_messageOf := goodIn_r _ [44, 45, 16, 46, 47, 48, 7, 49, 50, 51, 34, 35, 36, 52, 53, 54, 13, 55, 15, 65, 66, 67, 68, 69, 70] (by decide +kernel) (by decide +kernel)
set_option maxRecDepth 20000 in
theorem gX7_reasonAgainstTune_X4_messageOf : GoodIn wsX7_reasonAgainstTune (wsV RX7 369 RX4 yX4_messageOf wsX4_messageOf) := goodIn_app (goodIn_of _ (by decide +kernel)) ggX7_reasonAgainstTune_X4_messageOf
theorem dX7_reasonAgainstTune_0 : decode cX7_reasonAgainstTune 0 = .ok (.aload_n 0, 1) := by decide +kernel
theorem dX7_reasonAgainstTune_1 : decode cX7_reasonAgainstTune 1 = .ok (.getfield 43, 3) := by decide +kernel
theorem dX7_reasonAgainstTune_4 : decode cX7_reasonAgainstTune 4 = .ok (.invokevirtual 366, 3) := by decide +kernel
theorem dX7_reasonAgainstTune_7 : decode cX7_reasonAgainstTune 7 = .ok (.ifCond .ne 5, 3) := by decide +kernel
theorem dX7_reasonAgainstTune_10 : decode cX7_reasonAgainstTune 10 = .ok (.iconst 3, 1) := by decide +kernel
theorem dX7_reasonAgainstTune_11 : decode cX7_reasonAgainstTune 11 = .ok (.ireturn, 1) := by decide +kernel
theorem dX7_reasonAgainstTune_12 : decode cX7_reasonAgainstTune 12 = .ok (.aload_n 0, 1) := by decide +kernel
theorem dX7_reasonAgainstTune_13 : decode cX7_reasonAgainstTune 13 = .ok (.getfield 50, 3) := by decide +kernel
theorem dX7_reasonAgainstTune_16 : decode cX7_reasonAgainstTune 16 = .ok (.aload_n 0, 1) := by decide +kernel
theorem dX7_reasonAgainstTune_17 : decode cX7_reasonAgainstTune 17 = .ok (.getfield 10, 3) := by decide +kernel
theorem dX7_reasonAgainstTune_20 : decode cX7_reasonAgainstTune 20 = .ok (.invokevirtual 254, 3) := by decide +kernel
theorem dX7_reasonAgainstTune_23 : decode cX7_reasonAgainstTune 23 = .ok (.aload_n 0, 1) := by decide +kernel
theorem dX7_reasonAgainstTune_24 : decode cX7_reasonAgainstTune 24 = .ok (.getfield 50, 3) := by decide +kernel
theorem dX7_reasonAgainstTune_27 : decode cX7_reasonAgainstTune 27 = .ok (.aload_n 0, 1) := by decide +kernel
theorem dX7_reasonAgainstTune_28 : decode cX7_reasonAgainstTune 28 = .ok (.getfield 43, 3) := by decide +kernel
theorem dX7_reasonAgainstTune_31 : decode cX7_reasonAgainstTune 31 = .ok (.invokevirtual 369, 3) := by decide +kernel
theorem dX7_reasonAgainstTune_34 : decode cX7_reasonAgainstTune 34 = .ok (.istore_n 2, 1) := by decide +kernel
theorem dX7_reasonAgainstTune_35 : decode cX7_reasonAgainstTune 35 = .ok (.iload_n 2, 1) := by decide +kernel
theorem dX7_reasonAgainstTune_36 : decode cX7_reasonAgainstTune 36 = .ok (.iconst (-1), 1) := by decide +kernel
theorem dX7_reasonAgainstTune_37 : decode cX7_reasonAgainstTune 37 = .ok (.if_icmp .eq 8, 3) := by decide +kernel
theorem dX7_reasonAgainstTune_40 : decode cX7_reasonAgainstTune 40 = .ok (.iload_n 2, 1) := by decide +kernel
theorem dX7_reasonAgainstTune_41 : decode cX7_reasonAgainstTune 41 = .ok (.iload_n 1, 1) := by decide +kernel
theorem dX7_reasonAgainstTune_42 : decode cX7_reasonAgainstTune 42 = .ok (.if_icmp .ne 7, 3) := by decide +kernel
theorem dX7_reasonAgainstTune_45 : decode cX7_reasonAgainstTune 45 = .ok (.iconst 0, 1) := by decide +kernel
theorem dX7_reasonAgainstTune_46 : decode cX7_reasonAgainstTune 46 = .ok (.goto 4, 3) := by decide +kernel
theorem dX7_reasonAgainstTune_49 : decode cX7_reasonAgainstTune 49 = .ok (.iconst 4, 1) := by decide +kernel
theorem dX7_reasonAgainstTune_50 : decode cX7_reasonAgainstTune 50 = .ok (.ireturn, 1) := by decide +kernel
set_option maxRecDepth 20000 in
theorem ggX7_messageOfShape_X6_isOfTuneLength : GoodIn wsX7_messageOfShape wsX6_isOfTuneLength := goodIn_r _ [8, 9, 65, 66, 67] (by decide +kernel) (by decide +kernel)
set_option maxRecDepth 20000 in
theorem gX7_messageOfShape_X6_isOfTuneLength : GoodIn wsX7_messageOfShape (wsV RX7 366 RX6 yX6_isOfTuneLength wsX6_isOfTuneLength) := goodIn_app (goodIn_of _ (by decide +kernel)) ggX7_messageOfShape_X6_isOfTuneLength
set_option maxRecDepth 20000 in
theorem ggX7_messageOfShape_X4_growFrom : GoodIn wsX7_messageOfShape wsX4_growFrom := goodIn_r _ [14, 15, 16, 17, 18, 19, 20, 21, 22, 23, 24, 25, 13, 26, 27, 28, 29, 30, 31, 32, 33, 34, 35, 36, 37, 38, 39, 40, 68, 69, 70, 71, 72, 73, 74, 75, 76, 77, 78, 79, 80, 81, 82, 83, 84, 85, 86] (by decide +kernel) (by decide +kernel)
set_option maxRecDepth 20000 in
theorem gX7_messageOfShape_X4_growFrom : GoodIn wsX7_messageOfShape (wsV RX7 254 RX4 yX4_growFrom wsX4_growFrom) := goodIn_app (goodIn_of _ (by decide +kernel)) ggX7_messageOfShape_X4_growFrom
set_option maxRecDepth 20000 in
theorem ggX7_messageOfShape_X4_messageOf : GoodIn wsX7_messageOfShape wsX4_messageOf := goodIn_r _ [44, 45, 16, 46, 47, 48, 7, 49, 50, 51, 34, 35, 36, 52, 53, 54, 13, 55, 15, 65, 66, 67, 68, 69, 70] (by decide +kernel) (by decide +kernel)
set_option maxRecDepth 20000 in
theorem gX7_messageOfShape_X4_messageOf : GoodIn wsX7_messageOfShape (wsV RX7 369 RX4 yX4_messageOf wsX4_messageOf) := goodIn_app (goodIn_of _ (by decide +kernel)) ggX7_messageOfShape_X4_messageOf
theorem dX7_messageOfShape_0 : decode cX7_messageOfShape 0 = .ok (.aload_n 0, 1) := by decide +kernel
theorem dX7_messageOfShape_1 : decode cX7_messageOfShape 1 = .ok (.getfield 43, 3) := by decide +kernel
theorem dX7_messageOfShape_4 : decode cX7_messageOfShape 4 = .ok (.invokevirtual 366, 3) := by decide +kernel
theorem dX7_messageOfShape_7 : decode cX7_messageOfShape 7 = .ok (.ifCond .ne 5, 3) := by decide +kernel
theorem dX7_messageOfShape_10 : decode cX7_messageOfShape 10 = .ok (.iconst (-1), 1) := by decide +kernel
theorem dX7_messageOfShape_11 : decode cX7_messageOfShape 11 = .ok (.ireturn, 1) := by decide +kernel
theorem dX7_messageOfShape_12 : decode cX7_messageOfShape 12 = .ok (.aload_n 0, 1) := by decide +kernel
theorem dX7_messageOfShape_13 : decode cX7_messageOfShape 13 = .ok (.getfield 50, 3) := by decide +kernel
theorem dX7_messageOfShape_16 : decode cX7_messageOfShape 16 = .ok (.aload_n 0, 1) := by decide +kernel
theorem dX7_messageOfShape_17 : decode cX7_messageOfShape 17 = .ok (.getfield 10, 3) := by decide +kernel
theorem dX7_messageOfShape_20 : decode cX7_messageOfShape 20 = .ok (.invokevirtual 254, 3) := by decide +kernel
theorem dX7_messageOfShape_23 : decode cX7_messageOfShape 23 = .ok (.aload_n 0, 1) := by decide +kernel
theorem dX7_messageOfShape_24 : decode cX7_messageOfShape 24 = .ok (.getfield 50, 3) := by decide +kernel
theorem dX7_messageOfShape_27 : decode cX7_messageOfShape 27 = .ok (.aload_n 0, 1) := by decide +kernel
theorem dX7_messageOfShape_28 : decode cX7_messageOfShape 28 = .ok (.getfield 43, 3) := by decide +kernel
theorem dX7_messageOfShape_31 : decode cX7_messageOfShape 31 = .ok (.invokevirtual 369, 3) := by decide +kernel
theorem dX7_messageOfShape_34 : decode cX7_messageOfShape 34 = .ok (.ireturn, 1) := by decide +kernel
set_option maxRecDepth 20000 in
theorem ggX7_keyBetween_X3_noteAt : GoodIn wsX7_keyBetween wsX3_noteAt := goodIn_r _ [8, 9, 26, 27, 28, 29, 30, 31, 32, 33, 34, 35, 36, 37, 38, 39, 40, 41] (by decide +kernel) (by decide +kernel)
set_option maxRecDepth 20000 in
theorem gX7_keyBetween_X3_noteAt : GoodIn wsX7_keyBetween (wsV RX7 229 RX3 yX3_noteAt wsX3_noteAt) := goodIn_app (goodIn_of _ (by decide +kernel)) ggX7_keyBetween_X3_noteAt
set_option maxRecDepth 20000 in
theorem ggX7_keyBetween_J9_floorMod_7cf53 : GoodIn wsX7_keyBetween wsJ9_floorMod_7cf53 := goodIn_r _ [13] (by decide +kernel) (by decide +kernel)
set_option maxRecDepth 20000 in
theorem gX7_keyBetween_J9_floorMod_7cf53 : GoodIn wsX7_keyBetween (va_wsS RX7 376 yJ9_floorMod_7cf53 wsJ9_floorMod_7cf53) := goodIn_app (goodIn_of _ (by decide +kernel)) ggX7_keyBetween_J9_floorMod_7cf53
theorem dX7_keyBetween_0 : decode cX7_keyBetween 0 = .ok (.aload_n 0, 1) := by decide +kernel
theorem dX7_keyBetween_1 : decode cX7_keyBetween 1 = .ok (.getfield 43, 3) := by decide +kernel
theorem dX7_keyBetween_4 : decode cX7_keyBetween 4 = .ok (.getfield 373, 3) := by decide +kernel
theorem dX7_keyBetween_7 : decode cX7_keyBetween 7 = .ok (.iconst 0, 1) := by decide +kernel
theorem dX7_keyBetween_8 : decode cX7_keyBetween 8 = .ok (.iaload, 1) := by decide +kernel
theorem dX7_keyBetween_9 : decode cX7_keyBetween 9 = .ok (.aload_n 0, 1) := by decide +kernel
theorem dX7_keyBetween_10 : decode cX7_keyBetween 10 = .ok (.getfield 10, 3) := by decide +kernel
theorem dX7_keyBetween_13 : decode cX7_keyBetween 13 = .ok (.iload_n 1, 1) := by decide +kernel
theorem dX7_keyBetween_14 : decode cX7_keyBetween 14 = .ok (.iconst 0, 1) := by decide +kernel
theorem dX7_keyBetween_15 : decode cX7_keyBetween 15 = .ok (.invokevirtual 229, 3) := by decide +kernel
theorem dX7_keyBetween_18 : decode cX7_keyBetween 18 = .ok (.isub, 1) := by decide +kernel
theorem dX7_keyBetween_19 : decode cX7_keyBetween 19 = .ok (.bipush 7, 2) := by decide +kernel
theorem dX7_keyBetween_21 : decode cX7_keyBetween 21 = .ok (.invokestatic 376, 3) := by decide +kernel
theorem dX7_keyBetween_24 : decode cX7_keyBetween 24 = .ok (.ireturn, 1) := by decide +kernel
set_option maxRecDepth 20000 in
theorem ggX7_decodeByTree_X7_messageOfShape : GoodIn wsX7_decodeByTree wsX7_messageOfShape := goodIn_r _ [5, 6, 7, 8, 9, 10, 11, 12, 13, 14, 15, 16, 17, 18, 19, 20, 21, 22, 23, 24, 25, 26, 27, 28, 29, 30, 31, 32, 33, 34, 35, 36, 37, 38, 39, 40, 41, 42, 43, 44, 45, 46, 47, 48, 49, 50, 51, 52, 53, 54, 55, 56, 57, 58, 59, 60, 68, 69, 70, 71, 72, 73, 74, 75, 76, 77, 78, 79, 80, 81, 82, 83, 84, 85, 86, 87, 88, 89, 90, 91, 92, 93, 94, 95, 96, 97, 98] (by decide +kernel) (by decide +kernel)
set_option maxRecDepth 20000 in
theorem gX7_decodeByTree_X7_messageOfShape : GoodIn wsX7_decodeByTree (wsV RX7 281 RX7 yX7_messageOfShape wsX7_messageOfShape) := goodIn_app (goodIn_of _ (by decide +kernel)) ggX7_decodeByTree_X7_messageOfShape
set_option maxRecDepth 20000 in
theorem ggX7_decodeByTree_X7_keyBetween : GoodIn wsX7_decodeByTree wsX7_keyBetween := goodIn_r _ [64, 6, 65, 8, 66, 33, 34, 35, 36, 37, 67, 39, 40, 41, 68, 69, 70, 71, 72, 73, 74, 75, 76, 77, 78, 79, 83, 84, 85, 86, 87, 88, 89, 90, 91, 92, 93, 94, 95, 96, 97, 98] (by decide +kernel) (by decide +kernel)
set_option maxRecDepth 20000 in
theorem gX7_decodeByTree_X7_keyBetween : GoodIn wsX7_decodeByTree (wsV RX7 284 RX7 yX7_keyBetween wsX7_keyBetween) := goodIn_app (goodIn_of _ (by decide +kernel)) ggX7_decodeByTree_X7_keyBetween
theorem dX7_decodeByTree_0 : decode cX7_decodeByTree 0 = .ok (.aload_n 0, 1) := by decide +kernel
theorem dX7_decodeByTree_1 : decode cX7_decodeByTree 1 = .ok (.invokevirtual 281, 3) := by decide +kernel
theorem dX7_decodeByTree_4 : decode cX7_decodeByTree 4 = .ok (.istore_n 2, 1) := by decide +kernel
theorem dX7_decodeByTree_5 : decode cX7_decodeByTree 5 = .ok (.iload_n 2, 1) := by decide +kernel
theorem dX7_decodeByTree_6 : decode cX7_decodeByTree 6 = .ok (.iconst (-1), 1) := by decide +kernel
theorem dX7_decodeByTree_7 : decode cX7_decodeByTree 7 = .ok (.if_icmp .eq 16, 3) := by decide +kernel
theorem dX7_decodeByTree_10 : decode cX7_decodeByTree 10 = .ok (.aload_n 0, 1) := by decide +kernel
theorem dX7_decodeByTree_11 : decode cX7_decodeByTree 11 = .ok (.iload_n 2, 1) := by decide +kernel
theorem dX7_decodeByTree_12 : decode cX7_decodeByTree 12 = .ok (.invokevirtual 284, 3) := by decide +kernel
theorem dX7_decodeByTree_15 : decode cX7_decodeByTree 15 = .ok (.iload_n 1, 1) := by decide +kernel
theorem dX7_decodeByTree_16 : decode cX7_decodeByTree 16 = .ok (.if_icmp .ne 7, 3) := by decide +kernel
theorem dX7_decodeByTree_19 : decode cX7_decodeByTree 19 = .ok (.iload_n 2, 1) := by decide +kernel
theorem dX7_decodeByTree_20 : decode cX7_decodeByTree 20 = .ok (.goto 4, 3) := by decide +kernel
theorem dX7_decodeByTree_23 : decode cX7_decodeByTree 23 = .ok (.iconst (-1), 1) := by decide +kernel
theorem dX7_decodeByTree_24 : decode cX7_decodeByTree 24 = .ok (.ireturn, 1) := by decide +kernel
set_option maxRecDepth 20000 in
theorem ggX7_decodeByMessages_X6_isOfTuneLength : GoodIn wsX7_decodeByMessages wsX6_isOfTuneLength := goodIn_r _ [6, 7, 32, 33, 34] (by decide +kernel) (by decide +kernel)
set_option maxRecDepth 20000 in
theorem gX7_decodeByMessages_X6_isOfTuneLength : GoodIn wsX7_decodeByMessages (wsV RX7 366 RX6 yX6_isOfTuneLength wsX6_isOfTuneLength) := goodIn_app (goodIn_of _ (by decide +kernel)) ggX7_decodeByMessages_X6_isOfTuneLength
set_option maxRecDepth 20000 in
theorem ggX7_decodeByMessages_X7_isWhistledAs : GoodIn wsX7_decodeByMessages wsX7_isWhistledAs := goodIn_r _ [12, 1, 13, 14, 15, 16, 17, 18, 19, 20, 21, 22, 23, 24, 25, 26, 27, 28, 29, 30, 31, 32, 33, 34, 35, 36, 37, 38, 39, 40, 41, 42, 43, 44, 45, 46, 47, 48, 49, 50] (by decide +kernel) (by decide +kernel)
set_option maxRecDepth 20000 in
theorem gX7_decodeByMessages_X7_isWhistledAs : GoodIn wsX7_decodeByMessages (wsV RX7 381 RX7 yX7_isWhistledAs wsX7_isWhistledAs) := goodIn_app (goodIn_of _ (by decide +kernel)) ggX7_decodeByMessages_X7_isWhistledAs
theorem dX7_decodeByMessages_0 : decode cX7_decodeByMessages 0 = .ok (.aload_n 0, 1) := by decide +kernel
theorem dX7_decodeByMessages_1 : decode cX7_decodeByMessages 1 = .ok (.getfield 43, 3) := by decide +kernel
theorem dX7_decodeByMessages_4 : decode cX7_decodeByMessages 4 = .ok (.invokevirtual 366, 3) := by decide +kernel
theorem dX7_decodeByMessages_7 : decode cX7_decodeByMessages 7 = .ok (.ifCond .ne 5, 3) := by decide +kernel
theorem dX7_decodeByMessages_10 : decode cX7_decodeByMessages 10 = .ok (.iconst (-1), 1) := by decide +kernel
theorem dX7_decodeByMessages_11 : decode cX7_decodeByMessages 11 = .ok (.ireturn, 1) := by decide +kernel
theorem dX7_decodeByMessages_12 : decode cX7_decodeByMessages 12 = .ok (.iconst 0, 1) := by decide +kernel
theorem dX7_decodeByMessages_13 : decode cX7_decodeByMessages 13 = .ok (.istore_n 2, 1) := by decide +kernel
theorem dX7_decodeByMessages_14 : decode cX7_decodeByMessages 14 = .ok (.iload_n 2, 1) := by decide +kernel
theorem dX7_decodeByMessages_15 : decode cX7_decodeByMessages 15 = .ok (.bipush 20, 2) := by decide +kernel
theorem dX7_decodeByMessages_17 : decode cX7_decodeByMessages 17 = .ok (.if_icmp .ge 20, 3) := by decide +kernel
theorem dX7_decodeByMessages_20 : decode cX7_decodeByMessages 20 = .ok (.aload_n 0, 1) := by decide +kernel
theorem dX7_decodeByMessages_21 : decode cX7_decodeByMessages 21 = .ok (.iload_n 2, 1) := by decide +kernel
theorem dX7_decodeByMessages_22 : decode cX7_decodeByMessages 22 = .ok (.iload_n 1, 1) := by decide +kernel
theorem dX7_decodeByMessages_23 : decode cX7_decodeByMessages 23 = .ok (.invokevirtual 381, 3) := by decide +kernel
theorem dX7_decodeByMessages_26 : decode cX7_decodeByMessages 26 = .ok (.ifCond .eq 5, 3) := by decide +kernel
theorem dX7_decodeByMessages_29 : decode cX7_decodeByMessages 29 = .ok (.iload_n 2, 1) := by decide +kernel
theorem dX7_decodeByMessages_30 : decode cX7_decodeByMessages 30 = .ok (.ireturn, 1) := by decide +kernel
theorem dX7_decodeByMessages_31 : decode cX7_decodeByMessages 31 = .ok (.iinc 2 1, 3) := by decide +kernel
theorem dX7_decodeByMessages_34 : decode cX7_decodeByMessages 34 = .ok (.goto (-20), 3) := by decide +kernel
theorem dX7_decodeByMessages_37 : decode cX7_decodeByMessages 37 = .ok (.iconst (-1), 1) := by decide +kernel
theorem dX7_decodeByMessages_38 : decode cX7_decodeByMessages 38 = .ok (.ireturn, 1) := by decide +kernel
set_option maxRecDepth 20000 in
theorem ggX7_isWhistledAs_X3_noteAt : GoodIn wsX7_isWhistledAs wsX3_noteAt := goodIn_r _ [10, 11, 24, 25, 26, 27, 28, 29, 30, 31, 32, 33, 34, 35, 36, 37, 38, 39] (by decide +kernel) (by decide +kernel)
set_option maxRecDepth 20000 in
theorem gX7_isWhistledAs_X3_noteAt : GoodIn wsX7_isWhistledAs (wsV RX7 229 RX3 yX3_noteAt wsX3_noteAt) := goodIn_app (goodIn_of _ (by decide +kernel)) ggX7_isWhistledAs_X3_noteAt
theorem dX7_isWhistledAs_0 : decode cX7_isWhistledAs 0 = .ok (.aload_n 0, 1) := by decide +kernel
theorem dX7_isWhistledAs_1 : decode cX7_isWhistledAs 1 = .ok (.getfield 43, 3) := by decide +kernel
theorem dX7_isWhistledAs_4 : decode cX7_isWhistledAs 4 = .ok (.getfield 105, 3) := by decide +kernel
theorem dX7_isWhistledAs_7 : decode cX7_isWhistledAs 7 = .ok (.aload_n 0, 1) := by decide +kernel
theorem dX7_isWhistledAs_8 : decode cX7_isWhistledAs 8 = .ok (.getfield 10, 3) := by decide +kernel
theorem dX7_isWhistledAs_11 : decode cX7_isWhistledAs 11 = .ok (.getfield 109, 3) := by decide +kernel
theorem dX7_isWhistledAs_14 : decode cX7_isWhistledAs 14 = .ok (.iload_n 1, 1) := by decide +kernel
theorem dX7_isWhistledAs_15 : decode cX7_isWhistledAs 15 = .ok (.iaload, 1) := by decide +kernel
theorem dX7_isWhistledAs_16 : decode cX7_isWhistledAs 16 = .ok (.if_icmp .eq 5, 3) := by decide +kernel
theorem dX7_isWhistledAs_19 : decode cX7_isWhistledAs 19 = .ok (.iconst 0, 1) := by decide +kernel
theorem dX7_isWhistledAs_20 : decode cX7_isWhistledAs 20 = .ok (.ireturn, 1) := by decide +kernel
theorem dX7_isWhistledAs_21 : decode cX7_isWhistledAs 21 = .ok (.iconst 0, 1) := by decide +kernel
theorem dX7_isWhistledAs_22 : decode cX7_isWhistledAs 22 = .ok (.istore_n 3, 1) := by decide +kernel
theorem dX7_isWhistledAs_23 : decode cX7_isWhistledAs 23 = .ok (.iload_n 3, 1) := by decide +kernel
theorem dX7_isWhistledAs_24 : decode cX7_isWhistledAs 24 = .ok (.aload_n 0, 1) := by decide +kernel
theorem dX7_isWhistledAs_25 : decode cX7_isWhistledAs 25 = .ok (.getfield 43, 3) := by decide +kernel
theorem dX7_isWhistledAs_28 : decode cX7_isWhistledAs 28 = .ok (.getfield 105, 3) := by decide +kernel
theorem dX7_isWhistledAs_31 : decode cX7_isWhistledAs 31 = .ok (.if_icmp .ge 37, 3) := by decide +kernel
theorem dX7_isWhistledAs_34 : decode cX7_isWhistledAs 34 = .ok (.aload_n 0, 1) := by decide +kernel
theorem dX7_isWhistledAs_35 : decode cX7_isWhistledAs 35 = .ok (.getfield 43, 3) := by decide +kernel
theorem dX7_isWhistledAs_38 : decode cX7_isWhistledAs 38 = .ok (.getfield 373, 3) := by decide +kernel
theorem dX7_isWhistledAs_41 : decode cX7_isWhistledAs 41 = .ok (.iload_n 3, 1) := by decide +kernel
theorem dX7_isWhistledAs_42 : decode cX7_isWhistledAs 42 = .ok (.iaload, 1) := by decide +kernel
theorem dX7_isWhistledAs_43 : decode cX7_isWhistledAs 43 = .ok (.aload_n 0, 1) := by decide +kernel
theorem dX7_isWhistledAs_44 : decode cX7_isWhistledAs 44 = .ok (.getfield 10, 3) := by decide +kernel
theorem dX7_isWhistledAs_47 : decode cX7_isWhistledAs 47 = .ok (.iload_n 1, 1) := by decide +kernel
theorem dX7_isWhistledAs_48 : decode cX7_isWhistledAs 48 = .ok (.iload_n 3, 1) := by decide +kernel
theorem dX7_isWhistledAs_49 : decode cX7_isWhistledAs 49 = .ok (.invokevirtual 229, 3) := by decide +kernel
theorem dX7_isWhistledAs_52 : decode cX7_isWhistledAs 52 = .ok (.iload_n 2, 1) := by decide +kernel
theorem dX7_isWhistledAs_53 : decode cX7_isWhistledAs 53 = .ok (.iadd, 1) := by decide +kernel
theorem dX7_isWhistledAs_54 : decode cX7_isWhistledAs 54 = .ok (.bipush 7, 2) := by decide +kernel
theorem dX7_isWhistledAs_56 : decode cX7_isWhistledAs 56 = .ok (.irem, 1) := by decide +kernel
theorem dX7_isWhistledAs_57 : decode cX7_isWhistledAs 57 = .ok (.if_icmp .eq 5, 3) := by decide +kernel
theorem dX7_isWhistledAs_60 : decode cX7_isWhistledAs 60 = .ok (.iconst 0, 1) := by decide +kernel
theorem dX7_isWhistledAs_61 : decode cX7_isWhistledAs 61 = .ok (.ireturn, 1) := by decide +kernel
theorem dX7_isWhistledAs_62 : decode cX7_isWhistledAs 62 = .ok (.iinc 3 1, 3) := by decide +kernel
theorem dX7_isWhistledAs_65 : decode cX7_isWhistledAs 65 = .ok (.goto (-42), 3) := by decide +kernel
theorem dX7_isWhistledAs_68 : decode cX7_isWhistledAs 68 = .ok (.iconst 1, 1) := by decide +kernel
theorem dX7_isWhistledAs_69 : decode cX7_isWhistledAs 69 = .ok (.ireturn, 1) := by decide +kernel
set_option maxRecDepth 20000 in
theorem ggX7_soundWhistle_X2_foresee : GoodIn wsX7_soundWhistle wsX2_foresee := goodIn_r _ [8, 9, 10, 11, 12, 13, 14, 15, 16, 17, 18, 19, 20, 21, 22, 23, 24, 25, 26, 27, 28, 29, 30, 31, 32, 33, 34, 35, 36, 37, 38, 39, 40, 41, 42, 43, 44, 87, 88, 89, 90, 91, 92, 93, 94, 95, 96, 97, 98, 99, 100, 101, 102, 82, 83, 84, 85, 86] (by decide +kernel) (by decide +kernel)
set_option maxRecDepth 20000 in
theorem gX7_soundWhistle_X2_foresee : GoodIn wsX7_soundWhistle (wsV RX7 289 RX2 yX2_foresee wsX2_foresee) := goodIn_app (goodIn_of _ (by decide +kernel)) ggX7_soundWhistle_X2_foresee
set_option maxRecDepth 20000 in
theorem ggX7_soundWhistle_X3_remember : GoodIn wsX7_soundWhistle wsX3_remember := goodIn_r _ [48, 49, 50, 51, 52, 53, 54, 55, 56, 57, 58, 59, 60, 61, 62, 63, 64, 65, 66, 67, 68, 20, 69, 70, 71, 28, 29, 30, 87, 88, 89, 90, 91, 92, 93, 94, 95, 96, 97, 98, 99, 100, 101, 102, 82, 83, 84, 85, 86] (by decide +kernel) (by decide +kernel)
set_option maxRecDepth 20000 in
theorem gX7_soundWhistle_X3_remember : GoodIn wsX7_soundWhistle (wsV RX7 397 RX3 yX3_remember wsX3_remember) := goodIn_app (goodIn_of _ (by decide +kernel)) ggX7_soundWhistle_X3_remember
set_option maxRecDepth 20000 in
theorem ggX7_soundWhistle_J6_bitCount_0f7a4 : GoodIn wsX7_soundWhistle wsJ6_bitCount_0f7a4 := goodIn_r _ [62, 63, 64, 65] (by decide +kernel) (by decide +kernel)
set_option maxRecDepth 20000 in
theorem gX7_soundWhistle_J6_bitCount_0f7a4 : GoodIn wsX7_soundWhistle (va_wsS RX7 134 yJ6_bitCount_0f7a4 wsJ6_bitCount_0f7a4) := goodIn_app (goodIn_of _ (by decide +kernel)) ggX7_soundWhistle_J6_bitCount_0f7a4
theorem dX7_soundWhistle_0 : decode cX7_soundWhistle 0 = .ok (.aload_n 0, 1) := by decide +kernel
theorem dX7_soundWhistle_1 : decode cX7_soundWhistle 1 = .ok (.getfield 57, 3) := by decide +kernel
theorem dX7_soundWhistle_4 : decode cX7_soundWhistle 4 = .ok (.aload_n 0, 1) := by decide +kernel
theorem dX7_soundWhistle_5 : decode cX7_soundWhistle 5 = .ok (.getfield 10, 3) := by decide +kernel
theorem dX7_soundWhistle_8 : decode cX7_soundWhistle 8 = .ok (.iload_n 1, 1) := by decide +kernel
theorem dX7_soundWhistle_9 : decode cX7_soundWhistle 9 = .ok (.iload_n 2, 1) := by decide +kernel
theorem dX7_soundWhistle_10 : decode cX7_soundWhistle 10 = .ok (.invokevirtual 289, 3) := by decide +kernel
theorem dX7_soundWhistle_13 : decode cX7_soundWhistle 13 = .ok (.aload_n 0, 1) := by decide +kernel
theorem dX7_soundWhistle_14 : decode cX7_soundWhistle 14 = .ok (.getfield 10, 3) := by decide +kernel
theorem dX7_soundWhistle_17 : decode cX7_soundWhistle 17 = .ok (.iload_n 1, 1) := by decide +kernel
theorem dX7_soundWhistle_18 : decode cX7_soundWhistle 18 = .ok (.iload_n 2, 1) := by decide +kernel
theorem dX7_soundWhistle_19 : decode cX7_soundWhistle 19 = .ok (.aload_n 0, 1) := by decide +kernel
theorem dX7_soundWhistle_20 : decode cX7_soundWhistle 20 = .ok (.getfield 57, 3) := by decide +kernel
theorem dX7_soundWhistle_23 : decode cX7_soundWhistle 23 = .ok (.invokevirtual 397, 3) := by decide +kernel
theorem dX7_soundWhistle_26 : decode cX7_soundWhistle 26 = .ok (.aload_n 0, 1) := by decide +kernel
theorem dX7_soundWhistle_27 : decode cX7_soundWhistle 27 = .ok (.getfield 57, 3) := by decide +kernel
theorem dX7_soundWhistle_30 : decode cX7_soundWhistle 30 = .ok (.getfield 296, 3) := by decide +kernel
theorem dX7_soundWhistle_33 : decode cX7_soundWhistle 33 = .ok (.invokestatic 134, 3) := by decide +kernel
theorem dX7_soundWhistle_36 : decode cX7_soundWhistle 36 = .ok (.ireturn, 1) := by decide +kernel
theorem dJ11_isValidCodePoint_9a6ad_0 : decode cJ11_isValidCodePoint_9a6ad 0 = .ok (.iload_n 0, 1) := by decide +kernel
theorem dJ11_isValidCodePoint_9a6ad_1 : decode cJ11_isValidCodePoint_9a6ad 1 = .ok (.bipush 16, 2) := by decide +kernel
theorem dJ11_isValidCodePoint_9a6ad_3 : decode cJ11_isValidCodePoint_9a6ad 3 = .ok (.iushr, 1) := by decide +kernel
theorem dJ11_isValidCodePoint_9a6ad_4 : decode cJ11_isValidCodePoint_9a6ad 4 = .ok (.istore_n 1, 1) := by decide +kernel
theorem dJ11_isValidCodePoint_9a6ad_5 : decode cJ11_isValidCodePoint_9a6ad 5 = .ok (.iload_n 1, 1) := by decide +kernel
theorem dJ11_isValidCodePoint_9a6ad_6 : decode cJ11_isValidCodePoint_9a6ad 6 = .ok (.bipush 17, 2) := by decide +kernel
theorem dJ11_isValidCodePoint_9a6ad_8 : decode cJ11_isValidCodePoint_9a6ad 8 = .ok (.if_icmp .ge 7, 3) := by decide +kernel
theorem dJ11_isValidCodePoint_9a6ad_11 : decode cJ11_isValidCodePoint_9a6ad 11 = .ok (.iconst 1, 1) := by decide +kernel
theorem dJ11_isValidCodePoint_9a6ad_12 : decode cJ11_isValidCodePoint_9a6ad 12 = .ok (.goto 4, 3) := by decide +kernel
theorem dJ11_isValidCodePoint_9a6ad_15 : decode cJ11_isValidCodePoint_9a6ad 15 = .ok (.iconst 0, 1) := by decide +kernel
theorem dJ11_isValidCodePoint_9a6ad_16 : decode cJ11_isValidCodePoint_9a6ad 16 = .ok (.ireturn, 1) := by decide +kernel
theorem dJ11_highSurrogate_5068e_0 : decode cJ11_highSurrogate_5068e 0 = .ok (.iload_n 0, 1) := by decide +kernel
theorem dJ11_highSurrogate_5068e_1 : decode cJ11_highSurrogate_5068e 1 = .ok (.bipush 10, 2) := by decide +kernel
theorem dJ11_highSurrogate_5068e_3 : decode cJ11_highSurrogate_5068e 3 = .ok (.iushr, 1) := by decide +kernel
theorem dJ11_highSurrogate_5068e_4 : decode cJ11_highSurrogate_5068e 4 = .ok (.ldc 110, 2) := by decide +kernel
theorem dJ11_highSurrogate_5068e_6 : decode cJ11_highSurrogate_5068e 6 = .ok (.iadd, 1) := by decide +kernel
theorem dJ11_highSurrogate_5068e_7 : decode cJ11_highSurrogate_5068e 7 = .ok (.i2c, 1) := by decide +kernel
theorem dJ11_highSurrogate_5068e_8 : decode cJ11_highSurrogate_5068e 8 = .ok (.ireturn, 1) := by decide +kernel
theorem dJ11_lowSurrogate_5068e_0 : decode cJ11_lowSurrogate_5068e 0 = .ok (.iload_n 0, 1) := by decide +kernel
theorem dJ11_lowSurrogate_5068e_1 : decode cJ11_lowSurrogate_5068e 1 = .ok (.sipush 1023, 3) := by decide +kernel
theorem dJ11_lowSurrogate_5068e_4 : decode cJ11_lowSurrogate_5068e 4 = .ok (.iand, 1) := by decide +kernel
theorem dJ11_lowSurrogate_5068e_5 : decode cJ11_lowSurrogate_5068e 5 = .ok (.ldc 76, 2) := by decide +kernel
theorem dJ11_lowSurrogate_5068e_7 : decode cJ11_lowSurrogate_5068e 7 = .ok (.iadd, 1) := by decide +kernel
theorem dJ11_lowSurrogate_5068e_8 : decode cJ11_lowSurrogate_5068e 8 = .ok (.i2c, 1) := by decide +kernel
theorem dJ11_lowSurrogate_5068e_9 : decode cJ11_lowSurrogate_5068e 9 = .ok (.ireturn, 1) := by decide +kernel
theorem dJ6_bitCount_0f7a4_0 : decode cJ6_bitCount_0f7a4 0 = .ok (.iload_n 0, 1) := by decide +kernel
theorem dJ6_bitCount_0f7a4_1 : decode cJ6_bitCount_0f7a4 1 = .ok (.iload_n 0, 1) := by decide +kernel
theorem dJ6_bitCount_0f7a4_2 : decode cJ6_bitCount_0f7a4 2 = .ok (.iconst 1, 1) := by decide +kernel
theorem dJ6_bitCount_0f7a4_3 : decode cJ6_bitCount_0f7a4 3 = .ok (.iushr, 1) := by decide +kernel
theorem dJ6_bitCount_0f7a4_4 : decode cJ6_bitCount_0f7a4 4 = .ok (.ldc_w 265, 3) := by decide +kernel
theorem dJ6_bitCount_0f7a4_7 : decode cJ6_bitCount_0f7a4 7 = .ok (.iand, 1) := by decide +kernel
theorem dJ6_bitCount_0f7a4_8 : decode cJ6_bitCount_0f7a4 8 = .ok (.isub, 1) := by decide +kernel
theorem dJ6_bitCount_0f7a4_9 : decode cJ6_bitCount_0f7a4 9 = .ok (.istore_n 0, 1) := by decide +kernel
theorem dJ6_bitCount_0f7a4_10 : decode cJ6_bitCount_0f7a4 10 = .ok (.iload_n 0, 1) := by decide +kernel
theorem dJ6_bitCount_0f7a4_11 : decode cJ6_bitCount_0f7a4 11 = .ok (.ldc_w 266, 3) := by decide +kernel
theorem dJ6_bitCount_0f7a4_14 : decode cJ6_bitCount_0f7a4 14 = .ok (.iand, 1) := by decide +kernel
theorem dJ6_bitCount_0f7a4_15 : decode cJ6_bitCount_0f7a4 15 = .ok (.iload_n 0, 1) := by decide +kernel
theorem dJ6_bitCount_0f7a4_16 : decode cJ6_bitCount_0f7a4 16 = .ok (.iconst 2, 1) := by decide +kernel
theorem dJ6_bitCount_0f7a4_17 : decode cJ6_bitCount_0f7a4 17 = .ok (.iushr, 1) := by decide +kernel
theorem dJ6_bitCount_0f7a4_18 : decode cJ6_bitCount_0f7a4 18 = .ok (.ldc_w 266, 3) := by decide +kernel
theorem dJ6_bitCount_0f7a4_21 : decode cJ6_bitCount_0f7a4 21 = .ok (.iand, 1) := by decide +kernel
theorem dJ6_bitCount_0f7a4_22 : decode cJ6_bitCount_0f7a4 22 = .ok (.iadd, 1) := by decide +kernel
theorem dJ6_bitCount_0f7a4_23 : decode cJ6_bitCount_0f7a4 23 = .ok (.istore_n 0, 1) := by decide +kernel
theorem dJ6_bitCount_0f7a4_24 : decode cJ6_bitCount_0f7a4 24 = .ok (.iload_n 0, 1) := by decide +kernel
theorem dJ6_bitCount_0f7a4_25 : decode cJ6_bitCount_0f7a4 25 = .ok (.iload_n 0, 1) := by decide +kernel
theorem dJ6_bitCount_0f7a4_26 : decode cJ6_bitCount_0f7a4 26 = .ok (.iconst 4, 1) := by decide +kernel
theorem dJ6_bitCount_0f7a4_27 : decode cJ6_bitCount_0f7a4 27 = .ok (.iushr, 1) := by decide +kernel
theorem dJ6_bitCount_0f7a4_28 : decode cJ6_bitCount_0f7a4 28 = .ok (.iadd, 1) := by decide +kernel
theorem dJ6_bitCount_0f7a4_29 : decode cJ6_bitCount_0f7a4 29 = .ok (.ldc_w 267, 3) := by decide +kernel
theorem dJ6_bitCount_0f7a4_32 : decode cJ6_bitCount_0f7a4 32 = .ok (.iand, 1) := by decide +kernel
theorem dJ6_bitCount_0f7a4_33 : decode cJ6_bitCount_0f7a4 33 = .ok (.istore_n 0, 1) := by decide +kernel
theorem dJ6_bitCount_0f7a4_34 : decode cJ6_bitCount_0f7a4 34 = .ok (.iload_n 0, 1) := by decide +kernel
theorem dJ6_bitCount_0f7a4_35 : decode cJ6_bitCount_0f7a4 35 = .ok (.iload_n 0, 1) := by decide +kernel
theorem dJ6_bitCount_0f7a4_36 : decode cJ6_bitCount_0f7a4 36 = .ok (.bipush 8, 2) := by decide +kernel
theorem dJ6_bitCount_0f7a4_38 : decode cJ6_bitCount_0f7a4 38 = .ok (.iushr, 1) := by decide +kernel
theorem dJ6_bitCount_0f7a4_39 : decode cJ6_bitCount_0f7a4 39 = .ok (.iadd, 1) := by decide +kernel
theorem dJ6_bitCount_0f7a4_40 : decode cJ6_bitCount_0f7a4 40 = .ok (.istore_n 0, 1) := by decide +kernel
theorem dJ6_bitCount_0f7a4_41 : decode cJ6_bitCount_0f7a4 41 = .ok (.iload_n 0, 1) := by decide +kernel
theorem dJ6_bitCount_0f7a4_42 : decode cJ6_bitCount_0f7a4 42 = .ok (.iload_n 0, 1) := by decide +kernel
theorem dJ6_bitCount_0f7a4_43 : decode cJ6_bitCount_0f7a4 43 = .ok (.bipush 16, 2) := by decide +kernel
theorem dJ6_bitCount_0f7a4_45 : decode cJ6_bitCount_0f7a4 45 = .ok (.iushr, 1) := by decide +kernel
theorem dJ6_bitCount_0f7a4_46 : decode cJ6_bitCount_0f7a4 46 = .ok (.iadd, 1) := by decide +kernel
theorem dJ6_bitCount_0f7a4_47 : decode cJ6_bitCount_0f7a4 47 = .ok (.istore_n 0, 1) := by decide +kernel
theorem dJ6_bitCount_0f7a4_48 : decode cJ6_bitCount_0f7a4 48 = .ok (.iload_n 0, 1) := by decide +kernel
theorem dJ6_bitCount_0f7a4_49 : decode cJ6_bitCount_0f7a4 49 = .ok (.bipush 63, 2) := by decide +kernel
theorem dJ6_bitCount_0f7a4_51 : decode cJ6_bitCount_0f7a4 51 = .ok (.iand, 1) := by decide +kernel
theorem dJ6_bitCount_0f7a4_52 : decode cJ6_bitCount_0f7a4 52 = .ok (.ireturn, 1) := by decide +kernel
theorem dJ9_floorMod_7cf53_0 : decode cJ9_floorMod_7cf53 0 = .ok (.iload_n 0, 1) := by decide +kernel
theorem dJ9_floorMod_7cf53_1 : decode cJ9_floorMod_7cf53 1 = .ok (.iload_n 1, 1) := by decide +kernel
theorem dJ9_floorMod_7cf53_2 : decode cJ9_floorMod_7cf53 2 = .ok (.irem, 1) := by decide +kernel
theorem dJ9_floorMod_7cf53_3 : decode cJ9_floorMod_7cf53 3 = .ok (.istore_n 2, 1) := by decide +kernel
theorem dJ9_floorMod_7cf53_4 : decode cJ9_floorMod_7cf53 4 = .ok (.iload_n 0, 1) := by decide +kernel
theorem dJ9_floorMod_7cf53_5 : decode cJ9_floorMod_7cf53 5 = .ok (.iload_n 1, 1) := by decide +kernel
theorem dJ9_floorMod_7cf53_6 : decode cJ9_floorMod_7cf53 6 = .ok (.ixor, 1) := by decide +kernel
theorem dJ9_floorMod_7cf53_7 : decode cJ9_floorMod_7cf53 7 = .ok (.ifCond .ge 11, 3) := by decide +kernel
theorem dJ9_floorMod_7cf53_10 : decode cJ9_floorMod_7cf53 10 = .ok (.iload_n 2, 1) := by decide +kernel
theorem dJ9_floorMod_7cf53_11 : decode cJ9_floorMod_7cf53 11 = .ok (.ifCond .eq 7, 3) := by decide +kernel
theorem dJ9_floorMod_7cf53_14 : decode cJ9_floorMod_7cf53 14 = .ok (.iload_n 2, 1) := by decide +kernel
theorem dJ9_floorMod_7cf53_15 : decode cJ9_floorMod_7cf53 15 = .ok (.iload_n 1, 1) := by decide +kernel
theorem dJ9_floorMod_7cf53_16 : decode cJ9_floorMod_7cf53 16 = .ok (.iadd, 1) := by decide +kernel
theorem dJ9_floorMod_7cf53_17 : decode cJ9_floorMod_7cf53 17 = .ok (.ireturn, 1) := by decide +kernel
theorem dJ9_floorMod_7cf53_18 : decode cJ9_floorMod_7cf53 18 = .ok (.iload_n 2, 1) := by decide +kernel
theorem dJ9_floorMod_7cf53_19 : decode cJ9_floorMod_7cf53 19 = .ok (.ireturn, 1) := by decide +kernel
theorem dJ9_max_7cf53_0 : decode cJ9_max_7cf53 0 = .ok (.iload_n 0, 1) := by decide +kernel
theorem dJ9_max_7cf53_1 : decode cJ9_max_7cf53 1 = .ok (.iload_n 1, 1) := by decide +kernel
theorem dJ9_max_7cf53_2 : decode cJ9_max_7cf53 2 = .ok (.if_icmp .lt 7, 3) := by decide +kernel
theorem dJ9_max_7cf53_5 : decode cJ9_max_7cf53 5 = .ok (.iload_n 0, 1) := by decide +kernel
theorem dJ9_max_7cf53_6 : decode cJ9_max_7cf53 6 = .ok (.goto 4, 3) := by decide +kernel
theorem dJ9_max_7cf53_9 : decode cJ9_max_7cf53 9 = .ok (.iload_n 1, 1) := by decide +kernel
theorem dJ9_max_7cf53_10 : decode cJ9_max_7cf53 10 = .ok (.ireturn, 1) := by decide +kernel
theorem dJ9_min_7cf53_0 : decode cJ9_min_7cf53 0 = .ok (.iload_n 0, 1) := by decide +kernel
theorem dJ9_min_7cf53_1 : decode cJ9_min_7cf53 1 = .ok (.iload_n 1, 1) := by decide +kernel
theorem dJ9_min_7cf53_2 : decode cJ9_min_7cf53 2 = .ok (.if_icmp .gt 7, 3) := by decide +kernel
theorem dJ9_min_7cf53_5 : decode cJ9_min_7cf53 5 = .ok (.iload_n 0, 1) := by decide +kernel
theorem dJ9_min_7cf53_6 : decode cJ9_min_7cf53 6 = .ok (.goto 4, 3) := by decide +kernel
theorem dJ9_min_7cf53_9 : decode cJ9_min_7cf53 9 = .ok (.iload_n 1, 1) := by decide +kernel
theorem dJ9_min_7cf53_10 : decode cJ9_min_7cf53 10 = .ok (.ireturn, 1) := by decide +kernel
set_option maxRecDepth 20000 in
theorem ggJ0_length_8abf5_J0_coder_7d493 : GoodIn wsJ0_length_8abf5 wsJ0_coder_7d493 := goodIn_r _ [6, 7, 8] (by decide +kernel) (by decide +kernel)
set_option maxRecDepth 20000 in
theorem gJ0_length_8abf5_J0_coder_7d493 : GoodIn wsJ0_length_8abf5 (wsV RJ0 335 RJ0 yJ0_coder_7d493 wsJ0_coder_7d493) := goodIn_app (goodIn_of _ (by decide +kernel)) ggJ0_length_8abf5_J0_coder_7d493
theorem dJ0_length_8abf5_0 : decode cJ0_length_8abf5 0 = .ok (.aload_n 0, 1) := by decide +kernel
theorem dJ0_length_8abf5_1 : decode cJ0_length_8abf5 1 = .ok (.getfield 9, 3) := by decide +kernel
theorem dJ0_length_8abf5_4 : decode cJ0_length_8abf5 4 = .ok (.arraylength, 1) := by decide +kernel
theorem dJ0_length_8abf5_5 : decode cJ0_length_8abf5 5 = .ok (.aload_n 0, 1) := by decide +kernel
theorem dJ0_length_8abf5_6 : decode cJ0_length_8abf5 6 = .ok (.invokevirtual 335, 3) := by decide +kernel
theorem dJ0_length_8abf5_9 : decode cJ0_length_8abf5 9 = .ok (.ishr, 1) := by decide +kernel
theorem dJ0_length_8abf5_10 : decode cJ0_length_8abf5 10 = .ok (.ireturn, 1) := by decide +kernel
set_option maxRecDepth 20000 in
theorem ggJ0_indexOf_0f7a4_J0_indexOf_7cf53 : GoodIn wsJ0_indexOf_0f7a4 wsJ0_indexOf_7cf53 := goodIn_r _ [5, 6, 7, 8, 9, 4, 10, 11, 12, 13, 14, 15, 16, 17, 18, 19, 20, 21, 22, 23, 24, 25, 26, 27, 28, 29, 30, 31, 32, 33, 34, 35, 36, 37, 38, 39, 40, 41, 42, 43, 44, 45, 46, 47, 48, 49, 50, 51, 52, 53, 54, 55, 56, 57, 58, 59, 60, 61, 62, 63, 64, 65, 66, 67, 68, 69, 70, 71, 72, 73, 74, 75, 76, 77, 78, 79, 80, 81, 82, 83, 84, 85] (by decide +kernel) (by decide +kernel)
set_option maxRecDepth 20000 in
theorem gJ0_indexOf_0f7a4_J0_indexOf_7cf53 : GoodIn wsJ0_indexOf_0f7a4 (wsV RJ0 633 RJ0 yJ0_indexOf_7cf53 wsJ0_indexOf_7cf53) := goodIn_app (goodIn_of _ (by decide +kernel)) ggJ0_indexOf_0f7a4_J0_indexOf_7cf53
theorem dJ0_indexOf_0f7a4_0 : decode cJ0_indexOf_0f7a4 0 = .ok (.aload_n 0, 1) := by decide +kernel
theorem dJ0_indexOf_0f7a4_1 : decode cJ0_indexOf_0f7a4 1 = .ok (.iload_n 1, 1) := by decide +kernel
theorem dJ0_indexOf_0f7a4_2 : decode cJ0_indexOf_0f7a4 2 = .ok (.iconst 0, 1) := by decide +kernel
theorem dJ0_indexOf_0f7a4_3 : decode cJ0_indexOf_0f7a4 3 = .ok (.invokevirtual 633, 3) := by decide +kernel
theorem dJ0_indexOf_0f7a4_6 : decode cJ0_indexOf_0f7a4 6 = .ok (.ireturn, 1) := by decide +kernel
set_option maxRecDepth 20000 in
theorem ggJ0_indexOf_7cf53_J0_isLatin1_aae02 : GoodIn wsJ0_indexOf_7cf53 wsJ0_isLatin1_aae02 := goodIn_r _ [6, 7, 8] (by decide +kernel) (by decide +kernel)
set_option maxRecDepth 20000 in
theorem gJ0_indexOf_7cf53_J0_isLatin1_aae02 : GoodIn wsJ0_indexOf_7cf53 (wsV RJ0 492 RJ0 yJ0_isLatin1_aae02 wsJ0_isLatin1_aae02) := goodIn_app (goodIn_of _ (by decide +kernel)) ggJ0_indexOf_7cf53_J0_isLatin1_aae02
set_option maxRecDepth 20000 in
theorem ggJ0_indexOf_7cf53_J0_length_8abf5 : GoodIn wsJ0_indexOf_7cf53 wsJ0_length_8abf5 := goodIn_r _ [12, 1, 13, 14, 15, 5, 16, 7, 8] (by decide +kernel) (by decide +kernel)
set_option maxRecDepth 20000 in
theorem gJ0_indexOf_7cf53_J0_length_8abf5 : GoodIn wsJ0_indexOf_7cf53 (wsV RJ0 505 RJ0 yJ0_length_8abf5 wsJ0_length_8abf5) := goodIn_app (goodIn_of _ (by decide +kernel)) ggJ0_indexOf_7cf53_J0_length_8abf5
set_option maxRecDepth 20000 in
theorem ggJ0_indexOf_7cf53_J1_indexOf_4cfef : GoodIn wsJ0_indexOf_7cf53 wsJ1_indexOf_4cfef := goodIn_r _ [20, 21, 22, 23, 24, 25, 26, 27, 28, 29, 19, 30, 31, 32, 33] (by decide +kernel) (by decide +kernel)
set_option maxRecDepth 20000 in
theorem gJ0_indexOf_7cf53_J1_indexOf_4cfef : GoodIn wsJ0_indexOf_7cf53 (va_wsS RJ0 637 yJ1_indexOf_4cfef wsJ1_indexOf_4cfef) := goodIn_app (goodIn_of _ (by decide +kernel)) ggJ0_indexOf_7cf53_J1_indexOf_4cfef
set_option maxRecDepth 20000 in
theorem ggJ0_indexOf_7cf53_J2_indexOf_4cfef : GoodIn wsJ0_indexOf_7cf53 wsJ2_indexOf_4cfef := goodIn_r _ [37, 38, 22, 23, 24, 39, 26, 27, 40, 41, 42, 36, 43, 44, 45, 46, 47, 48, 49, 50, 51, 5, 52, 53, 54, 55, 56, 57, 58, 59, 60, 61, 62, 63, 64, 65, 66, 67, 68, 69, 70, 71, 72, 73, 74, 75, 76, 77, 78, 79, 80, 81] (by decide +kernel) (by decide +kernel)
set_option maxRecDepth 20000 in
theorem gJ0_indexOf_7cf53_J2_indexOf_4cfef : GoodIn wsJ0_indexOf_7cf53 (va_wsS RJ0 640 yJ2_indexOf_4cfef wsJ2_indexOf_4cfef) := goodIn_app (goodIn_of _ (by decide +kernel)) ggJ0_indexOf_7cf53_J2_indexOf_4cfef
theorem dJ0_indexOf_7cf53_0 : decode cJ0_indexOf_7cf53 0 = .ok (.aload_n 0, 1) := by decide +kernel
theorem dJ0_indexOf_7cf53_1 : decode cJ0_indexOf_7cf53 1 = .ok (.invokevirtual 492, 3) := by decide +kernel
theorem dJ0_indexOf_7cf53_4 : decode cJ0_indexOf_7cf53 4 = .ok (.ifCond .eq 19, 3) := by decide +kernel
theorem dJ0_indexOf_7cf53_7 : decode cJ0_indexOf_7cf53 7 = .ok (.aload_n 0, 1) := by decide +kernel
theorem dJ0_indexOf_7cf53_8 : decode cJ0_indexOf_7cf53 8 = .ok (.getfield 9, 3) := by decide +kernel
theorem dJ0_indexOf_7cf53_11 : decode cJ0_indexOf_7cf53 11 = .ok (.iload_n 1, 1) := by decide +kernel
theorem dJ0_indexOf_7cf53_12 : decode cJ0_indexOf_7cf53 12 = .ok (.iload_n 2, 1) := by decide +kernel
theorem dJ0_indexOf_7cf53_13 : decode cJ0_indexOf_7cf53 13 = .ok (.aload_n 0, 1) := by decide +kernel
theorem dJ0_indexOf_7cf53_14 : decode cJ0_indexOf_7cf53 14 = .ok (.invokevirtual 505, 3) := by decide +kernel
theorem dJ0_indexOf_7cf53_17 : decode cJ0_indexOf_7cf53 17 = .ok (.invokestatic 637, 3) := by decide +kernel
theorem dJ0_indexOf_7cf53_20 : decode cJ0_indexOf_7cf53 20 = .ok (.goto 16, 3) := by decide +kernel
theorem dJ0_indexOf_7cf53_23 : decode cJ0_indexOf_7cf53 23 = .ok (.aload_n 0, 1) := by decide +kernel
theorem dJ0_indexOf_7cf53_24 : decode cJ0_indexOf_7cf53 24 = .ok (.getfield 9, 3) := by decide +kernel
theorem dJ0_indexOf_7cf53_27 : decode cJ0_indexOf_7cf53 27 = .ok (.iload_n 1, 1) := by decide +kernel
theorem dJ0_indexOf_7cf53_28 : decode cJ0_indexOf_7cf53 28 = .ok (.iload_n 2, 1) := by decide +kernel
theorem dJ0_indexOf_7cf53_29 : decode cJ0_indexOf_7cf53 29 = .ok (.aload_n 0, 1) := by decide +kernel
theorem dJ0_indexOf_7cf53_30 : decode cJ0_indexOf_7cf53 30 = .ok (.invokevirtual 505, 3) := by decide +kernel
theorem dJ0_indexOf_7cf53_33 : decode cJ0_indexOf_7cf53 33 = .ok (.invokestatic 640, 3) := by decide +kernel
theorem dJ0_indexOf_7cf53_36 : decode cJ0_indexOf_7cf53 36 = .ok (.ireturn, 1) := by decide +kernel
theorem dJ0_coder_7d493_0 : decode cJ0_coder_7d493 0 = .ok (.getstatic 38, 3) := by decide +kernel
theorem dJ0_coder_7d493_3 : decode cJ0_coder_7d493 3 = .ok (.ifCond .eq 10, 3) := by decide +kernel
theorem dJ0_coder_7d493_6 : decode cJ0_coder_7d493 6 = .ok (.aload_n 0, 1) := by decide +kernel
theorem dJ0_coder_7d493_7 : decode cJ0_coder_7d493 7 = .ok (.getfield 15, 3) := by decide +kernel
theorem dJ0_coder_7d493_10 : decode cJ0_coder_7d493 10 = .ok (.goto 4, 3) := by decide +kernel
theorem dJ0_coder_7d493_13 : decode cJ0_coder_7d493 13 = .ok (.iconst 1, 1) := by decide +kernel
theorem dJ0_coder_7d493_14 : decode cJ0_coder_7d493 14 = .ok (.ireturn, 1) := by decide +kernel
theorem dJ0_isLatin1_aae02_0 : decode cJ0_isLatin1_aae02 0 = .ok (.getstatic 38, 3) := by decide +kernel
theorem dJ0_isLatin1_aae02_3 : decode cJ0_isLatin1_aae02 3 = .ok (.ifCond .eq 14, 3) := by decide +kernel
theorem dJ0_isLatin1_aae02_6 : decode cJ0_isLatin1_aae02 6 = .ok (.aload_n 0, 1) := by decide +kernel
theorem dJ0_isLatin1_aae02_7 : decode cJ0_isLatin1_aae02 7 = .ok (.getfield 15, 3) := by decide +kernel
theorem dJ0_isLatin1_aae02_10 : decode cJ0_isLatin1_aae02 10 = .ok (.ifCond .ne 7, 3) := by decide +kernel
theorem dJ0_isLatin1_aae02_13 : decode cJ0_isLatin1_aae02 13 = .ok (.iconst 1, 1) := by decide +kernel
theorem dJ0_isLatin1_aae02_14 : decode cJ0_isLatin1_aae02 14 = .ok (.goto 4, 3) := by decide +kernel
theorem dJ0_isLatin1_aae02_17 : decode cJ0_isLatin1_aae02 17 = .ok (.iconst 0, 1) := by decide +kernel
theorem dJ0_isLatin1_aae02_18 : decode cJ0_isLatin1_aae02 18 = .ok (.ireturn, 1) := by decide +kernel
set_option maxRecDepth 20000 in
theorem ggJ0_checkBoundsBeginEnd_23922_J3_checkFromToIndex_8c36e : GoodIn wsJ0_checkBoundsBeginEnd_23922 wsJ3_checkFromToIndex_8c36e := goodIn_r _ [5] (by decide +kernel) (by decide +kernel)
set_option maxRecDepth 20000 in
theorem gJ0_checkBoundsBeginEnd_23922_J3_checkFromToIndex_8c36e : GoodIn wsJ0_checkBoundsBeginEnd_23922 (va_wsS RJ0 1062 yJ3_checkFromToIndex_8c36e wsJ3_checkFromToIndex_8c36e) := goodIn_app (goodIn_of _ (by decide +kernel)) ggJ0_checkBoundsBeginEnd_23922_J3_checkFromToIndex_8c36e
theorem dJ0_checkBoundsBeginEnd_23922_0 : decode cJ0_checkBoundsBeginEnd_23922 0 = .ok (.iload_n 0, 1) := by decide +kernel
theorem dJ0_checkBoundsBeginEnd_23922_1 : decode cJ0_checkBoundsBeginEnd_23922 1 = .ok (.iload_n 1, 1) := by decide +kernel
theorem dJ0_checkBoundsBeginEnd_23922_2 : decode cJ0_checkBoundsBeginEnd_23922 2 = .ok (.iload_n 2, 1) := by decide +kernel
theorem dJ0_checkBoundsBeginEnd_23922_3 : decode cJ0_checkBoundsBeginEnd_23922 3 = .ok (.getstatic 1053, 3) := by decide +kernel
theorem dJ0_checkBoundsBeginEnd_23922_6 : decode cJ0_checkBoundsBeginEnd_23922 6 = .ok (.invokestatic 1062, 3) := by decide +kernel
theorem dJ0_checkBoundsBeginEnd_23922_9 : decode cJ0_checkBoundsBeginEnd_23922 9 = .ok (.pop, 1) := by decide +kernel
theorem dJ0_checkBoundsBeginEnd_23922_10 : decode cJ0_checkBoundsBeginEnd_23922 10 = .ok (.return_, 1) := by decide +kernel
theorem dJ1_canEncode_9a6ad_0 : decode cJ1_canEncode_9a6ad 0 = .ok (.iload_n 0, 1) := by decide +kernel
theorem dJ1_canEncode_9a6ad_1 : decode cJ1_canEncode_9a6ad 1 = .ok (.ifCond .lt 14, 3) := by decide +kernel
theorem dJ1_canEncode_9a6ad_4 : decode cJ1_canEncode_9a6ad 4 = .ok (.iload_n 0, 1) := by decide +kernel
theorem dJ1_canEncode_9a6ad_5 : decode cJ1_canEncode_9a6ad 5 = .ok (.sipush 255, 3) := by decide +kernel
theorem dJ1_canEncode_9a6ad_8 : decode cJ1_canEncode_9a6ad 8 = .ok (.if_icmp .gt 7, 3) := by decide +kernel
theorem dJ1_canEncode_9a6ad_11 : decode cJ1_canEncode_9a6ad 11 = .ok (.iconst 1, 1) := by decide +kernel
theorem dJ1_canEncode_9a6ad_12 : decode cJ1_canEncode_9a6ad 12 = .ok (.goto 4, 3) := by decide +kernel
theorem dJ1_canEncode_9a6ad_15 : decode cJ1_canEncode_9a6ad 15 = .ok (.iconst 0, 1) := by decide +kernel
theorem dJ1_canEncode_9a6ad_16 : decode cJ1_canEncode_9a6ad 16 = .ok (.ireturn, 1) := by decide +kernel
set_option maxRecDepth 20000 in
theorem ggJ1_indexOf_4cfef_J1_canEncode_9a6ad : GoodIn wsJ1_indexOf_4cfef wsJ1_canEncode_9a6ad := goodIn_r _ [11] (by decide +kernel) (by decide +kernel)
set_option maxRecDepth 20000 in
theorem gJ1_indexOf_4cfef_J1_canEncode_9a6ad : GoodIn wsJ1_indexOf_4cfef (va_wsS RJ1 88 yJ1_canEncode_9a6ad wsJ1_canEncode_9a6ad) := goodIn_app (goodIn_of _ (by decide +kernel)) ggJ1_indexOf_4cfef_J1_canEncode_9a6ad
set_option maxRecDepth 20000 in
theorem ggJ1_indexOf_4cfef_J1_indexOfChar_4cfef : GoodIn wsJ1_indexOf_4cfef wsJ1_indexOfChar_4cfef := goodIn_r _ [14] (by decide +kernel) (by decide +kernel)
set_option maxRecDepth 20000 in
theorem gJ1_indexOf_4cfef_J1_indexOfChar_4cfef : GoodIn wsJ1_indexOf_4cfef (va_wsS RJ1 95 yJ1_indexOfChar_4cfef wsJ1_indexOfChar_4cfef) := goodIn_app (goodIn_of _ (by decide +kernel)) ggJ1_indexOf_4cfef_J1_indexOfChar_4cfef
theorem dJ1_indexOf_4cfef_0 : decode cJ1_indexOf_4cfef 0 = .ok (.iload_n 1, 1) := by decide +kernel
theorem dJ1_indexOf_4cfef_1 : decode cJ1_indexOf_4cfef 1 = .ok (.invokestatic 88, 3) := by decide +kernel
theorem dJ1_indexOf_4cfef_4 : decode cJ1_indexOf_4cfef 4 = .ok (.ifCond .ne 5, 3) := by decide +kernel
theorem dJ1_indexOf_4cfef_7 : decode cJ1_indexOf_4cfef 7 = .ok (.iconst (-1), 1) := by decide +kernel
theorem dJ1_indexOf_4cfef_8 : decode cJ1_indexOf_4cfef 8 = .ok (.ireturn, 1) := by decide +kernel
theorem dJ1_indexOf_4cfef_9 : decode cJ1_indexOf_4cfef 9 = .ok (.iload_n 2, 1) := by decide +kernel
theorem dJ1_indexOf_4cfef_10 : decode cJ1_indexOf_4cfef 10 = .ok (.iconst 0, 1) := by decide +kernel
theorem dJ1_indexOf_4cfef_11 : decode cJ1_indexOf_4cfef 11 = .ok (.invokestatic 92, 3) := by decide +kernel
theorem dJ1_indexOf_4cfef_14 : decode cJ1_indexOf_4cfef 14 = .ok (.istore_n 2, 1) := by decide +kernel
theorem dJ1_indexOf_4cfef_15 : decode cJ1_indexOf_4cfef 15 = .ok (.iload_n 3, 1) := by decide +kernel
theorem dJ1_indexOf_4cfef_16 : decode cJ1_indexOf_4cfef 16 = .ok (.aload_n 0, 1) := by decide +kernel
theorem dJ1_indexOf_4cfef_17 : decode cJ1_indexOf_4cfef 17 = .ok (.arraylength, 1) := by decide +kernel
theorem dJ1_indexOf_4cfef_18 : decode cJ1_indexOf_4cfef 18 = .ok (.invokestatic 38, 3) := by decide +kernel
theorem dJ1_indexOf_4cfef_21 : decode cJ1_indexOf_4cfef 21 = .ok (.istore_n 3, 1) := by decide +kernel
theorem dJ1_indexOf_4cfef_22 : decode cJ1_indexOf_4cfef 22 = .ok (.iload_n 2, 1) := by decide +kernel
theorem dJ1_indexOf_4cfef_23 : decode cJ1_indexOf_4cfef 23 = .ok (.iload_n 3, 1) := by decide +kernel
theorem dJ1_indexOf_4cfef_24 : decode cJ1_indexOf_4cfef 24 = .ok (.if_icmp .lt 5, 3) := by decide +kernel
theorem dJ1_indexOf_4cfef_27 : decode cJ1_indexOf_4cfef 27 = .ok (.iconst (-1), 1) := by decide +kernel
theorem dJ1_indexOf_4cfef_28 : decode cJ1_indexOf_4cfef 28 = .ok (.ireturn, 1) := by decide +kernel
theorem dJ1_indexOf_4cfef_29 : decode cJ1_indexOf_4cfef 29 = .ok (.aload_n 0, 1) := by decide +kernel
theorem dJ1_indexOf_4cfef_30 : decode cJ1_indexOf_4cfef 30 = .ok (.iload_n 1, 1) := by decide +kernel
theorem dJ1_indexOf_4cfef_31 : decode cJ1_indexOf_4cfef 31 = .ok (.iload_n 2, 1) := by decide +kernel
theorem dJ1_indexOf_4cfef_32 : decode cJ1_indexOf_4cfef 32 = .ok (.iload_n 3, 1) := by decide +kernel
theorem dJ1_indexOf_4cfef_33 : decode cJ1_indexOf_4cfef 33 = .ok (.invokestatic 95, 3) := by decide +kernel
theorem dJ1_indexOf_4cfef_36 : decode cJ1_indexOf_4cfef 36 = .ok (.ireturn, 1) := by decide +kernel
theorem dJ1_indexOfChar_4cfef_0 : decode cJ1_indexOfChar_4cfef 0 = .ok (.iload_n 1, 1) := by decide +kernel
theorem dJ1_indexOfChar_4cfef_1 : decode cJ1_indexOfChar_4cfef 1 = .ok (.i2b, 1) := by decide +kernel
theorem dJ1_indexOfChar_4cfef_2 : decode cJ1_indexOfChar_4cfef 2 = .ok (.istore 4, 2) := by decide +kernel
theorem dJ1_indexOfChar_4cfef_4 : decode cJ1_indexOfChar_4cfef 4 = .ok (.iload_n 2, 1) := by decide +kernel
theorem dJ1_indexOfChar_4cfef_5 : decode cJ1_indexOfChar_4cfef 5 = .ok (.istore 5, 2) := by decide +kernel
theorem dJ1_indexOfChar_4cfef_7 : decode cJ1_indexOfChar_4cfef 7 = .ok (.iload 5, 2) := by decide +kernel
theorem dJ1_indexOfChar_4cfef_9 : decode cJ1_indexOfChar_4cfef 9 = .ok (.iload_n 3, 1) := by decide +kernel
theorem dJ1_indexOfChar_4cfef_10 : decode cJ1_indexOfChar_4cfef 10 = .ok (.if_icmp .ge 21, 3) := by decide +kernel
theorem dJ1_indexOfChar_4cfef_13 : decode cJ1_indexOfChar_4cfef 13 = .ok (.aload_n 0, 1) := by decide +kernel
theorem dJ1_indexOfChar_4cfef_14 : decode cJ1_indexOfChar_4cfef 14 = .ok (.iload 5, 2) := by decide +kernel
theorem dJ1_indexOfChar_4cfef_16 : decode cJ1_indexOfChar_4cfef 16 = .ok (.baload, 1) := by decide +kernel
theorem dJ1_indexOfChar_4cfef_17 : decode cJ1_indexOfChar_4cfef 17 = .ok (.iload 4, 2) := by decide +kernel
theorem dJ1_indexOfChar_4cfef_19 : decode cJ1_indexOfChar_4cfef 19 = .ok (.if_icmp .ne 6, 3) := by decide +kernel
theorem dJ1_indexOfChar_4cfef_22 : decode cJ1_indexOfChar_4cfef 22 = .ok (.iload 5, 2) := by decide +kernel
theorem dJ1_indexOfChar_4cfef_24 : decode cJ1_indexOfChar_4cfef 24 = .ok (.ireturn, 1) := by decide +kernel
theorem dJ1_indexOfChar_4cfef_25 : decode cJ1_indexOfChar_4cfef 25 = .ok (.iinc 5 1, 3) := by decide +kernel
theorem dJ1_indexOfChar_4cfef_28 : decode cJ1_indexOfChar_4cfef 28 = .ok (.goto (-21), 3) := by decide +kernel
theorem dJ1_indexOfChar_4cfef_31 : decode cJ1_indexOfChar_4cfef 31 = .ok (.iconst (-1), 1) := by decide +kernel
theorem dJ1_indexOfChar_4cfef_32 : decode cJ1_indexOfChar_4cfef 32 = .ok (.ireturn, 1) := by decide +kernel
set_option maxRecDepth 20000 in
theorem ggJ2_getChar_3b067_J2_length_9d52b : GoodIn wsJ2_getChar_3b067 wsJ2_length_9d52b := goodIn_r _ [7] (by decide +kernel) (by decide +kernel)
set_option maxRecDepth 20000 in
theorem gJ2_getChar_3b067_J2_length_9d52b : GoodIn wsJ2_getChar_3b067 (va_wsS RJ2 48 yJ2_length_9d52b wsJ2_length_9d52b) := goodIn_app (goodIn_of _ (by decide +kernel)) ggJ2_getChar_3b067_J2_length_9d52b
theorem dJ2_getChar_3b067_0 : decode cJ2_getChar_3b067 0 = .ok (.getstatic 44, 3) := by decide +kernel
theorem dJ2_getChar_3b067_3 : decode cJ2_getChar_3b067 3 = .ok (.ifCond .ne 25, 3) := by decide +kernel
theorem dJ2_getChar_3b067_6 : decode cJ2_getChar_3b067 6 = .ok (.iload_n 1, 1) := by decide +kernel
theorem dJ2_getChar_3b067_7 : decode cJ2_getChar_3b067 7 = .ok (.ifCond .lt 11, 3) := by decide +kernel
theorem dJ2_getChar_3b067_10 : decode cJ2_getChar_3b067 10 = .ok (.iload_n 1, 1) := by decide +kernel
theorem dJ2_getChar_3b067_11 : decode cJ2_getChar_3b067 11 = .ok (.aload_n 0, 1) := by decide +kernel
theorem dJ2_getChar_3b067_12 : decode cJ2_getChar_3b067 12 = .ok (.invokestatic 48, 3) := by decide +kernel
theorem dJ2_getChar_3b067_15 : decode cJ2_getChar_3b067 15 = .ok (.if_icmp .lt 13, 3) := by decide +kernel
theorem dJ2_getChar_3b067_18 : decode cJ2_getChar_3b067 18 = .ok (.new 52, 3) := by decide +kernel
theorem dJ2_getChar_3b067_21 : decode cJ2_getChar_3b067 21 = .ok (.dup, 1) := by decide +kernel
theorem dJ2_getChar_3b067_22 : decode cJ2_getChar_3b067 22 = .ok (.ldc 54, 2) := by decide +kernel
theorem dJ2_getChar_3b067_24 : decode cJ2_getChar_3b067 24 = .ok (.invokespecial 56, 3) := by decide +kernel
theorem dJ2_getChar_3b067_27 : decode cJ2_getChar_3b067 27 = .ok (.athrow, 1) := by decide +kernel
theorem dJ2_getChar_3b067_28 : decode cJ2_getChar_3b067 28 = .ok (.iload_n 1, 1) := by decide +kernel
theorem dJ2_getChar_3b067_29 : decode cJ2_getChar_3b067 29 = .ok (.iconst 1, 1) := by decide +kernel
theorem dJ2_getChar_3b067_30 : decode cJ2_getChar_3b067 30 = .ok (.ishl, 1) := by decide +kernel
theorem dJ2_getChar_3b067_31 : decode cJ2_getChar_3b067 31 = .ok (.istore_n 1, 1) := by decide +kernel
theorem dJ2_getChar_3b067_32 : decode cJ2_getChar_3b067 32 = .ok (.aload_n 0, 1) := by decide +kernel
theorem dJ2_getChar_3b067_33 : decode cJ2_getChar_3b067 33 = .ok (.iload_n 1, 1) := by decide +kernel
theorem dJ2_getChar_3b067_34 : decode cJ2_getChar_3b067 34 = .ok (.iinc 1 1, 3) := by decide +kernel
theorem dJ2_getChar_3b067_37 : decode cJ2_getChar_3b067 37 = .ok (.baload, 1) := by decide +kernel
theorem dJ2_getChar_3b067_38 : decode cJ2_getChar_3b067 38 = .ok (.sipush 255, 3) := by decide +kernel
theorem dJ2_getChar_3b067_41 : decode cJ2_getChar_3b067 41 = .ok (.iand, 1) := by decide +kernel
theorem dJ2_getChar_3b067_42 : decode cJ2_getChar_3b067 42 = .ok (.getstatic 59, 3) := by decide +kernel
theorem dJ2_getChar_3b067_45 : decode cJ2_getChar_3b067 45 = .ok (.ishl, 1) := by decide +kernel
theorem dJ2_getChar_3b067_46 : decode cJ2_getChar_3b067 46 = .ok (.aload_n 0, 1) := by decide +kernel
theorem dJ2_getChar_3b067_47 : decode cJ2_getChar_3b067 47 = .ok (.iload_n 1, 1) := by decide +kernel
theorem dJ2_getChar_3b067_48 : decode cJ2_getChar_3b067 48 = .ok (.baload, 1) := by decide +kernel
theorem dJ2_getChar_3b067_49 : decode cJ2_getChar_3b067 49 = .ok (.sipush 255, 3) := by decide +kernel
theorem dJ2_getChar_3b067_52 : decode cJ2_getChar_3b067 52 = .ok (.iand, 1) := by decide +kernel
theorem dJ2_getChar_3b067_53 : decode cJ2_getChar_3b067 53 = .ok (.getstatic 63, 3) := by decide +kernel
theorem dJ2_getChar_3b067_56 : decode cJ2_getChar_3b067 56 = .ok (.ishl, 1) := by decide +kernel
theorem dJ2_getChar_3b067_57 : decode cJ2_getChar_3b067 57 = .ok (.ior, 1) := by decide +kernel
theorem dJ2_getChar_3b067_58 : decode cJ2_getChar_3b067 58 = .ok (.i2c, 1) := by decide +kernel
theorem dJ2_getChar_3b067_59 : decode cJ2_getChar_3b067 59 = .ok (.ireturn, 1) := by decide +kernel
theorem dJ2_length_9d52b_0 : decode cJ2_length_9d52b 0 = .ok (.aload_n 0, 1) := by decide +kernel
theorem dJ2_length_9d52b_1 : decode cJ2_length_9d52b 1 = .ok (.arraylength, 1) := by decide +kernel
theorem dJ2_length_9d52b_2 : decode cJ2_length_9d52b 2 = .ok (.iconst 1, 1) := by decide +kernel
theorem dJ2_length_9d52b_3 : decode cJ2_length_9d52b 3 = .ok (.ishr, 1) := by decide +kernel
theorem dJ2_length_9d52b_4 : decode cJ2_length_9d52b 4 = .ok (.ireturn, 1) := by decide +kernel
set_option maxRecDepth 20000 in
theorem ggJ2_indexOf_4cfef_J2_indexOfChar_4cfef : GoodIn wsJ2_indexOf_4cfef wsJ2_indexOfChar_4cfef := goodIn_r _ [12, 13, 14, 11, 15, 16, 17, 18, 19, 20, 21, 22, 23, 24, 25, 26, 27, 28, 29, 30, 31, 32, 33, 34, 35, 36] (by decide +kernel) (by decide +kernel)
set_option maxRecDepth 20000 in
theorem gJ2_indexOf_4cfef_J2_indexOfChar_4cfef : GoodIn wsJ2_indexOf_4cfef (va_wsS RJ2 228 yJ2_indexOfChar_4cfef wsJ2_indexOfChar_4cfef) := goodIn_app (goodIn_of _ (by decide +kernel)) ggJ2_indexOf_4cfef_J2_indexOfChar_4cfef
set_option maxRecDepth 20000 in
theorem ggJ2_indexOf_4cfef_J2_indexOfSupplementary_4cfef : GoodIn wsJ2_indexOf_4cfef wsJ2_indexOfSupplementary_4cfef := goodIn_r _ [39, 40, 41, 42, 43, 44, 45, 46, 47, 48, 49, 50, 51, 13, 14, 11, 15, 16, 17, 18, 19, 20, 21, 22, 23, 24, 25, 26, 27, 31, 32, 33, 34, 35, 36] (by decide +kernel) (by decide +kernel)
set_option maxRecDepth 20000 in
theorem gJ2_indexOf_4cfef_J2_indexOfSupplementary_4cfef : GoodIn wsJ2_indexOf_4cfef (va_wsS RJ2 232 yJ2_indexOfSupplementary_4cfef wsJ2_indexOfSupplementary_4cfef) := goodIn_app (goodIn_of _ (by decide +kernel)) ggJ2_indexOf_4cfef_J2_indexOfSupplementary_4cfef
theorem dJ2_indexOf_4cfef_0 : decode cJ2_indexOf_4cfef 0 = .ok (.iload_n 2, 1) := by decide +kernel
theorem dJ2_indexOf_4cfef_1 : decode cJ2_indexOf_4cfef 1 = .ok (.iconst 0, 1) := by decide +kernel
theorem dJ2_indexOf_4cfef_2 : decode cJ2_indexOf_4cfef 2 = .ok (.invokestatic 224, 3) := by decide +kernel
theorem dJ2_indexOf_4cfef_5 : decode cJ2_indexOf_4cfef 5 = .ok (.istore_n 2, 1) := by decide +kernel
theorem dJ2_indexOf_4cfef_6 : decode cJ2_indexOf_4cfef 6 = .ok (.iload_n 3, 1) := by decide +kernel
theorem dJ2_indexOf_4cfef_7 : decode cJ2_indexOf_4cfef 7 = .ok (.aload_n 0, 1) := by decide +kernel
theorem dJ2_indexOf_4cfef_8 : decode cJ2_indexOf_4cfef 8 = .ok (.arraylength, 1) := by decide +kernel
theorem dJ2_indexOf_4cfef_9 : decode cJ2_indexOf_4cfef 9 = .ok (.iconst 1, 1) := by decide +kernel
theorem dJ2_indexOf_4cfef_10 : decode cJ2_indexOf_4cfef 10 = .ok (.ishr, 1) := by decide +kernel
theorem dJ2_indexOf_4cfef_11 : decode cJ2_indexOf_4cfef 11 = .ok (.invokestatic 183, 3) := by decide +kernel
theorem dJ2_indexOf_4cfef_14 : decode cJ2_indexOf_4cfef 14 = .ok (.istore_n 3, 1) := by decide +kernel
theorem dJ2_indexOf_4cfef_15 : decode cJ2_indexOf_4cfef 15 = .ok (.iload_n 2, 1) := by decide +kernel
theorem dJ2_indexOf_4cfef_16 : decode cJ2_indexOf_4cfef 16 = .ok (.iload_n 3, 1) := by decide +kernel
theorem dJ2_indexOf_4cfef_17 : decode cJ2_indexOf_4cfef 17 = .ok (.if_icmp .lt 5, 3) := by decide +kernel
theorem dJ2_indexOf_4cfef_20 : decode cJ2_indexOf_4cfef 20 = .ok (.iconst (-1), 1) := by decide +kernel
theorem dJ2_indexOf_4cfef_21 : decode cJ2_indexOf_4cfef 21 = .ok (.ireturn, 1) := by decide +kernel
theorem dJ2_indexOf_4cfef_22 : decode cJ2_indexOf_4cfef 22 = .ok (.iload_n 1, 1) := by decide +kernel
theorem dJ2_indexOf_4cfef_23 : decode cJ2_indexOf_4cfef 23 = .ok (.ldc 227, 2) := by decide +kernel
theorem dJ2_indexOf_4cfef_25 : decode cJ2_indexOf_4cfef 25 = .ok (.if_icmp .ge 11, 3) := by decide +kernel
theorem dJ2_indexOf_4cfef_28 : decode cJ2_indexOf_4cfef 28 = .ok (.aload_n 0, 1) := by decide +kernel
theorem dJ2_indexOf_4cfef_29 : decode cJ2_indexOf_4cfef 29 = .ok (.iload_n 1, 1) := by decide +kernel
theorem dJ2_indexOf_4cfef_30 : decode cJ2_indexOf_4cfef 30 = .ok (.iload_n 2, 1) := by decide +kernel
theorem dJ2_indexOf_4cfef_31 : decode cJ2_indexOf_4cfef 31 = .ok (.iload_n 3, 1) := by decide +kernel
theorem dJ2_indexOf_4cfef_32 : decode cJ2_indexOf_4cfef 32 = .ok (.invokestatic 228, 3) := by decide +kernel
theorem dJ2_indexOf_4cfef_35 : decode cJ2_indexOf_4cfef 35 = .ok (.ireturn, 1) := by decide +kernel
theorem dJ2_indexOf_4cfef_36 : decode cJ2_indexOf_4cfef 36 = .ok (.aload_n 0, 1) := by decide +kernel
theorem dJ2_indexOf_4cfef_37 : decode cJ2_indexOf_4cfef 37 = .ok (.iload_n 1, 1) := by decide +kernel
theorem dJ2_indexOf_4cfef_38 : decode cJ2_indexOf_4cfef 38 = .ok (.iload_n 2, 1) := by decide +kernel
theorem dJ2_indexOf_4cfef_39 : decode cJ2_indexOf_4cfef 39 = .ok (.iload_n 3, 1) := by decide +kernel
theorem dJ2_indexOf_4cfef_40 : decode cJ2_indexOf_4cfef 40 = .ok (.invokestatic 232, 3) := by decide +kernel
theorem dJ2_indexOf_4cfef_43 : decode cJ2_indexOf_4cfef 43 = .ok (.ireturn, 1) := by decide +kernel
set_option maxRecDepth 20000 in
theorem ggJ2_indexOfChar_4cfef_J2_checkBoundsBeginEnd_d044e : GoodIn wsJ2_indexOfChar_4cfef wsJ2_checkBoundsBeginEnd_d044e := goodIn_r _ [4, 5, 6, 3, 7, 8, 9, 10, 11, 12, 13, 14, 15, 16] (by decide +kernel) (by decide +kernel)
set_option maxRecDepth 20000 in
theorem gJ2_indexOfChar_4cfef_J2_checkBoundsBeginEnd_d044e : GoodIn wsJ2_indexOfChar_4cfef (va_wsS RJ2 96 yJ2_checkBoundsBeginEnd_d044e wsJ2_checkBoundsBeginEnd_d044e) := goodIn_app (goodIn_of _ (by decide +kernel)) ggJ2_indexOfChar_4cfef_J2_checkBoundsBeginEnd_d044e
set_option maxRecDepth 20000 in
theorem ggJ2_indexOfChar_4cfef_J2_indexOfCharUnsafe_4cfef : GoodIn wsJ2_indexOfChar_4cfef wsJ2_indexOfCharUnsafe_4cfef := goodIn_r _ [19, 20, 21, 3, 22, 23, 24, 25, 5, 6, 7] (by decide +kernel) (by decide +kernel)
set_option maxRecDepth 20000 in
theorem gJ2_indexOfChar_4cfef_J2_indexOfCharUnsafe_4cfef : GoodIn wsJ2_indexOfChar_4cfef (va_wsS RJ2 244 yJ2_indexOfCharUnsafe_4cfef wsJ2_indexOfCharUnsafe_4cfef) := goodIn_app (goodIn_of _ (by decide +kernel)) ggJ2_indexOfChar_4cfef_J2_indexOfCharUnsafe_4cfef
theorem dJ2_indexOfChar_4cfef_0 : decode cJ2_indexOfChar_4cfef 0 = .ok (.iload_n 2, 1) := by decide +kernel
theorem dJ2_indexOfChar_4cfef_1 : decode cJ2_indexOfChar_4cfef 1 = .ok (.iload_n 3, 1) := by decide +kernel
theorem dJ2_indexOfChar_4cfef_2 : decode cJ2_indexOfChar_4cfef 2 = .ok (.aload_n 0, 1) := by decide +kernel
theorem dJ2_indexOfChar_4cfef_3 : decode cJ2_indexOfChar_4cfef 3 = .ok (.invokestatic 96, 3) := by decide +kernel
theorem dJ2_indexOfChar_4cfef_6 : decode cJ2_indexOfChar_4cfef 6 = .ok (.aload_n 0, 1) := by decide +kernel
theorem dJ2_indexOfChar_4cfef_7 : decode cJ2_indexOfChar_4cfef 7 = .ok (.iload_n 1, 1) := by decide +kernel
theorem dJ2_indexOfChar_4cfef_8 : decode cJ2_indexOfChar_4cfef 8 = .ok (.iload_n 2, 1) := by decide +kernel
theorem dJ2_indexOfChar_4cfef_9 : decode cJ2_indexOfChar_4cfef 9 = .ok (.iload_n 3, 1) := by decide +kernel
theorem dJ2_indexOfChar_4cfef_10 : decode cJ2_indexOfChar_4cfef 10 = .ok (.invokestatic 244, 3) := by decide +kernel
theorem dJ2_indexOfChar_4cfef_13 : decode cJ2_indexOfChar_4cfef 13 = .ok (.ireturn, 1) := by decide +kernel
set_option maxRecDepth 20000 in
theorem ggJ2_indexOfCharUnsafe_4cfef_J2_getChar_3b067 : GoodIn wsJ2_indexOfCharUnsafe_4cfef wsJ2_getChar_3b067 := goodIn_r _ [4, 5, 6, 7, 8, 9, 3, 10] (by decide +kernel) (by decide +kernel)
set_option maxRecDepth 20000 in
theorem gJ2_indexOfCharUnsafe_4cfef_J2_getChar_3b067 : GoodIn wsJ2_indexOfCharUnsafe_4cfef (va_wsS RJ2 71 yJ2_getChar_3b067 wsJ2_getChar_3b067) := goodIn_app (goodIn_of _ (by decide +kernel)) ggJ2_indexOfCharUnsafe_4cfef_J2_getChar_3b067
theorem dJ2_indexOfCharUnsafe_4cfef_0 : decode cJ2_indexOfCharUnsafe_4cfef 0 = .ok (.iload_n 2, 1) := by decide +kernel
theorem dJ2_indexOfCharUnsafe_4cfef_1 : decode cJ2_indexOfCharUnsafe_4cfef 1 = .ok (.istore 4, 2) := by decide +kernel
theorem dJ2_indexOfCharUnsafe_4cfef_3 : decode cJ2_indexOfCharUnsafe_4cfef 3 = .ok (.iload 4, 2) := by decide +kernel
theorem dJ2_indexOfCharUnsafe_4cfef_5 : decode cJ2_indexOfCharUnsafe_4cfef 5 = .ok (.iload_n 3, 1) := by decide +kernel
theorem dJ2_indexOfCharUnsafe_4cfef_6 : decode cJ2_indexOfCharUnsafe_4cfef 6 = .ok (.if_icmp .ge 22, 3) := by decide +kernel
theorem dJ2_indexOfCharUnsafe_4cfef_9 : decode cJ2_indexOfCharUnsafe_4cfef 9 = .ok (.aload_n 0, 1) := by decide +kernel
theorem dJ2_indexOfCharUnsafe_4cfef_10 : decode cJ2_indexOfCharUnsafe_4cfef 10 = .ok (.iload 4, 2) := by decide +kernel
theorem dJ2_indexOfCharUnsafe_4cfef_12 : decode cJ2_indexOfCharUnsafe_4cfef 12 = .ok (.invokestatic 71, 3) := by decide +kernel
theorem dJ2_indexOfCharUnsafe_4cfef_15 : decode cJ2_indexOfCharUnsafe_4cfef 15 = .ok (.iload_n 1, 1) := by decide +kernel
theorem dJ2_indexOfCharUnsafe_4cfef_16 : decode cJ2_indexOfCharUnsafe_4cfef 16 = .ok (.if_icmp .ne 6, 3) := by decide +kernel
theorem dJ2_indexOfCharUnsafe_4cfef_19 : decode cJ2_indexOfCharUnsafe_4cfef 19 = .ok (.iload 4, 2) := by decide +kernel
theorem dJ2_indexOfCharUnsafe_4cfef_21 : decode cJ2_indexOfCharUnsafe_4cfef 21 = .ok (.ireturn, 1) := by decide +kernel
theorem dJ2_indexOfCharUnsafe_4cfef_22 : decode cJ2_indexOfCharUnsafe_4cfef 22 = .ok (.iinc 4 1, 3) := by decide +kernel
theorem dJ2_indexOfCharUnsafe_4cfef_25 : decode cJ2_indexOfCharUnsafe_4cfef 25 = .ok (.goto (-22), 3) := by decide +kernel
theorem dJ2_indexOfCharUnsafe_4cfef_28 : decode cJ2_indexOfCharUnsafe_4cfef 28 = .ok (.iconst (-1), 1) := by decide +kernel
theorem dJ2_indexOfCharUnsafe_4cfef_29 : decode cJ2_indexOfCharUnsafe_4cfef 29 = .ok (.ireturn, 1) := by decide +kernel
set_option maxRecDepth 20000 in
theorem ggJ2_indexOfSupplementary_4cfef_J11_isValidCodePoint_9a6ad : GoodIn wsJ2_indexOfSupplementary_4cfef wsJ11_isValidCodePoint_9a6ad := goodIn_r _ [4] (by decide +kernel) (by decide +kernel)
set_option maxRecDepth 20000 in
theorem gJ2_indexOfSupplementary_4cfef_J11_isValidCodePoint_9a6ad : GoodIn wsJ2_indexOfSupplementary_4cfef (va_wsS RJ2 164 yJ11_isValidCodePoint_9a6ad wsJ11_isValidCodePoint_9a6ad) := goodIn_app (goodIn_of _ (by decide +kernel)) ggJ2_indexOfSupplementary_4cfef_J11_isValidCodePoint_9a6ad
set_option maxRecDepth 20000 in
theorem ggJ2_indexOfSupplementary_4cfef_J11_highSurrogate_5068e : GoodIn wsJ2_indexOfSupplementary_4cfef wsJ11_highSurrogate_5068e := goodIn_r _ [7, 8] (by decide +kernel) (by decide +kernel)
set_option maxRecDepth 20000 in
theorem gJ2_indexOfSupplementary_4cfef_J11_highSurrogate_5068e : GoodIn wsJ2_indexOfSupplementary_4cfef (va_wsS RJ2 157 yJ11_highSurrogate_5068e wsJ11_highSurrogate_5068e) := goodIn_app (goodIn_of _ (by decide +kernel)) ggJ2_indexOfSupplementary_4cfef_J11_highSurrogate_5068e
set_option maxRecDepth 20000 in
theorem ggJ2_indexOfSupplementary_4cfef_J11_lowSurrogate_5068e : GoodIn wsJ2_indexOfSupplementary_4cfef wsJ11_lowSurrogate_5068e := goodIn_r _ [11, 12] (by decide +kernel) (by decide +kernel)
set_option maxRecDepth 20000 in
theorem gJ2_indexOfSupplementary_4cfef_J11_lowSurrogate_5068e : GoodIn wsJ2_indexOfSupplementary_4cfef (va_wsS RJ2 161 yJ11_lowSurrogate_5068e wsJ11_lowSurrogate_5068e) := goodIn_app (goodIn_of _ (by decide +kernel)) ggJ2_indexOfSupplementary_4cfef_J11_lowSurrogate_5068e
set_option maxRecDepth 20000 in
theorem ggJ2_indexOfSupplementary_4cfef_J2_checkBoundsBeginEnd_d044e : GoodIn wsJ2_indexOfSupplementary_4cfef wsJ2_checkBoundsBeginEnd_d044e := goodIn_r _ [16, 17, 18, 15, 19, 20, 21, 22, 23, 24, 25, 26, 27, 28] (by decide +kernel) (by decide +kernel)
set_option maxRecDepth 20000 in
theorem gJ2_indexOfSupplementary_4cfef_J2_checkBoundsBeginEnd_d044e : GoodIn wsJ2_indexOfSupplementary_4cfef (va_wsS RJ2 96 yJ2_checkBoundsBeginEnd_d044e wsJ2_checkBoundsBeginEnd_d044e) := goodIn_app (goodIn_of _ (by decide +kernel)) ggJ2_indexOfSupplementary_4cfef_J2_checkBoundsBeginEnd_d044e
set_option maxRecDepth 20000 in
theorem ggJ2_indexOfSupplementary_4cfef_J2_getChar_3b067 : GoodIn wsJ2_indexOfSupplementary_4cfef wsJ2_getChar_3b067 := goodIn_r _ [31, 32, 33, 34, 17, 18, 15, 19] (by decide +kernel) (by decide +kernel)
set_option maxRecDepth 20000 in
theorem gJ2_indexOfSupplementary_4cfef_J2_getChar_3b067 : GoodIn wsJ2_indexOfSupplementary_4cfef (va_wsS RJ2 71 yJ2_getChar_3b067 wsJ2_getChar_3b067) := goodIn_app (goodIn_of _ (by decide +kernel)) ggJ2_indexOfSupplementary_4cfef_J2_getChar_3b067
theorem dJ2_indexOfSupplementary_4cfef_0 : decode cJ2_indexOfSupplementary_4cfef 0 = .ok (.iload_n 1, 1) := by decide +kernel
theorem dJ2_indexOfSupplementary_4cfef_1 : decode cJ2_indexOfSupplementary_4cfef 1 = .ok (.invokestatic 164, 3) := by decide +kernel
theorem dJ2_indexOfSupplementary_4cfef_4 : decode cJ2_indexOfSupplementary_4cfef 4 = .ok (.ifCond .eq 65, 3) := by decide +kernel
theorem dJ2_indexOfSupplementary_4cfef_7 : decode cJ2_indexOfSupplementary_4cfef 7 = .ok (.iload_n 1, 1) := by decide +kernel
theorem dJ2_indexOfSupplementary_4cfef_8 : decode cJ2_indexOfSupplementary_4cfef 8 = .ok (.invokestatic 157, 3) := by decide +kernel
theorem dJ2_indexOfSupplementary_4cfef_11 : decode cJ2_indexOfSupplementary_4cfef 11 = .ok (.istore 4, 2) := by decide +kernel
theorem dJ2_indexOfSupplementary_4cfef_13 : decode cJ2_indexOfSupplementary_4cfef 13 = .ok (.iload_n 1, 1) := by decide +kernel
theorem dJ2_indexOfSupplementary_4cfef_14 : decode cJ2_indexOfSupplementary_4cfef 14 = .ok (.invokestatic 161, 3) := by decide +kernel
theorem dJ2_indexOfSupplementary_4cfef_17 : decode cJ2_indexOfSupplementary_4cfef 17 = .ok (.istore 5, 2) := by decide +kernel
theorem dJ2_indexOfSupplementary_4cfef_19 : decode cJ2_indexOfSupplementary_4cfef 19 = .ok (.iload_n 2, 1) := by decide +kernel
theorem dJ2_indexOfSupplementary_4cfef_20 : decode cJ2_indexOfSupplementary_4cfef 20 = .ok (.iload_n 3, 1) := by decide +kernel
theorem dJ2_indexOfSupplementary_4cfef_21 : decode cJ2_indexOfSupplementary_4cfef 21 = .ok (.aload_n 0, 1) := by decide +kernel
theorem dJ2_indexOfSupplementary_4cfef_22 : decode cJ2_indexOfSupplementary_4cfef 22 = .ok (.invokestatic 96, 3) := by decide +kernel
theorem dJ2_indexOfSupplementary_4cfef_25 : decode cJ2_indexOfSupplementary_4cfef 25 = .ok (.iload_n 2, 1) := by decide +kernel
theorem dJ2_indexOfSupplementary_4cfef_26 : decode cJ2_indexOfSupplementary_4cfef 26 = .ok (.istore 6, 2) := by decide +kernel
theorem dJ2_indexOfSupplementary_4cfef_28 : decode cJ2_indexOfSupplementary_4cfef 28 = .ok (.iload 6, 2) := by decide +kernel
theorem dJ2_indexOfSupplementary_4cfef_30 : decode cJ2_indexOfSupplementary_4cfef 30 = .ok (.iload_n 3, 1) := by decide +kernel
theorem dJ2_indexOfSupplementary_4cfef_31 : decode cJ2_indexOfSupplementary_4cfef 31 = .ok (.iconst 1, 1) := by decide +kernel
theorem dJ2_indexOfSupplementary_4cfef_32 : decode cJ2_indexOfSupplementary_4cfef 32 = .ok (.isub, 1) := by decide +kernel
theorem dJ2_indexOfSupplementary_4cfef_33 : decode cJ2_indexOfSupplementary_4cfef 33 = .ok (.if_icmp .ge 36, 3) := by decide +kernel
theorem dJ2_indexOfSupplementary_4cfef_36 : decode cJ2_indexOfSupplementary_4cfef 36 = .ok (.aload_n 0, 1) := by decide +kernel
theorem dJ2_indexOfSupplementary_4cfef_37 : decode cJ2_indexOfSupplementary_4cfef 37 = .ok (.iload 6, 2) := by decide +kernel
theorem dJ2_indexOfSupplementary_4cfef_39 : decode cJ2_indexOfSupplementary_4cfef 39 = .ok (.invokestatic 71, 3) := by decide +kernel
theorem dJ2_indexOfSupplementary_4cfef_42 : decode cJ2_indexOfSupplementary_4cfef 42 = .ok (.iload 4, 2) := by decide +kernel
theorem dJ2_indexOfSupplementary_4cfef_44 : decode cJ2_indexOfSupplementary_4cfef 44 = .ok (.if_icmp .ne 19, 3) := by decide +kernel
theorem dJ2_indexOfSupplementary_4cfef_47 : decode cJ2_indexOfSupplementary_4cfef 47 = .ok (.aload_n 0, 1) := by decide +kernel
theorem dJ2_indexOfSupplementary_4cfef_48 : decode cJ2_indexOfSupplementary_4cfef 48 = .ok (.iload 6, 2) := by decide +kernel
theorem dJ2_indexOfSupplementary_4cfef_50 : decode cJ2_indexOfSupplementary_4cfef 50 = .ok (.iconst 1, 1) := by decide +kernel
theorem dJ2_indexOfSupplementary_4cfef_51 : decode cJ2_indexOfSupplementary_4cfef 51 = .ok (.iadd, 1) := by decide +kernel
theorem dJ2_indexOfSupplementary_4cfef_52 : decode cJ2_indexOfSupplementary_4cfef 52 = .ok (.invokestatic 71, 3) := by decide +kernel
theorem dJ2_indexOfSupplementary_4cfef_55 : decode cJ2_indexOfSupplementary_4cfef 55 = .ok (.iload 5, 2) := by decide +kernel
theorem dJ2_indexOfSupplementary_4cfef_57 : decode cJ2_indexOfSupplementary_4cfef 57 = .ok (.if_icmp .ne 6, 3) := by decide +kernel
theorem dJ2_indexOfSupplementary_4cfef_60 : decode cJ2_indexOfSupplementary_4cfef 60 = .ok (.iload 6, 2) := by decide +kernel
theorem dJ2_indexOfSupplementary_4cfef_62 : decode cJ2_indexOfSupplementary_4cfef 62 = .ok (.ireturn, 1) := by decide +kernel
theorem dJ2_indexOfSupplementary_4cfef_63 : decode cJ2_indexOfSupplementary_4cfef 63 = .ok (.iinc 6 1, 3) := by decide +kernel
theorem dJ2_indexOfSupplementary_4cfef_66 : decode cJ2_indexOfSupplementary_4cfef 66 = .ok (.goto (-38), 3) := by decide +kernel
theorem dJ2_indexOfSupplementary_4cfef_69 : decode cJ2_indexOfSupplementary_4cfef 69 = .ok (.iconst (-1), 1) := by decide +kernel
theorem dJ2_indexOfSupplementary_4cfef_70 : decode cJ2_indexOfSupplementary_4cfef 70 = .ok (.ireturn, 1) := by decide +kernel
set_option maxRecDepth 20000 in
theorem ggJ2_checkBoundsBeginEnd_d044e_J2_length_9d52b : GoodIn wsJ2_checkBoundsBeginEnd_d044e wsJ2_length_9d52b := goodIn_r _ [4] (by decide +kernel) (by decide +kernel)
set_option maxRecDepth 20000 in
theorem gJ2_checkBoundsBeginEnd_d044e_J2_length_9d52b : GoodIn wsJ2_checkBoundsBeginEnd_d044e (va_wsS RJ2 48 yJ2_length_9d52b wsJ2_length_9d52b) := goodIn_app (goodIn_of _ (by decide +kernel)) ggJ2_checkBoundsBeginEnd_d044e_J2_length_9d52b
set_option maxRecDepth 20000 in
theorem ggJ2_checkBoundsBeginEnd_d044e_J0_checkBoundsBeginEnd_23922 : GoodIn wsJ2_checkBoundsBeginEnd_d044e wsJ0_checkBoundsBeginEnd_23922 := goodIn_r _ [8, 9, 10, 11, 12, 13] (by decide +kernel) (by decide +kernel)
set_option maxRecDepth 20000 in
theorem gJ2_checkBoundsBeginEnd_d044e_J0_checkBoundsBeginEnd_23922 : GoodIn wsJ2_checkBoundsBeginEnd_d044e (va_wsS RJ2 241 yJ0_checkBoundsBeginEnd_23922 wsJ0_checkBoundsBeginEnd_23922) := goodIn_app (goodIn_of _ (by decide +kernel)) ggJ2_checkBoundsBeginEnd_d044e_J0_checkBoundsBeginEnd_23922
theorem dJ2_checkBoundsBeginEnd_d044e_0 : decode cJ2_checkBoundsBeginEnd_d044e 0 = .ok (.iload_n 0, 1) := by decide +kernel
theorem dJ2_checkBoundsBeginEnd_d044e_1 : decode cJ2_checkBoundsBeginEnd_d044e 1 = .ok (.iload_n 1, 1) := by decide +kernel
theorem dJ2_checkBoundsBeginEnd_d044e_2 : decode cJ2_checkBoundsBeginEnd_d044e 2 = .ok (.aload_n 2, 1) := by decide +kernel
theorem dJ2_checkBoundsBeginEnd_d044e_3 : decode cJ2_checkBoundsBeginEnd_d044e 3 = .ok (.invokestatic 48, 3) := by decide +kernel
theorem dJ2_checkBoundsBeginEnd_d044e_6 : decode cJ2_checkBoundsBeginEnd_d044e 6 = .ok (.invokestatic 241, 3) := by decide +kernel
theorem dJ2_checkBoundsBeginEnd_d044e_9 : decode cJ2_checkBoundsBeginEnd_d044e 9 = .ok (.return_, 1) := by decide +kernel
theorem dJ7_fill_53178_0 : decode cJ7_fill_53178 0 = .ok (.iconst 0, 1) := by decide +kernel
theorem dJ7_fill_53178_1 : decode cJ7_fill_53178 1 = .ok (.istore_n 2, 1) := by decide +kernel
theorem dJ7_fill_53178_2 : decode cJ7_fill_53178 2 = .ok (.aload_n 0, 1) := by decide +kernel
theorem dJ7_fill_53178_3 : decode cJ7_fill_53178 3 = .ok (.arraylength, 1) := by decide +kernel
theorem dJ7_fill_53178_4 : decode cJ7_fill_53178 4 = .ok (.istore_n 3, 1) := by decide +kernel
theorem dJ7_fill_53178_5 : decode cJ7_fill_53178 5 = .ok (.iload_n 2, 1) := by decide +kernel
theorem dJ7_fill_53178_6 : decode cJ7_fill_53178 6 = .ok (.iload_n 3, 1) := by decide +kernel
theorem dJ7_fill_53178_7 : decode cJ7_fill_53178 7 = .ok (.if_icmp .ge 13, 3) := by decide +kernel
theorem dJ7_fill_53178_10 : decode cJ7_fill_53178 10 = .ok (.aload_n 0, 1) := by decide +kernel
theorem dJ7_fill_53178_11 : decode cJ7_fill_53178 11 = .ok (.iload_n 2, 1) := by decide +kernel
theorem dJ7_fill_53178_12 : decode cJ7_fill_53178 12 = .ok (.iload_n 1, 1) := by decide +kernel
theorem dJ7_fill_53178_13 : decode cJ7_fill_53178 13 = .ok (.iastore, 1) := by decide +kernel
theorem dJ7_fill_53178_14 : decode cJ7_fill_53178 14 = .ok (.iinc 2 1, 3) := by decide +kernel
theorem dJ7_fill_53178_17 : decode cJ7_fill_53178 17 = .ok (.goto (-12), 3) := by decide +kernel
theorem dJ7_fill_53178_20 : decode cJ7_fill_53178 20 = .ok (.return_, 1) := by decide +kernel
theorem dJ3_checkFromToIndex_8c36e_0 : decode cJ3_checkFromToIndex_8c36e 0 = .ok (.iload_n 0, 1) := by decide +kernel
theorem dJ3_checkFromToIndex_8c36e_1 : decode cJ3_checkFromToIndex_8c36e 1 = .ok (.ifCond .lt 13, 3) := by decide +kernel
theorem dJ3_checkFromToIndex_8c36e_4 : decode cJ3_checkFromToIndex_8c36e 4 = .ok (.iload_n 0, 1) := by decide +kernel
theorem dJ3_checkFromToIndex_8c36e_5 : decode cJ3_checkFromToIndex_8c36e 5 = .ok (.iload_n 1, 1) := by decide +kernel
theorem dJ3_checkFromToIndex_8c36e_6 : decode cJ3_checkFromToIndex_8c36e 6 = .ok (.if_icmp .gt 8, 3) := by decide +kernel
theorem dJ3_checkFromToIndex_8c36e_9 : decode cJ3_checkFromToIndex_8c36e 9 = .ok (.iload_n 1, 1) := by decide +kernel
theorem dJ3_checkFromToIndex_8c36e_10 : decode cJ3_checkFromToIndex_8c36e 10 = .ok (.iload_n 2, 1) := by decide +kernel
theorem dJ3_checkFromToIndex_8c36e_11 : decode cJ3_checkFromToIndex_8c36e 11 = .ok (.if_icmp .le 11, 3) := by decide +kernel
theorem dJ3_checkFromToIndex_8c36e_14 : decode cJ3_checkFromToIndex_8c36e 14 = .ok (.aload_n 3, 1) := by decide +kernel
theorem dJ3_checkFromToIndex_8c36e_15 : decode cJ3_checkFromToIndex_8c36e 15 = .ok (.iload_n 0, 1) := by decide +kernel
theorem dJ3_checkFromToIndex_8c36e_16 : decode cJ3_checkFromToIndex_8c36e 16 = .ok (.iload_n 1, 1) := by decide +kernel
theorem dJ3_checkFromToIndex_8c36e_17 : decode cJ3_checkFromToIndex_8c36e 17 = .ok (.iload_n 2, 1) := by decide +kernel
theorem dJ3_checkFromToIndex_8c36e_18 : decode cJ3_checkFromToIndex_8c36e 18 = .ok (.invokestatic 99, 3) := by decide +kernel
theorem dJ3_checkFromToIndex_8c36e_21 : decode cJ3_checkFromToIndex_8c36e 21 = .ok (.athrow, 1) := by decide +kernel
theorem dJ3_checkFromToIndex_8c36e_22 : decode cJ3_checkFromToIndex_8c36e 22 = .ok (.iload_n 0, 1) := by decide +kernel
theorem dJ3_checkFromToIndex_8c36e_23 : decode cJ3_checkFromToIndex_8c36e 23 = .ok (.ireturn, 1) := by decide +kernel
theorem dL_cell_0 : decode cL_cell 0 = .ok (.iload_n 1, 1) := by decide +kernel
theorem dL_cell_1 : decode cL_cell 1 = .ok (.aload_n 0, 1) := by decide +kernel
theorem dL_cell_2 : decode cL_cell 2 = .ok (.arraylength, 1) := by decide +kernel
theorem dL_cell_3 : decode cL_cell 3 = .ok (.if_icmp .ge 9, 3) := by decide +kernel
theorem dL_cell_6 : decode cL_cell 6 = .ok (.aload_n 0, 1) := by decide +kernel
theorem dL_cell_7 : decode cL_cell 7 = .ok (.iload_n 1, 1) := by decide +kernel
theorem dL_cell_8 : decode cL_cell 8 = .ok (.iaload, 1) := by decide +kernel
theorem dL_cell_9 : decode cL_cell 9 = .ok (.goto 12, 3) := by decide +kernel
theorem dL_cell_12 : decode cL_cell 12 = .ok (.ldc 7, 2) := by decide +kernel
theorem dL_cell_14 : decode cL_cell 14 = .ok (.iload_n 1, 1) := by decide +kernel
theorem dL_cell_15 : decode cL_cell 15 = .ok (.iconst 5, 1) := by decide +kernel
theorem dL_cell_16 : decode cL_cell 16 = .ok (.iadd, 1) := by decide +kernel
theorem dL_cell_17 : decode cL_cell 17 = .ok (.imul, 1) := by decide +kernel
theorem dL_cell_18 : decode cL_cell 18 = .ok (.ldc 8, 2) := by decide +kernel
theorem dL_cell_20 : decode cL_cell 20 = .ok (.iadd, 1) := by decide +kernel
theorem dL_cell_21 : decode cL_cell 21 = .ok (.ireturn, 1) := by decide +kernel
theorem dL_low_0 : decode cL_low 0 = .ok (.iload_n 0, 1) := by decide +kernel
theorem dL_low_1 : decode cL_low 1 = .ok (.ldc 9, 2) := by decide +kernel
theorem dL_low_3 : decode cL_low 3 = .ok (.iand, 1) := by decide +kernel
theorem dL_low_4 : decode cL_low 4 = .ok (.iload_n 1, 1) := by decide +kernel
theorem dL_low_5 : decode cL_low 5 = .ok (.irem, 1) := by decide +kernel
theorem dL_low_6 : decode cL_low 6 = .ok (.ireturn, 1) := by decide +kernel
set_option maxRecDepth 20000 in
theorem ggL_teach_X7_teach : GoodIn wsL_teach wsX7_teach := goodIn_ca (goodIn_ca (goodIn_ca (goodIn_r _ [8, 9, 10, 11, 12, 13, 14, 15, 16, 17, 18, 19, 20, 21, 7, 22, 23, 24, 25, 26, 27, 28, 29, 30, 31, 32, 33, 34, 35, 36, 37, 38, 39, 40, 41, 42, 43, 44, 45, 46, 47, 48, 49, 50, 51, 52, 53, 54, 55, 56, 57, 58, 59, 60, 61, 62, 63, 64, 65, 66, 67, 68, 69, 70, 71, 72, 73, 74, 75, 76, 77, 78, 79, 80, 81, 82, 83, 84, 85, 86, 87, 88, 89, 90, 91, 92, 93, 94, 95, 96, 97, 98, 99, 100, 101, 102, 103, 104, 105, 106, 107, 108, 109, 110, 111, 112, 113, 114, 115, 116, 117, 118, 119, 120, 121, 122, 123, 124, 125, 126, 127, 128, 129, 130, 131, 132, 133, 134, 135, 136, 137, 138, 139, 140, 141, 142, 143, 144, 145, 146, 147, 148, 149, 150, 151, 152, 153, 154, 155, 156, 157, 158, 159, 160, 161, 162, 163, 164, 165, 166, 167, 168, 169, 170, 171, 172, 173, 174, 175, 176, 177, 178, 179, 180, 181, 182, 183, 184, 185, 186, 187, 188, 189, 190, 191, 192, 193, 194, 195, 196, 197, 198, 199, 200, 201, 202, 203, 204, 205, 206, 207, 208, 209, 210, 211, 212, 213, 214, 215, 216, 217, 218, 219, 220, 221, 222, 223, 224, 225, 226, 227, 228, 229, 230, 231, 232, 233, 234, 235, 236, 237, 238, 239, 240, 241, 242, 243, 244, 245, 246, 247, 248, 249, 250, 251, 252, 253, 254, 255, 256, 257, 258, 259, 260, 261, 262, 263, 264, 265, 266, 267, 268, 269, 270, 271, 272, 273, 274, 275, 276, 277, 278, 279, 280, 281, 282, 283, 284, 285, 286, 287, 288, 289, 290, 291, 292, 293, 294, 295, 296, 297, 298, 299, 300, 301, 302, 303, 304, 305, 306, 307, 308, 309, 310, 311, 312, 313, 314, 315] (by decide +kernel) (by decide +kernel)) (goodIn_sub (fun _ h => List.mem_cons_of_mem _ (List.mem_append_left _ (List.mem_append_left _ (List.mem_append_right _ h)))) (by decide +kernel))) (goodIn_sub (fun _ h => List.mem_cons_of_mem _ (List.mem_append_left _ (List.mem_append_right _ h))) (by decide +kernel))) (goodIn_sub (fun _ h => List.mem_cons_of_mem _ (List.mem_append_right _ h)) (by decide +kernel))
set_option maxRecDepth 20000 in
theorem gL_teach_X7_teach : GoodIn wsL_teach (wsV RL 10 RX7 yX7_teach wsX7_teach) := goodIn_app (goodIn_of _ (by decide +kernel)) ggL_teach_X7_teach
theorem dL_teach_0 : decode cL_teach 0 = .ok (.aload_n 0, 1) := by decide +kernel
theorem dL_teach_1 : decode cL_teach 1 = .ok (.iload_n 1, 1) := by decide +kernel
theorem dL_teach_2 : decode cL_teach 2 = .ok (.invokevirtual 10, 3) := by decide +kernel
theorem dL_teach_5 : decode cL_teach 5 = .ok (.ireturn, 1) := by decide +kernel
theorem dL_teach_6 : decode cL_teach 6 = .ok (.astore_n 2, 1) := by decide +kernel
theorem dL_teach_7 : decode cL_teach 7 = .ok (.bipush (-101), 2) := by decide +kernel
theorem dL_teach_9 : decode cL_teach 9 = .ok (.ireturn, 1) := by decide +kernel
theorem dL_teach_10 : decode cL_teach 10 = .ok (.astore_n 2, 1) := by decide +kernel
theorem dL_teach_11 : decode cL_teach 11 = .ok (.bipush (-102), 2) := by decide +kernel
theorem dL_teach_13 : decode cL_teach 13 = .ok (.ireturn, 1) := by decide +kernel
theorem dL_teach_14 : decode cL_teach 14 = .ok (.astore_n 2, 1) := by decide +kernel
theorem dL_teach_15 : decode cL_teach 15 = .ok (.bipush (-103), 2) := by decide +kernel
theorem dL_teach_17 : decode cL_teach 17 = .ok (.ireturn, 1) := by decide +kernel
set_option maxRecDepth 20000 in
theorem ggL_forget_X7_forget : GoodIn wsL_forget wsX7_forget := goodIn_ca (goodIn_r _ [6, 7, 8, 9, 10, 11, 12, 13, 5, 14, 15, 16, 17, 18, 19, 20, 21, 22, 23, 24, 25, 26, 27, 28, 29, 30, 31, 32, 33, 34, 35, 36, 37, 38, 39, 40, 41, 42, 43, 44, 45, 46, 47, 48, 49, 50, 51, 52, 53, 54, 55, 56, 57, 58, 59, 60, 61, 62, 63, 64, 65, 66, 67, 68, 69, 70, 71, 72, 73, 74, 75] (by decide +kernel) (by decide +kernel)) (goodIn_sub (fun _ h => List.mem_cons_of_mem _ (List.mem_append_right _ h)) (by decide +kernel))
set_option maxRecDepth 20000 in
theorem gL_forget_X7_forget : GoodIn wsL_forget (wsV RL 22 RX7 yX7_forget wsX7_forget) := goodIn_app (goodIn_of _ (by decide +kernel)) ggL_forget_X7_forget
theorem dL_forget_0 : decode cL_forget 0 = .ok (.aload_n 0, 1) := by decide +kernel
theorem dL_forget_1 : decode cL_forget 1 = .ok (.iload_n 1, 1) := by decide +kernel
theorem dL_forget_2 : decode cL_forget 2 = .ok (.invokevirtual 22, 3) := by decide +kernel
theorem dL_forget_5 : decode cL_forget 5 = .ok (.ireturn, 1) := by decide +kernel
theorem dL_forget_6 : decode cL_forget 6 = .ok (.astore_n 2, 1) := by decide +kernel
theorem dL_forget_7 : decode cL_forget 7 = .ok (.bipush (-101), 2) := by decide +kernel
theorem dL_forget_9 : decode cL_forget 9 = .ok (.ireturn, 1) := by decide +kernel
set_option maxRecDepth 20000 in
theorem ggL_key_X7_key : GoodIn wsL_key wsX7_key := goodIn_ca (goodIn_r _ [6, 7, 8, 9, 10, 11, 12, 13, 5, 14, 15, 16, 17, 18, 19, 20, 21, 22, 23, 24, 25, 26, 27, 28, 29, 30, 31, 32, 33, 34, 35, 36, 37, 38, 39, 40, 41, 42, 43, 44, 45, 46, 47, 48, 49, 50, 51, 52, 53, 54, 55, 56, 57, 58, 59, 60, 61, 62, 63, 64, 65, 66, 67, 68, 69, 70, 71, 72, 73, 74, 75] (by decide +kernel) (by decide +kernel)) (goodIn_sub (fun _ h => List.mem_cons_of_mem _ (List.mem_append_right _ h)) (by decide +kernel))
set_option maxRecDepth 20000 in
theorem gL_key_X7_key : GoodIn wsL_key (wsV RL 25 RX7 yX7_key wsX7_key) := goodIn_app (goodIn_of _ (by decide +kernel)) ggL_key_X7_key
theorem dL_key_0 : decode cL_key 0 = .ok (.aload_n 0, 1) := by decide +kernel
theorem dL_key_1 : decode cL_key 1 = .ok (.iload_n 1, 1) := by decide +kernel
theorem dL_key_2 : decode cL_key 2 = .ok (.invokevirtual 25, 3) := by decide +kernel
theorem dL_key_5 : decode cL_key 5 = .ok (.ireturn, 1) := by decide +kernel
theorem dL_key_6 : decode cL_key 6 = .ok (.astore_n 2, 1) := by decide +kernel
theorem dL_key_7 : decode cL_key 7 = .ok (.bipush (-102), 2) := by decide +kernel
theorem dL_key_9 : decode cL_key 9 = .ok (.ireturn, 1) := by decide +kernel
set_option maxRecDepth 20000 in
theorem ggL_tell_X7_tell : GoodIn wsL_tell wsX7_tell := goodIn_ca (goodIn_r _ [6, 7, 8, 9, 10, 11, 12, 13, 14, 5, 15, 16, 17, 18, 19, 20, 21, 22, 23, 24, 25, 26, 27, 28, 29, 30, 31, 32, 33, 34, 35, 36, 37, 38, 39, 40, 41, 42, 43, 44, 45, 46, 47, 48, 49, 50, 51, 52, 53, 54, 55, 56, 57, 58, 59, 60, 61, 62, 63, 64, 65, 66, 67, 68, 69, 70, 71, 72, 73, 74, 75, 76] (by decide +kernel) (by decide +kernel)) (goodIn_sub (fun _ h => List.mem_cons_of_mem _ (List.mem_append_right _ h)) (by decide +kernel))
set_option maxRecDepth 20000 in
theorem gL_tell_X7_tell : GoodIn wsL_tell (wsV RL 28 RX7 yX7_tell wsX7_tell) := goodIn_app (goodIn_of _ (by decide +kernel)) ggL_tell_X7_tell
theorem dL_tell_0 : decode cL_tell 0 = .ok (.aload_n 0, 1) := by decide +kernel
theorem dL_tell_1 : decode cL_tell 1 = .ok (.iload_n 1, 1) := by decide +kernel
theorem dL_tell_2 : decode cL_tell 2 = .ok (.invokevirtual 28, 3) := by decide +kernel
theorem dL_tell_5 : decode cL_tell 5 = .ok (.ireturn, 1) := by decide +kernel
theorem dL_tell_6 : decode cL_tell 6 = .ok (.astore_n 2, 1) := by decide +kernel
theorem dL_tell_7 : decode cL_tell 7 = .ok (.bipush (-101), 2) := by decide +kernel
theorem dL_tell_9 : decode cL_tell 9 = .ok (.ireturn, 1) := by decide +kernel
set_option maxRecDepth 20000 in
theorem ggL_lookout_X7_lookout : GoodIn wsL_lookout wsX7_lookout := goodIn_ca (goodIn_r _ [6, 7, 8, 9, 10, 11, 12, 13, 14, 15, 16, 17, 18, 19, 20, 21, 22, 23, 24, 25, 26, 27, 28, 29, 30, 31, 32, 33, 34, 35, 36, 37, 38, 39, 40, 41, 42, 43, 44, 45, 46, 47, 48, 49, 50, 51, 52, 53, 54, 55, 56, 57, 58, 59, 60, 61, 62, 63, 64, 65, 66, 67, 68, 69, 70, 71, 72, 73, 74, 75, 76, 77, 78, 79] (by decide +kernel) (by decide +kernel)) (goodIn_sub (fun _ h => List.mem_cons_of_mem _ (List.mem_append_right _ h)) (by decide +kernel))
set_option maxRecDepth 20000 in
theorem gL_lookout_X7_lookout : GoodIn wsL_lookout (wsV RL 31 RX7 yX7_lookout wsX7_lookout) := goodIn_app (goodIn_of _ (by decide +kernel)) ggL_lookout_X7_lookout
theorem dL_lookout_0 : decode cL_lookout 0 = .ok (.aload_n 0, 1) := by decide +kernel
theorem dL_lookout_1 : decode cL_lookout 1 = .ok (.iload_n 1, 1) := by decide +kernel
theorem dL_lookout_2 : decode cL_lookout 2 = .ok (.iload_n 2, 1) := by decide +kernel
theorem dL_lookout_3 : decode cL_lookout 3 = .ok (.invokevirtual 31, 3) := by decide +kernel
theorem dL_lookout_6 : decode cL_lookout 6 = .ok (.ireturn, 1) := by decide +kernel
theorem dL_lookout_7 : decode cL_lookout 7 = .ok (.astore_n 3, 1) := by decide +kernel
theorem dL_lookout_8 : decode cL_lookout 8 = .ok (.bipush (-101), 2) := by decide +kernel
theorem dL_lookout_10 : decode cL_lookout 10 = .ok (.ireturn, 1) := by decide +kernel
set_option maxRecDepth 20000 in
theorem ggL_ban_X7_ban : GoodIn wsL_ban wsX7_ban := goodIn_ca (goodIn_r _ [6, 7, 8, 9, 10, 11, 12, 13, 5, 14, 15, 16, 17, 18, 19, 20, 21, 22, 23, 24, 25, 26, 27, 28, 29, 30, 31, 32, 33, 34, 35, 36, 37, 38, 39, 40, 41, 42, 43, 44, 45, 46, 47, 48, 49, 50, 51, 52, 53, 54, 55, 56, 57, 58, 59, 60, 61, 62, 63, 64, 65, 66, 67, 68, 69, 70, 71, 72, 73, 74, 75, 76, 77, 78] (by decide +kernel) (by decide +kernel)) (goodIn_sub (fun _ h => List.mem_cons_of_mem _ (List.mem_append_right _ h)) (by decide +kernel))
set_option maxRecDepth 20000 in
theorem gL_ban_X7_ban : GoodIn wsL_ban (wsV RL 35 RX7 yX7_ban wsX7_ban) := goodIn_app (goodIn_of _ (by decide +kernel)) ggL_ban_X7_ban
theorem dL_ban_0 : decode cL_ban 0 = .ok (.aload_n 0, 1) := by decide +kernel
theorem dL_ban_1 : decode cL_ban 1 = .ok (.iload_n 1, 1) := by decide +kernel
theorem dL_ban_2 : decode cL_ban 2 = .ok (.iload_n 2, 1) := by decide +kernel
theorem dL_ban_3 : decode cL_ban 3 = .ok (.invokevirtual 35, 3) := by decide +kernel
theorem dL_ban_6 : decode cL_ban 6 = .ok (.ireturn, 1) := by decide +kernel
theorem dL_ban_7 : decode cL_ban 7 = .ok (.astore_n 3, 1) := by decide +kernel
theorem dL_ban_8 : decode cL_ban 8 = .ok (.bipush (-101), 2) := by decide +kernel
theorem dL_ban_10 : decode cL_ban 10 = .ok (.ireturn, 1) := by decide +kernel
set_option maxRecDepth 20000 in
theorem ggL_set_X7_set : GoodIn wsL_set wsX7_set := goodIn_ca (goodIn_ca (goodIn_r _ [7, 8, 9, 10, 11, 12, 13, 14, 15, 16, 6, 17, 18, 19, 20, 21, 22, 23, 24, 25, 26, 27, 28, 29, 30, 31, 32, 33, 34, 35, 36, 37, 38, 39, 40, 41, 42, 43, 44, 45, 46, 47, 48, 49, 50, 51, 52, 53, 54, 55, 56, 57, 58, 59, 60, 61, 62, 63, 64, 65, 66, 67, 68, 69, 70, 71, 72, 73, 74, 75, 76, 77, 78] (by decide +kernel) (by decide +kernel)) (goodIn_sub (fun _ h => List.mem_cons_of_mem _ (List.mem_append_left _ (List.mem_append_right _ h))) (by decide +kernel))) (goodIn_sub (fun _ h => List.mem_cons_of_mem _ (List.mem_append_right _ h)) (by decide +kernel))
set_option maxRecDepth 20000 in
theorem gL_set_X7_set : GoodIn wsL_set (wsV RL 39 RX7 yX7_set wsX7_set) := goodIn_app (goodIn_of _ (by decide +kernel)) ggL_set_X7_set
theorem dL_set_0 : decode cL_set 0 = .ok (.aload_n 0, 1) := by decide +kernel
theorem dL_set_1 : decode cL_set 1 = .ok (.iload_n 1, 1) := by decide +kernel
theorem dL_set_2 : decode cL_set 2 = .ok (.iload_n 2, 1) := by decide +kernel
theorem dL_set_3 : decode cL_set 3 = .ok (.invokevirtual 39, 3) := by decide +kernel
theorem dL_set_6 : decode cL_set 6 = .ok (.ireturn, 1) := by decide +kernel
theorem dL_set_7 : decode cL_set 7 = .ok (.astore_n 3, 1) := by decide +kernel
theorem dL_set_8 : decode cL_set 8 = .ok (.bipush (-101), 2) := by decide +kernel
theorem dL_set_10 : decode cL_set 10 = .ok (.ireturn, 1) := by decide +kernel
theorem dL_set_11 : decode cL_set 11 = .ok (.astore_n 3, 1) := by decide +kernel
theorem dL_set_12 : decode cL_set 12 = .ok (.bipush (-102), 2) := by decide +kernel
theorem dL_set_14 : decode cL_set 14 = .ok (.ireturn, 1) := by decide +kernel
set_option maxRecDepth 20000 in
theorem ggL_whistle_X7_whistle : GoodIn wsL_whistle wsX7_whistle := goodIn_ca (goodIn_ca (goodIn_r _ [7, 8, 9, 10, 11, 12, 13, 14, 15, 6, 16, 17, 18, 19, 20, 21, 22, 23, 24, 25, 26, 27, 28, 29, 30, 31, 32, 33, 34, 35, 36, 37, 38, 39, 40, 41, 42, 43, 44, 45, 46, 47, 48, 49, 50, 51, 52, 53, 54, 55, 56, 57, 58, 59, 60, 61, 62, 63, 64, 65, 66, 67, 68, 69, 70, 71, 72, 73, 74, 75, 76, 77, 78, 79, 80, 81, 82, 83, 84, 85, 86, 87, 88, 89, 90, 91, 92, 93, 94, 95, 96, 97, 98, 99, 100, 101, 102, 103, 104, 105, 106, 107, 108, 109, 110, 111, 112, 113, 114, 115, 116, 117, 118, 119, 120, 121, 122, 123, 124, 125, 126, 127, 128, 129, 130, 131, 132, 133, 134, 135, 136, 137, 138, 139, 140, 141, 142, 143, 144, 145, 146, 147, 148, 149, 150, 151, 152, 153, 154, 155] (by decide +kernel) (by decide +kernel)) (goodIn_sub (fun _ h => List.mem_cons_of_mem _ (List.mem_append_left _ (List.mem_append_right _ h))) (by decide +kernel))) (goodIn_sub (fun _ h => List.mem_cons_of_mem _ (List.mem_append_right _ h)) (by decide +kernel))
set_option maxRecDepth 20000 in
theorem gL_whistle_X7_whistle : GoodIn wsL_whistle (wsV RL 42 RX7 yX7_whistle wsX7_whistle) := goodIn_app (goodIn_of _ (by decide +kernel)) ggL_whistle_X7_whistle
theorem dL_whistle_0 : decode cL_whistle 0 = .ok (.aload_n 0, 1) := by decide +kernel
theorem dL_whistle_1 : decode cL_whistle 1 = .ok (.iload_n 1, 1) := by decide +kernel
theorem dL_whistle_2 : decode cL_whistle 2 = .ok (.iload_n 2, 1) := by decide +kernel
theorem dL_whistle_3 : decode cL_whistle 3 = .ok (.invokevirtual 42, 3) := by decide +kernel
theorem dL_whistle_6 : decode cL_whistle 6 = .ok (.ireturn, 1) := by decide +kernel
theorem dL_whistle_7 : decode cL_whistle 7 = .ok (.astore_n 3, 1) := by decide +kernel
theorem dL_whistle_8 : decode cL_whistle 8 = .ok (.bipush (-101), 2) := by decide +kernel
theorem dL_whistle_10 : decode cL_whistle 10 = .ok (.ireturn, 1) := by decide +kernel
theorem dL_whistle_11 : decode cL_whistle 11 = .ok (.astore_n 3, 1) := by decide +kernel
theorem dL_whistle_12 : decode cL_whistle 12 = .ok (.bipush (-103), 2) := by decide +kernel
theorem dL_whistle_14 : decode cL_whistle 14 = .ok (.ireturn, 1) := by decide +kernel
set_option maxRecDepth 20000 in
theorem ggL_append_X7_append : GoodIn wsL_append wsX7_append := goodIn_ca (goodIn_ca (goodIn_r _ [7, 8, 9, 10, 11, 12, 13, 14, 15, 16, 17, 18, 19, 20, 21, 22, 23, 24, 25, 26, 27, 28, 29, 30, 31] (by decide +kernel) (by decide +kernel)) (goodIn_sub (fun _ h => List.mem_cons_of_mem _ (List.mem_append_left _ (List.mem_append_right _ h))) (by decide +kernel))) (goodIn_sub (fun _ h => List.mem_cons_of_mem _ (List.mem_append_right _ h)) (by decide +kernel))
set_option maxRecDepth 20000 in
theorem gL_append_X7_append : GoodIn wsL_append (wsV RL 45 RX7 yX7_append wsX7_append) := goodIn_app (goodIn_of _ (by decide +kernel)) ggL_append_X7_append
theorem dL_append_0 : decode cL_append 0 = .ok (.aload_n 0, 1) := by decide +kernel
theorem dL_append_1 : decode cL_append 1 = .ok (.iload_n 1, 1) := by decide +kernel
theorem dL_append_2 : decode cL_append 2 = .ok (.invokevirtual 45, 3) := by decide +kernel
theorem dL_append_5 : decode cL_append 5 = .ok (.ireturn, 1) := by decide +kernel
theorem dL_append_6 : decode cL_append 6 = .ok (.astore_n 2, 1) := by decide +kernel
theorem dL_append_7 : decode cL_append 7 = .ok (.bipush (-102), 2) := by decide +kernel
theorem dL_append_9 : decode cL_append 9 = .ok (.ireturn, 1) := by decide +kernel
theorem dL_append_10 : decode cL_append 10 = .ok (.astore_n 2, 1) := by decide +kernel
theorem dL_append_11 : decode cL_append 11 = .ok (.bipush (-103), 2) := by decide +kernel
theorem dL_append_13 : decode cL_append 13 = .ok (.ireturn, 1) := by decide +kernel
set_option maxRecDepth 20000 in
theorem ggL_undo_X7_undo : GoodIn wsL_undo wsX7_undo := goodIn_ca (goodIn_r _ [6, 7, 8, 9, 10, 11, 12, 13, 14, 15, 16, 17, 18, 19, 20, 21, 22, 23, 24, 25, 26, 27, 28, 29, 30, 31, 32, 33, 34, 35, 36, 37, 38, 39, 40, 41, 42, 43, 44, 45, 46, 47, 48, 49, 50, 51, 52, 53, 54, 55, 56, 57, 58, 59, 60, 61, 62, 63, 64, 65, 66, 67, 68, 69, 70, 71, 72] (by decide +kernel) (by decide +kernel)) (goodIn_sub (fun _ h => List.mem_cons_of_mem _ (List.mem_append_right _ h)) (by decide +kernel))
set_option maxRecDepth 20000 in
theorem gL_undo_X7_undo : GoodIn wsL_undo (wsV RL 48 RX7 yX7_undo wsX7_undo) := goodIn_app (goodIn_of _ (by decide +kernel)) ggL_undo_X7_undo
theorem dL_undo_0 : decode cL_undo 0 = .ok (.aload_n 0, 1) := by decide +kernel
theorem dL_undo_1 : decode cL_undo 1 = .ok (.invokevirtual 48, 3) := by decide +kernel
theorem dL_undo_4 : decode cL_undo 4 = .ok (.ireturn, 1) := by decide +kernel
theorem dL_undo_5 : decode cL_undo 5 = .ok (.astore_n 1, 1) := by decide +kernel
theorem dL_undo_6 : decode cL_undo 6 = .ok (.bipush (-103), 2) := by decide +kernel
theorem dL_undo_8 : decode cL_undo 8 = .ok (.ireturn, 1) := by decide +kernel
set_option maxRecDepth 20000 in
theorem ggL_message_X7_message : GoodIn wsL_message wsX7_message := goodIn_ca (goodIn_ca (goodIn_r _ [7, 8, 9, 10, 11, 12, 13, 14, 15, 16, 17, 18, 6, 19, 20, 21, 22, 23, 24, 25, 26, 27, 28, 29, 30, 31, 32, 33, 34, 35, 36, 37, 38, 39, 40, 41, 42, 43, 44] (by decide +kernel) (by decide +kernel)) (goodIn_sub (fun _ h => List.mem_cons_of_mem _ (List.mem_append_left _ (List.mem_append_right _ h))) (by decide +kernel))) (goodIn_sub (fun _ h => List.mem_cons_of_mem _ (List.mem_append_right _ h)) (by decide +kernel))
set_option maxRecDepth 20000 in
theorem gL_message_X7_message : GoodIn wsL_message (wsV RL 52 RX7 yX7_message wsX7_message) := goodIn_app (goodIn_of _ (by decide +kernel)) ggL_message_X7_message
theorem dL_message_0 : decode cL_message 0 = .ok (.aload_n 0, 1) := by decide +kernel
theorem dL_message_1 : decode cL_message 1 = .ok (.iload_n 1, 1) := by decide +kernel
theorem dL_message_2 : decode cL_message 2 = .ok (.iload_n 2, 1) := by decide +kernel
theorem dL_message_3 : decode cL_message 3 = .ok (.invokevirtual 52, 3) := by decide +kernel
theorem dL_message_6 : decode cL_message 6 = .ok (.ireturn, 1) := by decide +kernel
theorem dL_message_7 : decode cL_message 7 = .ok (.astore_n 3, 1) := by decide +kernel
theorem dL_message_8 : decode cL_message 8 = .ok (.bipush (-101), 2) := by decide +kernel
theorem dL_message_10 : decode cL_message 10 = .ok (.ireturn, 1) := by decide +kernel
theorem dL_message_11 : decode cL_message 11 = .ok (.astore_n 3, 1) := by decide +kernel
theorem dL_message_12 : decode cL_message 12 = .ok (.bipush (-102), 2) := by decide +kernel
theorem dL_message_14 : decode cL_message 14 = .ok (.ireturn, 1) := by decide +kernel
set_option maxRecDepth 20000 in
theorem ggL_note_X7_note : GoodIn wsL_note wsX7_note := goodIn_ca (goodIn_ca (goodIn_r _ [7, 8, 9, 10, 11, 12, 13, 14, 15, 6, 16, 17, 18, 19, 20, 21, 22, 23, 24, 25, 26, 27, 28, 29, 30, 31, 32, 33, 34, 35, 36, 37, 38, 39, 40, 41, 42, 43, 44, 45, 46, 47] (by decide +kernel) (by decide +kernel)) (goodIn_sub (fun _ h => List.mem_cons_of_mem _ (List.mem_append_left _ (List.mem_append_right _ h))) (by decide +kernel))) (goodIn_sub (fun _ h => List.mem_cons_of_mem _ (List.mem_append_right _ h)) (by decide +kernel))
set_option maxRecDepth 20000 in
theorem gL_note_X7_note : GoodIn wsL_note (wsV RL 55 RX7 yX7_note wsX7_note) := goodIn_app (goodIn_of _ (by decide +kernel)) ggL_note_X7_note
theorem dL_note_0 : decode cL_note 0 = .ok (.aload_n 0, 1) := by decide +kernel
theorem dL_note_1 : decode cL_note 1 = .ok (.iload_n 1, 1) := by decide +kernel
theorem dL_note_2 : decode cL_note 2 = .ok (.iload_n 2, 1) := by decide +kernel
theorem dL_note_3 : decode cL_note 3 = .ok (.invokevirtual 55, 3) := by decide +kernel
theorem dL_note_6 : decode cL_note 6 = .ok (.ireturn, 1) := by decide +kernel
theorem dL_note_7 : decode cL_note 7 = .ok (.astore_n 3, 1) := by decide +kernel
theorem dL_note_8 : decode cL_note 8 = .ok (.bipush (-101), 2) := by decide +kernel
theorem dL_note_10 : decode cL_note 10 = .ok (.ireturn, 1) := by decide +kernel
theorem dL_note_11 : decode cL_note 11 = .ok (.astore_n 3, 1) := by decide +kernel
theorem dL_note_12 : decode cL_note 12 = .ok (.bipush (-102), 2) := by decide +kernel
theorem dL_note_14 : decode cL_note 14 = .ok (.ireturn, 1) := by decide +kernel
set_option maxRecDepth 20000 in
theorem ggL_room_X7_room : GoodIn wsL_room wsX7_room := goodIn_ca (goodIn_ca (goodIn_r _ [7, 8, 9, 10, 11, 12, 13, 14, 15, 16, 17, 18, 19, 6, 20, 21, 22, 23, 24, 25, 26, 27, 28, 29, 30, 31, 32, 33, 34, 35, 36, 37, 38, 39, 40, 41, 42, 43, 44, 45, 46, 47, 48, 49, 50, 51, 52, 53, 54, 55] (by decide +kernel) (by decide +kernel)) (goodIn_sub (fun _ h => List.mem_cons_of_mem _ (List.mem_append_left _ (List.mem_append_right _ h))) (by decide +kernel))) (goodIn_sub (fun _ h => List.mem_cons_of_mem _ (List.mem_append_right _ h)) (by decide +kernel))
set_option maxRecDepth 20000 in
theorem gL_room_X7_room : GoodIn wsL_room (wsV RL 58 RX7 yX7_room wsX7_room) := goodIn_app (goodIn_of _ (by decide +kernel)) ggL_room_X7_room
theorem dL_room_0 : decode cL_room 0 = .ok (.aload_n 0, 1) := by decide +kernel
theorem dL_room_1 : decode cL_room 1 = .ok (.iload_n 1, 1) := by decide +kernel
theorem dL_room_2 : decode cL_room 2 = .ok (.iload_n 2, 1) := by decide +kernel
theorem dL_room_3 : decode cL_room 3 = .ok (.invokevirtual 58, 3) := by decide +kernel
theorem dL_room_6 : decode cL_room 6 = .ok (.ireturn, 1) := by decide +kernel
theorem dL_room_7 : decode cL_room 7 = .ok (.astore_n 3, 1) := by decide +kernel
theorem dL_room_8 : decode cL_room 8 = .ok (.bipush (-101), 2) := by decide +kernel
theorem dL_room_10 : decode cL_room 10 = .ok (.ireturn, 1) := by decide +kernel
theorem dL_room_11 : decode cL_room 11 = .ok (.astore_n 3, 1) := by decide +kernel
theorem dL_room_12 : decode cL_room 12 = .ok (.bipush (-102), 2) := by decide +kernel
theorem dL_room_14 : decode cL_room 14 = .ok (.ireturn, 1) := by decide +kernel
set_option maxRecDepth 20000 in
theorem ggL_latest_X7_latest : GoodIn wsL_latest wsX7_latest := goodIn_ca (goodIn_r _ [6, 7, 8, 9, 10, 11, 12, 13, 14, 15, 16, 17, 18, 19, 20, 21, 22, 23, 24, 25, 26, 27, 28, 29, 30, 31, 32, 33, 34, 35] (by decide +kernel) (by decide +kernel)) (goodIn_sub (fun _ h => List.mem_cons_of_mem _ (List.mem_append_right _ h)) (by decide +kernel))
set_option maxRecDepth 20000 in
theorem gL_latest_X7_latest : GoodIn wsL_latest (wsV RL 61 RX7 yX7_latest wsX7_latest) := goodIn_app (goodIn_of _ (by decide +kernel)) ggL_latest_X7_latest
theorem dL_latest_0 : decode cL_latest 0 = .ok (.aload_n 0, 1) := by decide +kernel
theorem dL_latest_1 : decode cL_latest 1 = .ok (.iload_n 1, 1) := by decide +kernel
theorem dL_latest_2 : decode cL_latest 2 = .ok (.invokevirtual 61, 3) := by decide +kernel
theorem dL_latest_5 : decode cL_latest 5 = .ok (.ireturn, 1) := by decide +kernel
theorem dL_latest_6 : decode cL_latest 6 = .ok (.astore_n 2, 1) := by decide +kernel
theorem dL_latest_7 : decode cL_latest 7 = .ok (.bipush (-102), 2) := by decide +kernel
theorem dL_latest_9 : decode cL_latest 9 = .ok (.ireturn, 1) := by decide +kernel
set_option maxRecDepth 20000 in
theorem ggL_count_X7_count : GoodIn wsL_count wsX7_count := goodIn_ca (goodIn_r _ [6, 7, 8, 9, 10, 11, 12, 13, 14, 15, 16, 17, 18, 19, 20, 21, 22, 23, 24, 25, 26, 27, 28, 29, 30, 31, 32, 33, 34, 35, 36, 37, 38, 39, 40, 41, 42, 43, 44, 45, 46, 47, 48, 49, 50, 51, 52, 53, 54, 55, 56, 57, 58, 59, 60, 61, 62, 63, 64, 65, 66, 67, 68, 69, 70, 71, 72, 73, 74, 75, 76, 77, 78, 79, 80, 81, 82, 83, 5, 84, 85, 86, 87, 88, 89, 90, 91, 92, 93, 94, 95, 96, 97, 98, 99, 100, 101, 102, 103, 104, 105, 106, 107, 108, 109, 110, 111, 112, 113, 114, 115, 116, 117, 118, 119, 120] (by decide +kernel) (by decide +kernel)) (goodIn_sub (fun _ h => List.mem_cons_of_mem _ (List.mem_append_right _ h)) (by decide +kernel))
set_option maxRecDepth 20000 in
theorem gL_count_X7_count : GoodIn wsL_count (wsV RL 64 RX7 yX7_count wsX7_count) := goodIn_app (goodIn_of _ (by decide +kernel)) ggL_count_X7_count
theorem dL_count_0 : decode cL_count 0 = .ok (.aload_n 0, 1) := by decide +kernel
theorem dL_count_1 : decode cL_count 1 = .ok (.iload_n 1, 1) := by decide +kernel
theorem dL_count_2 : decode cL_count 2 = .ok (.invokevirtual 64, 3) := by decide +kernel
theorem dL_count_5 : decode cL_count 5 = .ok (.ireturn, 1) := by decide +kernel
theorem dL_count_6 : decode cL_count 6 = .ok (.astore_n 2, 1) := by decide +kernel
theorem dL_count_7 : decode cL_count 7 = .ok (.bipush (-102), 2) := by decide +kernel
theorem dL_count_9 : decode cL_count 9 = .ok (.ireturn, 1) := by decide +kernel
set_option maxRecDepth 20000 in
theorem ggL_decode_X7_decode : GoodIn wsL_decode wsX7_decode := goodIn_ca (goodIn_r _ [6, 7, 8, 9, 10, 5, 11, 12, 13, 14, 15, 16, 17, 18, 19, 20, 21, 22, 23, 24, 25, 26, 27, 28, 29, 30, 31, 32, 33, 34, 35, 36, 37, 38, 39, 40, 41, 42, 43, 44, 45, 46, 47, 48, 49, 50, 51, 52, 53, 54, 55, 56, 57, 58, 59, 60, 61, 62, 63, 64, 65, 66, 67, 68, 69, 70, 71, 72, 73, 74, 75, 76, 77, 78, 79, 80, 81, 82, 83, 84, 85, 86, 87, 88, 89, 90, 91, 92, 93, 94, 95, 96, 97, 98, 99, 100, 101, 102, 103, 104, 105, 106, 107, 108, 109, 110, 111, 112, 113, 114, 115, 116, 117, 118, 119, 120, 121, 122, 123, 124, 125, 126, 127, 128, 129, 130, 131, 132, 133, 134, 135, 136, 137, 138, 139, 140, 141, 142, 143, 144, 145, 146, 147, 148, 149, 150, 151, 152, 153, 154, 155, 156, 157, 158, 159, 160, 161, 162, 163, 164, 165, 166, 167, 168, 169, 170, 171, 172, 173, 174, 175, 176, 177, 178, 179, 180, 181, 182, 183, 184, 185, 186, 187, 188, 189, 190, 191, 192, 193, 194, 195, 196, 197, 198, 199, 200, 201, 202, 203, 204, 205, 206, 207, 208, 209, 210, 211, 212, 213, 214, 215, 216, 217, 218, 219, 220, 221, 222, 223, 224, 225, 226, 227, 228, 229, 230, 231, 232, 233, 234, 235, 236, 237, 238, 239, 240, 241, 242, 243, 244, 245, 246, 247, 248, 249, 250, 251, 252, 253, 254, 255, 256, 257, 258, 259, 260, 261, 262, 263, 264, 265, 266, 267, 268, 269, 270, 271, 272, 273, 274, 275, 276, 277, 278, 279, 280, 281, 282, 283] (by decide +kernel) (by decide +kernel)) (goodIn_sub (fun _ h => List.mem_cons_of_mem _ (List.mem_append_right _ h)) (by decide +kernel))
set_option maxRecDepth 20000 in
theorem gL_decode_X7_decode : GoodIn wsL_decode (wsV RL 67 RX7 yX7_decode wsX7_decode) := goodIn_app (goodIn_of _ (by decide +kernel)) ggL_decode_X7_decode
theorem dL_decode_0 : decode cL_decode 0 = .ok (.aload_n 0, 1) := by decide +kernel
theorem dL_decode_1 : decode cL_decode 1 = .ok (.iload_n 1, 1) := by decide +kernel
theorem dL_decode_2 : decode cL_decode 2 = .ok (.iload_n 2, 1) := by decide +kernel
theorem dL_decode_3 : decode cL_decode 3 = .ok (.invokevirtual 67, 3) := by decide +kernel
theorem dL_decode_6 : decode cL_decode 6 = .ok (.ireturn, 1) := by decide +kernel
theorem dL_decode_7 : decode cL_decode 7 = .ok (.astore_n 3, 1) := by decide +kernel
theorem dL_decode_8 : decode cL_decode 8 = .ok (.bipush (-102), 2) := by decide +kernel
theorem dL_decode_10 : decode cL_decode 10 = .ok (.ireturn, 1) := by decide +kernel
set_option maxRecDepth 20000 in
theorem ggL_keyOf_X7_keyOf : GoodIn wsL_keyOf wsX7_keyOf := goodIn_ca (goodIn_r _ [6, 7, 8, 9, 10, 11, 5, 12, 13, 14, 15, 16, 17, 18, 19, 20, 21, 22, 23, 24, 25, 26, 27, 28, 29, 30, 31, 32, 33, 34, 35, 36, 37, 38, 39, 40, 41, 42, 43, 44, 45, 46, 47, 48, 49, 50, 51, 52, 53, 54, 55, 56, 57, 58, 59, 60, 61, 62, 63, 64, 65, 66, 67, 68, 69, 70, 71, 72, 73, 74, 75, 76, 77, 78, 79, 80, 81, 82, 83, 84, 85, 86, 87, 88, 89, 90, 91, 92, 93, 94, 95, 96, 97, 98, 99, 100, 101, 102, 103, 104, 105, 106, 107, 108, 109, 110, 111, 112, 113, 114, 115, 116, 117, 118, 119, 120, 121, 122, 123, 124, 125, 126, 127, 128, 129, 130, 131, 132, 133, 134, 135, 136, 137, 138, 139, 140, 141, 142, 143, 144, 145, 146, 147, 148, 149, 150, 151, 152, 153, 154, 155, 156, 157, 158, 159, 160, 161, 162, 163, 164, 165, 166, 167, 168, 169, 170, 171, 172, 173, 174, 175, 176, 177, 178, 179, 180, 181, 182, 183, 184, 185, 186, 187, 188, 189, 190, 191, 192, 193, 194, 195, 196, 197, 198, 199, 200, 201, 202, 203, 204, 205, 206, 207, 208, 209, 210, 211, 212, 213, 214, 215, 216, 217, 218, 219, 220, 221, 222, 223, 224, 225, 226, 227, 228, 229, 230, 231, 232, 233, 234, 235, 236, 237, 238, 239, 240, 241, 242, 243, 244, 245, 246, 247, 248, 249, 250, 251, 252, 253, 254, 255, 256, 257, 258, 259, 260, 261, 262, 263, 264, 265, 266] (by decide +kernel) (by decide +kernel)) (goodIn_sub (fun _ h => List.mem_cons_of_mem _ (List.mem_append_right _ h)) (by decide +kernel))
set_option maxRecDepth 20000 in
theorem gL_keyOf_X7_keyOf : GoodIn wsL_keyOf (wsV RL 70 RX7 yX7_keyOf wsX7_keyOf) := goodIn_app (goodIn_of _ (by decide +kernel)) ggL_keyOf_X7_keyOf
theorem dL_keyOf_0 : decode cL_keyOf 0 = .ok (.aload_n 0, 1) := by decide +kernel
theorem dL_keyOf_1 : decode cL_keyOf 1 = .ok (.invokevirtual 70, 3) := by decide +kernel
theorem dL_keyOf_4 : decode cL_keyOf 4 = .ok (.ireturn, 1) := by decide +kernel
theorem dL_keyOf_5 : decode cL_keyOf 5 = .ok (.astore_n 1, 1) := by decide +kernel
theorem dL_keyOf_6 : decode cL_keyOf 6 = .ok (.bipush (-102), 2) := by decide +kernel
theorem dL_keyOf_8 : decode cL_keyOf 8 = .ok (.ireturn, 1) := by decide +kernel
set_option maxRecDepth 20000 in
theorem ggL_whyNot_X7_whyNot : GoodIn wsL_whyNot wsX7_whyNot := goodIn_ca (goodIn_r _ [6, 7, 8, 9, 10, 11, 5, 12, 13, 14, 15, 16, 17, 18, 19, 20, 21, 22, 23, 24, 25, 26, 27, 28, 29, 30, 31, 32, 33, 34, 35, 36, 37, 38, 39, 40, 41, 42, 43, 44, 45, 46, 47, 48, 49, 50, 51, 52] (by decide +kernel) (by decide +kernel)) (goodIn_sub (fun _ h => List.mem_cons_of_mem _ (List.mem_append_right _ h)) (by decide +kernel))
set_option maxRecDepth 20000 in
theorem gL_whyNot_X7_whyNot : GoodIn wsL_whyNot (wsV RL 73 RX7 yX7_whyNot wsX7_whyNot) := goodIn_app (goodIn_of _ (by decide +kernel)) ggL_whyNot_X7_whyNot
theorem dL_whyNot_0 : decode cL_whyNot 0 = .ok (.aload_n 0, 1) := by decide +kernel
theorem dL_whyNot_1 : decode cL_whyNot 1 = .ok (.iload_n 1, 1) := by decide +kernel
theorem dL_whyNot_2 : decode cL_whyNot 2 = .ok (.iload_n 2, 1) := by decide +kernel
theorem dL_whyNot_3 : decode cL_whyNot 3 = .ok (.invokevirtual 73, 3) := by decide +kernel
theorem dL_whyNot_6 : decode cL_whyNot 6 = .ok (.ireturn, 1) := by decide +kernel
theorem dL_whyNot_7 : decode cL_whyNot 7 = .ok (.astore_n 3, 1) := by decide +kernel
theorem dL_whyNot_8 : decode cL_whyNot 8 = .ok (.bipush (-101), 2) := by decide +kernel
theorem dL_whyNot_10 : decode cL_whyNot 10 = .ok (.ireturn, 1) := by decide +kernel
set_option maxRecDepth 20000 in
theorem ggL_ifWhistled_X7_ifWhistled : GoodIn wsL_ifWhistled wsX7_ifWhistled := goodIn_ca (goodIn_ca (goodIn_r _ [7, 8, 9, 10, 11, 12, 13, 14, 15, 16, 17, 18, 19, 6, 20, 21, 22, 23, 24, 25, 26, 27, 28, 29, 30, 31, 32, 33, 34, 35, 36, 37, 38, 39, 40, 41, 42, 43, 44, 45, 46, 47, 48, 49, 50, 51, 52, 53, 54, 55, 56, 57, 58, 59, 60, 61, 62, 63, 64, 65, 66, 67, 68, 69, 70, 71, 72, 73, 74, 75, 76, 77, 78, 79, 80, 81, 82, 83, 84, 85, 86, 87, 88, 89, 90, 91, 92, 93, 94, 95, 96, 97, 98, 99, 100, 101, 102, 103] (by decide +kernel) (by decide +kernel)) (goodIn_sub (fun _ h => List.mem_cons_of_mem _ (List.mem_append_left _ (List.mem_append_right _ h))) (by decide +kernel))) (goodIn_sub (fun _ h => List.mem_cons_of_mem _ (List.mem_append_right _ h)) (by decide +kernel))
set_option maxRecDepth 20000 in
theorem gL_ifWhistled_X7_ifWhistled : GoodIn wsL_ifWhistled (wsV RL 76 RX7 yX7_ifWhistled wsX7_ifWhistled) := goodIn_app (goodIn_of _ (by decide +kernel)) ggL_ifWhistled_X7_ifWhistled
theorem dL_ifWhistled_0 : decode cL_ifWhistled 0 = .ok (.aload_n 0, 1) := by decide +kernel
theorem dL_ifWhistled_1 : decode cL_ifWhistled 1 = .ok (.iload_n 1, 1) := by decide +kernel
theorem dL_ifWhistled_2 : decode cL_ifWhistled 2 = .ok (.iload_n 2, 1) := by decide +kernel
theorem dL_ifWhistled_3 : decode cL_ifWhistled 3 = .ok (.iload_n 3, 1) := by decide +kernel
theorem dL_ifWhistled_4 : decode cL_ifWhistled 4 = .ok (.invokevirtual 76, 3) := by decide +kernel
theorem dL_ifWhistled_7 : decode cL_ifWhistled 7 = .ok (.ireturn, 1) := by decide +kernel
theorem dL_ifWhistled_8 : decode cL_ifWhistled 8 = .ok (.astore 4, 2) := by decide +kernel
theorem dL_ifWhistled_10 : decode cL_ifWhistled 10 = .ok (.bipush (-101), 2) := by decide +kernel
theorem dL_ifWhistled_12 : decode cL_ifWhistled 12 = .ok (.ireturn, 1) := by decide +kernel
theorem dL_ifWhistled_13 : decode cL_ifWhistled 13 = .ok (.astore 4, 2) := by decide +kernel
theorem dL_ifWhistled_15 : decode cL_ifWhistled 15 = .ok (.bipush (-102), 2) := by decide +kernel
theorem dL_ifWhistled_17 : decode cL_ifWhistled 17 = .ok (.ireturn, 1) := by decide +kernel
set_option maxRecDepth 20000 in
theorem ggL_bestRoom_X7_bestRoom : GoodIn wsL_bestRoom wsX7_bestRoom := goodIn_ca (goodIn_r _ [6, 7, 8, 9, 10, 11, 12, 13, 14, 5, 15, 16, 17, 18, 19, 20, 21, 22, 23, 24, 25, 26, 27, 28, 29, 30, 31, 32, 33, 34, 35, 36, 37, 38, 39, 40, 41, 42, 43, 44, 45, 46, 47, 48, 49, 50, 51, 52, 53, 54, 55, 56, 57, 58, 59, 60, 61, 62, 63, 64, 65, 66, 67, 68, 69, 70, 71, 72, 73, 74, 75, 76, 77, 78, 79, 80, 81, 82, 83, 84, 85, 86, 87, 88, 89, 90, 91, 92, 93, 94, 95, 96, 97, 98, 99, 100, 101, 102] (by decide +kernel) (by decide +kernel)) (goodIn_sub (fun _ h => List.mem_cons_of_mem _ (List.mem_append_right _ h)) (by decide +kernel))
set_option maxRecDepth 20000 in
theorem gL_bestRoom_X7_bestRoom : GoodIn wsL_bestRoom (wsV RL 80 RX7 yX7_bestRoom wsX7_bestRoom) := goodIn_app (goodIn_of _ (by decide +kernel)) ggL_bestRoom_X7_bestRoom
theorem dL_bestRoom_0 : decode cL_bestRoom 0 = .ok (.aload_n 0, 1) := by decide +kernel
theorem dL_bestRoom_1 : decode cL_bestRoom 1 = .ok (.iload_n 1, 1) := by decide +kernel
theorem dL_bestRoom_2 : decode cL_bestRoom 2 = .ok (.invokevirtual 80, 3) := by decide +kernel
theorem dL_bestRoom_5 : decode cL_bestRoom 5 = .ok (.ireturn, 1) := by decide +kernel
theorem dL_bestRoom_6 : decode cL_bestRoom 6 = .ok (.astore_n 2, 1) := by decide +kernel
theorem dL_bestRoom_7 : decode cL_bestRoom 7 = .ok (.bipush (-101), 2) := by decide +kernel
theorem dL_bestRoom_9 : decode cL_bestRoom 9 = .ok (.ireturn, 1) := by decide +kernel
theorem dL_letter_0 : decode cL_letter 0 = .ok (.iload_n 0, 1) := by decide +kernel
theorem dL_letter_1 : decode cL_letter 1 = .ok (.iconst 5, 1) := by decide +kernel
theorem dL_letter_2 : decode cL_letter 2 = .ok (.if_icmp .ge 11, 3) := by decide +kernel
theorem dL_letter_5 : decode cL_letter 5 = .ok (.bipush 99, 2) := by decide +kernel
theorem dL_letter_7 : decode cL_letter 7 = .ok (.iload_n 0, 1) := by decide +kernel
theorem dL_letter_8 : decode cL_letter 8 = .ok (.iadd, 1) := by decide +kernel
theorem dL_letter_9 : decode cL_letter 9 = .ok (.i2c, 1) := by decide +kernel
theorem dL_letter_10 : decode cL_letter 10 = .ok (.goto 15, 3) := by decide +kernel
theorem dL_letter_13 : decode cL_letter 13 = .ok (.iload_n 0, 1) := by decide +kernel
theorem dL_letter_14 : decode cL_letter 14 = .ok (.iconst 5, 1) := by decide +kernel
theorem dL_letter_15 : decode cL_letter 15 = .ok (.if_icmp .ne 8, 3) := by decide +kernel
theorem dL_letter_18 : decode cL_letter 18 = .ok (.bipush 97, 2) := by decide +kernel
theorem dL_letter_20 : decode cL_letter 20 = .ok (.goto 5, 3) := by decide +kernel
theorem dL_letter_23 : decode cL_letter 23 = .ok (.bipush 104, 2) := by decide +kernel
theorem dL_letter_25 : decode cL_letter 25 = .ok (.ireturn, 1) := by decide +kernel
theorem dL_many_0 : decode cL_many 0 = .ok (.iload_n 0, 1) := by decide +kernel
theorem dL_many_1 : decode cL_many 1 = .ok (.bipush 24, 2) := by decide +kernel
theorem dL_many_3 : decode cL_many 3 = .ok (.ishr, 1) := by decide +kernel
theorem dL_many_4 : decode cL_many 4 = .ok (.ireturn, 1) := by decide +kernel
theorem dL_noteAt_0 : decode cL_noteAt 0 = .ok (.iload_n 0, 1) := by decide +kernel
theorem dL_noteAt_1 : decode cL_noteAt 1 = .ok (.iconst 3, 1) := by decide +kernel
theorem dL_noteAt_2 : decode cL_noteAt 2 = .ok (.iload_n 1, 1) := by decide +kernel
theorem dL_noteAt_3 : decode cL_noteAt 3 = .ok (.imul, 1) := by decide +kernel
theorem dL_noteAt_4 : decode cL_noteAt 4 = .ok (.ishr, 1) := by decide +kernel
theorem dL_noteAt_5 : decode cL_noteAt 5 = .ok (.bipush 7, 2) := by decide +kernel
theorem dL_noteAt_7 : decode cL_noteAt 7 = .ok (.iand, 1) := by decide +kernel
theorem dL_noteAt_8 : decode cL_noteAt 8 = .ok (.ireturn, 1) := by decide +kernel
set_option maxRecDepth 20000 in
theorem ggL_with_L_many : GoodIn wsL_with wsL_many := goodIn_r _ [6] (by decide +kernel) (by decide +kernel)
set_option maxRecDepth 20000 in
theorem gL_with_L_many : GoodIn wsL_with (va_wsS RL 83 yL_many wsL_many) := goodIn_app (goodIn_of _ (by decide +kernel)) ggL_with_L_many
theorem dL_with_0 : decode cL_with 0 = .ok (.iload_n 0, 1) := by decide +kernel
theorem dL_with_1 : decode cL_with 1 = .ok (.invokestatic 83, 3) := by decide +kernel
theorem dL_with_4 : decode cL_with 4 = .ok (.istore_n 2, 1) := by decide +kernel
theorem dL_with_5 : decode cL_with 5 = .ok (.iload_n 2, 1) := by decide +kernel
theorem dL_with_6 : decode cL_with 6 = .ok (.bipush 8, 2) := by decide +kernel
theorem dL_with_8 : decode cL_with 8 = .ok (.if_icmp .le 7, 3) := by decide +kernel
theorem dL_with_11 : decode cL_with 11 = .ok (.iload_n 0, 1) := by decide +kernel
theorem dL_with_12 : decode cL_with 12 = .ok (.goto 31, 3) := by decide +kernel
theorem dL_with_15 : decode cL_with 15 = .ok (.iload_n 2, 1) := by decide +kernel
theorem dL_with_16 : decode cL_with 16 = .ok (.bipush 8, 2) := by decide +kernel
theorem dL_with_18 : decode cL_with 18 = .ok (.if_icmp .ne 8, 3) := by decide +kernel
theorem dL_with_21 : decode cL_with 21 = .ok (.ldc 88, 2) := by decide +kernel
theorem dL_with_23 : decode cL_with 23 = .ok (.goto 20, 3) := by decide +kernel
theorem dL_with_26 : decode cL_with 26 = .ok (.iload_n 0, 1) := by decide +kernel
theorem dL_with_27 : decode cL_with 27 = .ok (.ldc 89, 2) := by decide +kernel
theorem dL_with_29 : decode cL_with 29 = .ok (.iand, 1) := by decide +kernel
theorem dL_with_30 : decode cL_with 30 = .ok (.iload_n 1, 1) := by decide +kernel
theorem dL_with_31 : decode cL_with 31 = .ok (.iconst 3, 1) := by decide +kernel
theorem dL_with_32 : decode cL_with 32 = .ok (.iload_n 2, 1) := by decide +kernel
theorem dL_with_33 : decode cL_with 33 = .ok (.imul, 1) := by decide +kernel
theorem dL_with_34 : decode cL_with 34 = .ok (.ishl, 1) := by decide +kernel
theorem dL_with_35 : decode cL_with 35 = .ok (.ior, 1) := by decide +kernel
theorem dL_with_36 : decode cL_with 36 = .ok (.iload_n 2, 1) := by decide +kernel
theorem dL_with_37 : decode cL_with 37 = .ok (.iconst 1, 1) := by decide +kernel
theorem dL_with_38 : decode cL_with 38 = .ok (.iadd, 1) := by decide +kernel
theorem dL_with_39 : decode cL_with 39 = .ok (.bipush 24, 2) := by decide +kernel
theorem dL_with_41 : decode cL_with 41 = .ok (.ishl, 1) := by decide +kernel
theorem dL_with_42 : decode cL_with 42 = .ok (.iadd, 1) := by decide +kernel
theorem dL_with_43 : decode cL_with 43 = .ok (.ireturn, 1) := by decide +kernel
set_option maxRecDepth 20000 in
theorem ggL_types_X7_clearBuffer : GoodIn wsL_types wsX7_clearBuffer := goodIn_r _ [5, 6, 7, 8, 9, 10, 11, 12, 13, 48, 49, 50, 51, 52, 53, 54, 55, 56, 57, 58] (by decide +kernel) (by decide +kernel)
set_option maxRecDepth 20000 in
theorem gL_types_X7_clearBuffer : GoodIn wsL_types (wsV RL 90 RX7 yX7_clearBuffer wsX7_clearBuffer) := goodIn_app (goodIn_of _ (by decide +kernel)) ggL_types_X7_clearBuffer
set_option maxRecDepth 20000 in
theorem ggL_types_L_low : GoodIn wsL_types wsL_low := goodIn_r _ [17, 18] (by decide +kernel) (by decide +kernel)
set_option maxRecDepth 20000 in
theorem gL_types_L_low : GoodIn wsL_types (va_wsS RL 93 yL_low wsL_low) := goodIn_app (goodIn_of _ (by decide +kernel)) ggL_types_L_low
set_option maxRecDepth 20000 in
theorem ggL_types_L_letter : GoodIn wsL_types wsL_letter := goodIn_r _ [21] (by decide +kernel) (by decide +kernel)
set_option maxRecDepth 20000 in
theorem gL_types_L_letter : GoodIn wsL_types (va_wsS RL 96 yL_letter wsL_letter) := goodIn_app (goodIn_of _ (by decide +kernel)) ggL_types_L_letter
set_option maxRecDepth 20000 in
theorem ggL_types_L_append : GoodIn wsL_types wsL_append := goodIn_ca (goodIn_ca (goodIn_r _ [24, 25, 26, 27, 28, 29, 4, 30, 31, 32, 33, 34, 6, 7, 35, 36, 37, 11, 38, 13, 39, 48, 49, 50, 51, 52, 53, 54, 55, 56, 57, 58] (by decide +kernel) (by decide +kernel)) (goodIn_sub (fun _ h => List.mem_cons_of_mem _ (List.mem_append_left _ (List.mem_append_right _ h))) (by decide +kernel))) (goodIn_sub (fun _ h => List.mem_cons_of_mem _ (List.mem_append_right _ h)) (by decide +kernel))
set_option maxRecDepth 20000 in
theorem gL_types_L_append : GoodIn wsL_types (va_wsS RL 100 yL_append wsL_append) := goodIn_app (goodIn_of _ (by decide +kernel)) ggL_types_L_append
set_option maxRecDepth 20000 in
theorem ggL_types_L_with : GoodIn wsL_types wsL_with := goodIn_r _ [42, 43, 44, 45, 46, 16, 47] (by decide +kernel) (by decide +kernel)
set_option maxRecDepth 20000 in
theorem gL_types_L_with : GoodIn wsL_types (va_wsS RL 103 yL_with wsL_with) := goodIn_app (goodIn_of _ (by decide +kernel)) ggL_types_L_with
theorem dL_types_0 : decode cL_types 0 = .ok (.aload_n 0, 1) := by decide +kernel
theorem dL_types_1 : decode cL_types 1 = .ok (.invokevirtual 90, 3) := by decide +kernel
theorem dL_types_4 : decode cL_types 4 = .ok (.pop, 1) := by decide +kernel
theorem dL_types_5 : decode cL_types 5 = .ok (.iconst 0, 1) := by decide +kernel
theorem dL_types_6 : decode cL_types 6 = .ok (.istore_n 2, 1) := by decide +kernel
theorem dL_types_7 : decode cL_types 7 = .ok (.iconst 1, 1) := by decide +kernel
theorem dL_types_8 : decode cL_types 8 = .ok (.iload_n 1, 1) := by decide +kernel
theorem dL_types_9 : decode cL_types 9 = .ok (.iconst 4, 1) := by decide +kernel
theorem dL_types_10 : decode cL_types 10 = .ok (.invokestatic 93, 3) := by decide +kernel
theorem dL_types_13 : decode cL_types 13 = .ok (.iadd, 1) := by decide +kernel
theorem dL_types_14 : decode cL_types 14 = .ok (.istore_n 3, 1) := by decide +kernel
theorem dL_types_15 : decode cL_types 15 = .ok (.iconst 0, 1) := by decide +kernel
theorem dL_types_16 : decode cL_types 16 = .ok (.istore 4, 2) := by decide +kernel
theorem dL_types_18 : decode cL_types 18 = .ok (.iload 4, 2) := by decide +kernel
theorem dL_types_20 : decode cL_types 20 = .ok (.iload_n 3, 1) := by decide +kernel
theorem dL_types_21 : decode cL_types 21 = .ok (.if_icmp .ge 165, 3) := by decide +kernel
theorem dL_types_24 : decode cL_types 24 = .ok (.iload_n 1, 1) := by decide +kernel
theorem dL_types_25 : decode cL_types 25 = .ok (.iconst 3, 1) := by decide +kernel
theorem dL_types_26 : decode cL_types 26 = .ok (.iload 4, 2) := by decide +kernel
theorem dL_types_28 : decode cL_types 28 = .ok (.imul, 1) := by decide +kernel
theorem dL_types_29 : decode cL_types 29 = .ok (.iconst 2, 1) := by decide +kernel
theorem dL_types_30 : decode cL_types 30 = .ok (.iadd, 1) := by decide +kernel
theorem dL_types_31 : decode cL_types 31 = .ok (.ishr, 1) := by decide +kernel
theorem dL_types_32 : decode cL_types 32 = .ok (.istore 5, 2) := by decide +kernel
theorem dL_types_34 : decode cL_types 34 = .ok (.iload 5, 2) := by decide +kernel
theorem dL_types_36 : decode cL_types 36 = .ok (.bipush 7, 2) := by decide +kernel
theorem dL_types_38 : decode cL_types 38 = .ok (.invokestatic 93, 3) := by decide +kernel
theorem dL_types_41 : decode cL_types 41 = .ok (.istore 6, 2) := by decide +kernel
theorem dL_types_43 : decode cL_types 43 = .ok (.iload 5, 2) := by decide +kernel
theorem dL_types_45 : decode cL_types 45 = .ok (.iconst 3, 1) := by decide +kernel
theorem dL_types_46 : decode cL_types 46 = .ok (.ishr, 1) := by decide +kernel
theorem dL_types_47 : decode cL_types 47 = .ok (.bipush 7, 2) := by decide +kernel
theorem dL_types_49 : decode cL_types 49 = .ok (.invokestatic 93, 3) := by decide +kernel
theorem dL_types_52 : decode cL_types 52 = .ok (.istore 7, 2) := by decide +kernel
theorem dL_types_54 : decode cL_types 54 = .ok (.iload 5, 2) := by decide +kernel
theorem dL_types_56 : decode cL_types 56 = .ok (.bipush 6, 2) := by decide +kernel
theorem dL_types_58 : decode cL_types 58 = .ok (.ishr, 1) := by decide +kernel
theorem dL_types_59 : decode cL_types 59 = .ok (.iconst 3, 1) := by decide +kernel
theorem dL_types_60 : decode cL_types 60 = .ok (.invokestatic 93, 3) := by decide +kernel
theorem dL_types_63 : decode cL_types 63 = .ok (.ifCond .le 23, 3) := by decide +kernel
theorem dL_types_66 : decode cL_types 66 = .ok (.aload_n 0, 1) := by decide +kernel
theorem dL_types_67 : decode cL_types 67 = .ok (.iload 6, 2) := by decide +kernel
theorem dL_types_69 : decode cL_types 69 = .ok (.invokestatic 96, 3) := by decide +kernel
theorem dL_types_72 : decode cL_types 72 = .ok (.invokestatic 100, 3) := by decide +kernel
theorem dL_types_75 : decode cL_types 75 = .ok (.pop, 1) := by decide +kernel
theorem dL_types_76 : decode cL_types 76 = .ok (.iload_n 2, 1) := by decide +kernel
theorem dL_types_77 : decode cL_types 77 = .ok (.iload 6, 2) := by decide +kernel
theorem dL_types_79 : decode cL_types 79 = .ok (.invokestatic 103, 3) := by decide +kernel
theorem dL_types_82 : decode cL_types 82 = .ok (.istore_n 2, 1) := by decide +kernel
theorem dL_types_83 : decode cL_types 83 = .ok (.goto 97, 3) := by decide +kernel
theorem dL_types_86 : decode cL_types 86 = .ok (.iconst 2, 1) := by decide +kernel
theorem dL_types_87 : decode cL_types 87 = .ok (.iload 5, 2) := by decide +kernel
theorem dL_types_89 : decode cL_types 89 = .ok (.bipush 8, 2) := by decide +kernel
theorem dL_types_91 : decode cL_types 91 = .ok (.ishr, 1) := by decide +kernel
theorem dL_types_92 : decode cL_types 92 = .ok (.iconst 2, 1) := by decide +kernel
theorem dL_types_93 : decode cL_types 93 = .ok (.invokestatic 93, 3) := by decide +kernel
theorem dL_types_96 : decode cL_types 96 = .ok (.iadd, 1) := by decide +kernel
theorem dL_types_97 : decode cL_types 97 = .ok (.istore 8, 2) := by decide +kernel
theorem dL_types_99 : decode cL_types 99 = .ok (.aload_n 0, 1) := by decide +kernel
theorem dL_types_100 : decode cL_types 100 = .ok (.bipush 40, 2) := by decide +kernel
theorem dL_types_102 : decode cL_types 102 = .ok (.invokestatic 100, 3) := by decide +kernel
theorem dL_types_105 : decode cL_types 105 = .ok (.pop, 1) := by decide +kernel
theorem dL_types_106 : decode cL_types 106 = .ok (.aload_n 0, 1) := by decide +kernel
theorem dL_types_107 : decode cL_types 107 = .ok (.iload 6, 2) := by decide +kernel
theorem dL_types_109 : decode cL_types 109 = .ok (.invokestatic 96, 3) := by decide +kernel
theorem dL_types_112 : decode cL_types 112 = .ok (.invokestatic 100, 3) := by decide +kernel
theorem dL_types_115 : decode cL_types 115 = .ok (.pop, 1) := by decide +kernel
theorem dL_types_116 : decode cL_types 116 = .ok (.aload_n 0, 1) := by decide +kernel
theorem dL_types_117 : decode cL_types 117 = .ok (.iload 7, 2) := by decide +kernel
theorem dL_types_119 : decode cL_types 119 = .ok (.invokestatic 96, 3) := by decide +kernel
theorem dL_types_122 : decode cL_types 122 = .ok (.invokestatic 100, 3) := by decide +kernel
theorem dL_types_125 : decode cL_types 125 = .ok (.pop, 1) := by decide +kernel
theorem dL_types_126 : decode cL_types 126 = .ok (.aload_n 0, 1) := by decide +kernel
theorem dL_types_127 : decode cL_types 127 = .ok (.bipush 41, 2) := by decide +kernel
theorem dL_types_129 : decode cL_types 129 = .ok (.invokestatic 100, 3) := by decide +kernel
theorem dL_types_132 : decode cL_types 132 = .ok (.pop, 1) := by decide +kernel
theorem dL_types_133 : decode cL_types 133 = .ok (.aload_n 0, 1) := by decide +kernel
theorem dL_types_134 : decode cL_types 134 = .ok (.bipush 48, 2) := by decide +kernel
theorem dL_types_136 : decode cL_types 136 = .ok (.iload 8, 2) := by decide +kernel
theorem dL_types_138 : decode cL_types 138 = .ok (.iadd, 1) := by decide +kernel
theorem dL_types_139 : decode cL_types 139 = .ok (.invokestatic 100, 3) := by decide +kernel
theorem dL_types_142 : decode cL_types 142 = .ok (.pop, 1) := by decide +kernel
theorem dL_types_143 : decode cL_types 143 = .ok (.iconst 0, 1) := by decide +kernel
theorem dL_types_144 : decode cL_types 144 = .ok (.istore 9, 2) := by decide +kernel
theorem dL_types_146 : decode cL_types 146 = .ok (.iload 9, 2) := by decide +kernel
theorem dL_types_148 : decode cL_types 148 = .ok (.iconst 2, 1) := by decide +kernel
theorem dL_types_149 : decode cL_types 149 = .ok (.iload 8, 2) := by decide +kernel
theorem dL_types_151 : decode cL_types 151 = .ok (.imul, 1) := by decide +kernel
theorem dL_types_152 : decode cL_types 152 = .ok (.if_icmp .ge 28, 3) := by decide +kernel
theorem dL_types_155 : decode cL_types 155 = .ok (.iload_n 2, 1) := by decide +kernel
theorem dL_types_156 : decode cL_types 156 = .ok (.iload 9, 2) := by decide +kernel
theorem dL_types_158 : decode cL_types 158 = .ok (.iconst 2, 1) := by decide +kernel
theorem dL_types_159 : decode cL_types 159 = .ok (.irem, 1) := by decide +kernel
theorem dL_types_160 : decode cL_types 160 = .ok (.ifCond .ne 8, 3) := by decide +kernel
theorem dL_types_163 : decode cL_types 163 = .ok (.iload 6, 2) := by decide +kernel
theorem dL_types_165 : decode cL_types 165 = .ok (.goto 5, 3) := by decide +kernel
theorem dL_types_168 : decode cL_types 168 = .ok (.iload 7, 2) := by decide +kernel
theorem dL_types_170 : decode cL_types 170 = .ok (.invokestatic 103, 3) := by decide +kernel
theorem dL_types_173 : decode cL_types 173 = .ok (.istore_n 2, 1) := by decide +kernel
theorem dL_types_174 : decode cL_types 174 = .ok (.iinc 9 1, 3) := by decide +kernel
theorem dL_types_177 : decode cL_types 177 = .ok (.goto (-31), 3) := by decide +kernel
theorem dL_types_180 : decode cL_types 180 = .ok (.iinc 4 1, 3) := by decide +kernel
theorem dL_types_183 : decode cL_types 183 = .ok (.goto (-165), 3) := by decide +kernel
theorem dL_types_186 : decode cL_types 186 = .ok (.iload_n 2, 1) := by decide +kernel
theorem dL_types_187 : decode cL_types 187 = .ok (.ireturn, 1) := by decide +kernel
set_option maxRecDepth 20000 in
theorem ggL_shape_L_noteAt : GoodIn wsL_shape wsL_noteAt := goodIn_r _ [4] (by decide +kernel) (by decide +kernel)
set_option maxRecDepth 20000 in
theorem gL_shape_L_noteAt : GoodIn wsL_shape (va_wsS RL 106 yL_noteAt wsL_noteAt) := goodIn_app (goodIn_of _ (by decide +kernel)) ggL_shape_L_noteAt
theorem dL_shape_0 : decode cL_shape 0 = .ok (.iconst 1, 1) := by decide +kernel
theorem dL_shape_1 : decode cL_shape 1 = .ok (.istore_n 2, 1) := by decide +kernel
theorem dL_shape_2 : decode cL_shape 2 = .ok (.iconst 0, 1) := by decide +kernel
theorem dL_shape_3 : decode cL_shape 3 = .ok (.istore_n 3, 1) := by decide +kernel
theorem dL_shape_4 : decode cL_shape 4 = .ok (.iload_n 3, 1) := by decide +kernel
theorem dL_shape_5 : decode cL_shape 5 = .ok (.iload_n 1, 1) := by decide +kernel
theorem dL_shape_6 : decode cL_shape 6 = .ok (.if_icmp .ge 32, 3) := by decide +kernel
theorem dL_shape_9 : decode cL_shape 9 = .ok (.bipush 8, 2) := by decide +kernel
theorem dL_shape_11 : decode cL_shape 11 = .ok (.iload_n 2, 1) := by decide +kernel
theorem dL_shape_12 : decode cL_shape 12 = .ok (.imul, 1) := by decide +kernel
theorem dL_shape_13 : decode cL_shape 13 = .ok (.iload_n 0, 1) := by decide +kernel
theorem dL_shape_14 : decode cL_shape 14 = .ok (.iload_n 3, 1) := by decide +kernel
theorem dL_shape_15 : decode cL_shape 15 = .ok (.invokestatic 106, 3) := by decide +kernel
theorem dL_shape_18 : decode cL_shape 18 = .ok (.bipush 7, 2) := by decide +kernel
theorem dL_shape_20 : decode cL_shape 20 = .ok (.iadd, 1) := by decide +kernel
theorem dL_shape_21 : decode cL_shape 21 = .ok (.iload_n 0, 1) := by decide +kernel
theorem dL_shape_22 : decode cL_shape 22 = .ok (.iconst 0, 1) := by decide +kernel
theorem dL_shape_23 : decode cL_shape 23 = .ok (.invokestatic 106, 3) := by decide +kernel
theorem dL_shape_26 : decode cL_shape 26 = .ok (.isub, 1) := by decide +kernel
theorem dL_shape_27 : decode cL_shape 27 = .ok (.bipush 7, 2) := by decide +kernel
theorem dL_shape_29 : decode cL_shape 29 = .ok (.irem, 1) := by decide +kernel
theorem dL_shape_30 : decode cL_shape 30 = .ok (.iadd, 1) := by decide +kernel
theorem dL_shape_31 : decode cL_shape 31 = .ok (.istore_n 2, 1) := by decide +kernel
theorem dL_shape_32 : decode cL_shape 32 = .ok (.iinc 3 1, 3) := by decide +kernel
theorem dL_shape_35 : decode cL_shape 35 = .ok (.goto (-31), 3) := by decide +kernel
theorem dL_shape_38 : decode cL_shape 38 = .ok (.iload_n 2, 1) := by decide +kernel
theorem dL_shape_39 : decode cL_shape 39 = .ok (.ireturn, 1) := by decide +kernel
set_option maxRecDepth 20000 in
theorem ggL_alike_L_many : GoodIn wsL_alike wsL_many := goodIn_r _ [4] (by decide +kernel) (by decide +kernel)
set_option maxRecDepth 20000 in
theorem gL_alike_L_many : GoodIn wsL_alike (va_wsS RL 83 yL_many wsL_many) := goodIn_app (goodIn_of _ (by decide +kernel)) ggL_alike_L_many
set_option maxRecDepth 20000 in
theorem ggL_alike_L_shape : GoodIn wsL_alike wsL_shape := goodIn_r _ [7, 8, 9, 3, 10] (by decide +kernel) (by decide +kernel)
set_option maxRecDepth 20000 in
theorem gL_alike_L_shape : GoodIn wsL_alike (va_wsS RL 109 yL_shape wsL_shape) := goodIn_app (goodIn_of _ (by decide +kernel)) ggL_alike_L_shape
theorem dL_alike_0 : decode cL_alike 0 = .ok (.iload_n 0, 1) := by decide +kernel
theorem dL_alike_1 : decode cL_alike 1 = .ok (.invokestatic 83, 3) := by decide +kernel
theorem dL_alike_4 : decode cL_alike 4 = .ok (.iload_n 1, 1) := by decide +kernel
theorem dL_alike_5 : decode cL_alike 5 = .ok (.invokestatic 83, 3) := by decide +kernel
theorem dL_alike_8 : decode cL_alike 8 = .ok (.if_icmp .ne 26, 3) := by decide +kernel
theorem dL_alike_11 : decode cL_alike 11 = .ok (.iload_n 0, 1) := by decide +kernel
theorem dL_alike_12 : decode cL_alike 12 = .ok (.iload_n 0, 1) := by decide +kernel
theorem dL_alike_13 : decode cL_alike 13 = .ok (.invokestatic 83, 3) := by decide +kernel
theorem dL_alike_16 : decode cL_alike 16 = .ok (.invokestatic 109, 3) := by decide +kernel
theorem dL_alike_19 : decode cL_alike 19 = .ok (.iload_n 1, 1) := by decide +kernel
theorem dL_alike_20 : decode cL_alike 20 = .ok (.iload_n 0, 1) := by decide +kernel
theorem dL_alike_21 : decode cL_alike 21 = .ok (.invokestatic 83, 3) := by decide +kernel
theorem dL_alike_24 : decode cL_alike 24 = .ok (.invokestatic 109, 3) := by decide +kernel
theorem dL_alike_27 : decode cL_alike 27 = .ok (.if_icmp .ne 7, 3) := by decide +kernel
theorem dL_alike_30 : decode cL_alike 30 = .ok (.iconst 1, 1) := by decide +kernel
theorem dL_alike_31 : decode cL_alike 31 = .ok (.goto 4, 3) := by decide +kernel
theorem dL_alike_34 : decode cL_alike 34 = .ok (.iconst 0, 1) := by decide +kernel
theorem dL_alike_35 : decode cL_alike 35 = .ok (.ireturn, 1) := by decide +kernel
set_option maxRecDepth 20000 in
theorem ggL_nodes_L_many : GoodIn wsL_nodes wsL_many := goodIn_r _ [4] (by decide +kernel) (by decide +kernel)
set_option maxRecDepth 20000 in
theorem gL_nodes_L_many : GoodIn wsL_nodes (va_wsS RL 83 yL_many wsL_many) := goodIn_app (goodIn_of _ (by decide +kernel)) ggL_nodes_L_many
set_option maxRecDepth 20000 in
theorem ggL_nodes_L_shape : GoodIn wsL_nodes wsL_shape := goodIn_r _ [7, 8, 9, 3, 10] (by decide +kernel) (by decide +kernel)
set_option maxRecDepth 20000 in
theorem gL_nodes_L_shape : GoodIn wsL_nodes (va_wsS RL 109 yL_shape wsL_shape) := goodIn_app (goodIn_of _ (by decide +kernel)) ggL_nodes_L_shape
theorem dL_nodes_0 : decode cL_nodes 0 = .ok (.iconst 0, 1) := by decide +kernel
theorem dL_nodes_1 : decode cL_nodes 1 = .ok (.istore_n 1, 1) := by decide +kernel
theorem dL_nodes_2 : decode cL_nodes 2 = .ok (.iconst 0, 1) := by decide +kernel
theorem dL_nodes_3 : decode cL_nodes 3 = .ok (.istore_n 2, 1) := by decide +kernel
theorem dL_nodes_4 : decode cL_nodes 4 = .ok (.iload_n 2, 1) := by decide +kernel
theorem dL_nodes_5 : decode cL_nodes 5 = .ok (.bipush 20, 2) := by decide +kernel
theorem dL_nodes_7 : decode cL_nodes 7 = .ok (.if_icmp .ge 99, 3) := by decide +kernel
theorem dL_nodes_10 : decode cL_nodes 10 = .ok (.iconst 1, 1) := by decide +kernel
theorem dL_nodes_11 : decode cL_nodes 11 = .ok (.istore_n 3, 1) := by decide +kernel
theorem dL_nodes_12 : decode cL_nodes 12 = .ok (.iload_n 3, 1) := by decide +kernel
theorem dL_nodes_13 : decode cL_nodes 13 = .ok (.aload_n 0, 1) := by decide +kernel
theorem dL_nodes_14 : decode cL_nodes 14 = .ok (.iload_n 2, 1) := by decide +kernel
theorem dL_nodes_15 : decode cL_nodes 15 = .ok (.iaload, 1) := by decide +kernel
theorem dL_nodes_16 : decode cL_nodes 16 = .ok (.invokestatic 83, 3) := by decide +kernel
theorem dL_nodes_19 : decode cL_nodes 19 = .ok (.if_icmp .gt 81, 3) := by decide +kernel
theorem dL_nodes_22 : decode cL_nodes 22 = .ok (.iconst 1, 1) := by decide +kernel
theorem dL_nodes_23 : decode cL_nodes 23 = .ok (.istore 4, 2) := by decide +kernel
theorem dL_nodes_25 : decode cL_nodes 25 = .ok (.iconst 0, 1) := by decide +kernel
theorem dL_nodes_26 : decode cL_nodes 26 = .ok (.istore 5, 2) := by decide +kernel
theorem dL_nodes_28 : decode cL_nodes 28 = .ok (.iload 5, 2) := by decide +kernel
theorem dL_nodes_30 : decode cL_nodes 30 = .ok (.iload_n 2, 1) := by decide +kernel
theorem dL_nodes_31 : decode cL_nodes 31 = .ok (.if_icmp .ge 50, 3) := by decide +kernel
theorem dL_nodes_34 : decode cL_nodes 34 = .ok (.iload 4, 2) := by decide +kernel
theorem dL_nodes_36 : decode cL_nodes 36 = .ok (.ifCond .eq 45, 3) := by decide +kernel
theorem dL_nodes_39 : decode cL_nodes 39 = .ok (.aload_n 0, 1) := by decide +kernel
theorem dL_nodes_40 : decode cL_nodes 40 = .ok (.iload 5, 2) := by decide +kernel
theorem dL_nodes_42 : decode cL_nodes 42 = .ok (.iaload, 1) := by decide +kernel
theorem dL_nodes_43 : decode cL_nodes 43 = .ok (.invokestatic 83, 3) := by decide +kernel
theorem dL_nodes_46 : decode cL_nodes 46 = .ok (.iload_n 3, 1) := by decide +kernel
theorem dL_nodes_47 : decode cL_nodes 47 = .ok (.if_icmp .lt 21, 3) := by decide +kernel
theorem dL_nodes_50 : decode cL_nodes 50 = .ok (.aload_n 0, 1) := by decide +kernel
theorem dL_nodes_51 : decode cL_nodes 51 = .ok (.iload 5, 2) := by decide +kernel
theorem dL_nodes_53 : decode cL_nodes 53 = .ok (.iaload, 1) := by decide +kernel
theorem dL_nodes_54 : decode cL_nodes 54 = .ok (.iload_n 3, 1) := by decide +kernel
theorem dL_nodes_55 : decode cL_nodes 55 = .ok (.invokestatic 109, 3) := by decide +kernel
theorem dL_nodes_58 : decode cL_nodes 58 = .ok (.aload_n 0, 1) := by decide +kernel
theorem dL_nodes_59 : decode cL_nodes 59 = .ok (.iload_n 2, 1) := by decide +kernel
theorem dL_nodes_60 : decode cL_nodes 60 = .ok (.iaload, 1) := by decide +kernel
theorem dL_nodes_61 : decode cL_nodes 61 = .ok (.iload_n 3, 1) := by decide +kernel
theorem dL_nodes_62 : decode cL_nodes 62 = .ok (.invokestatic 109, 3) := by decide +kernel
theorem dL_nodes_65 : decode cL_nodes 65 = .ok (.if_icmp .eq 7, 3) := by decide +kernel
theorem dL_nodes_68 : decode cL_nodes 68 = .ok (.iconst 1, 1) := by decide +kernel
theorem dL_nodes_69 : decode cL_nodes 69 = .ok (.goto 4, 3) := by decide +kernel
theorem dL_nodes_72 : decode cL_nodes 72 = .ok (.iconst 0, 1) := by decide +kernel
theorem dL_nodes_73 : decode cL_nodes 73 = .ok (.istore 4, 2) := by decide +kernel
theorem dL_nodes_75 : decode cL_nodes 75 = .ok (.iinc 5 1, 3) := by decide +kernel
theorem dL_nodes_78 : decode cL_nodes 78 = .ok (.goto (-50), 3) := by decide +kernel
theorem dL_nodes_81 : decode cL_nodes 81 = .ok (.iload_n 1, 1) := by decide +kernel
theorem dL_nodes_82 : decode cL_nodes 82 = .ok (.iload 4, 2) := by decide +kernel
theorem dL_nodes_84 : decode cL_nodes 84 = .ok (.ifCond .eq 7, 3) := by decide +kernel
theorem dL_nodes_87 : decode cL_nodes 87 = .ok (.iconst 1, 1) := by decide +kernel
theorem dL_nodes_88 : decode cL_nodes 88 = .ok (.goto 4, 3) := by decide +kernel
theorem dL_nodes_91 : decode cL_nodes 91 = .ok (.iconst 0, 1) := by decide +kernel
theorem dL_nodes_92 : decode cL_nodes 92 = .ok (.iadd, 1) := by decide +kernel
theorem dL_nodes_93 : decode cL_nodes 93 = .ok (.istore_n 1, 1) := by decide +kernel
theorem dL_nodes_94 : decode cL_nodes 94 = .ok (.iinc 3 1, 3) := by decide +kernel
theorem dL_nodes_97 : decode cL_nodes 97 = .ok (.goto (-85), 3) := by decide +kernel
theorem dL_nodes_100 : decode cL_nodes 100 = .ok (.iinc 2 1, 3) := by decide +kernel
theorem dL_nodes_103 : decode cL_nodes 103 = .ok (.goto (-99), 3) := by decide +kernel
theorem dL_nodes_106 : decode cL_nodes 106 = .ok (.iload_n 1, 1) := by decide +kernel
theorem dL_nodes_107 : decode cL_nodes 107 = .ok (.ireturn, 1) := by decide +kernel
theorem dL_floors_0 : decode cL_floors 0 = .ok (.iconst 0, 1) := by decide +kernel
theorem dL_floors_1 : decode cL_floors 1 = .ok (.istore_n 2, 1) := by decide +kernel
theorem dL_floors_2 : decode cL_floors 2 = .ok (.iconst 1, 1) := by decide +kernel
theorem dL_floors_3 : decode cL_floors 3 = .ok (.iload_n 0, 1) := by decide +kernel
theorem dL_floors_4 : decode cL_floors 4 = .ok (.ishl, 1) := by decide +kernel
theorem dL_floors_5 : decode cL_floors 5 = .ok (.istore_n 3, 1) := by decide +kernel
theorem dL_floors_6 : decode cL_floors 6 = .ok (.iconst 0, 1) := by decide +kernel
theorem dL_floors_7 : decode cL_floors 7 = .ok (.istore 4, 2) := by decide +kernel
theorem dL_floors_9 : decode cL_floors 9 = .ok (.iload 4, 2) := by decide +kernel
theorem dL_floors_11 : decode cL_floors 11 = .ok (.iconst 4, 1) := by decide +kernel
theorem dL_floors_12 : decode cL_floors 12 = .ok (.if_icmp .ge 98, 3) := by decide +kernel
theorem dL_floors_15 : decode cL_floors 15 = .ok (.iconst 0, 1) := by decide +kernel
theorem dL_floors_16 : decode cL_floors 16 = .ok (.istore 5, 2) := by decide +kernel
theorem dL_floors_18 : decode cL_floors 18 = .ok (.iload 5, 2) := by decide +kernel
theorem dL_floors_20 : decode cL_floors 20 = .ok (.iconst 3, 1) := by decide +kernel
theorem dL_floors_21 : decode cL_floors 21 = .ok (.if_icmp .ge 75, 3) := by decide +kernel
theorem dL_floors_24 : decode cL_floors 24 = .ok (.iconst 0, 1) := by decide +kernel
theorem dL_floors_25 : decode cL_floors 25 = .ok (.istore 6, 2) := by decide +kernel
theorem dL_floors_27 : decode cL_floors 27 = .ok (.iload 6, 2) := by decide +kernel
theorem dL_floors_29 : decode cL_floors 29 = .ok (.iconst 3, 1) := by decide +kernel
theorem dL_floors_30 : decode cL_floors 30 = .ok (.if_icmp .ge 60, 3) := by decide +kernel
theorem dL_floors_33 : decode cL_floors 33 = .ok (.iload 5, 2) := by decide +kernel
theorem dL_floors_35 : decode cL_floors 35 = .ok (.iload 6, 2) := by decide +kernel
theorem dL_floors_37 : decode cL_floors 37 = .ok (.if_icmp .le 11, 3) := by decide +kernel
theorem dL_floors_40 : decode cL_floors 40 = .ok (.iload 5, 2) := by decide +kernel
theorem dL_floors_42 : decode cL_floors 42 = .ok (.iload 6, 2) := by decide +kernel
theorem dL_floors_44 : decode cL_floors 44 = .ok (.isub, 1) := by decide +kernel
theorem dL_floors_45 : decode cL_floors 45 = .ok (.goto 8, 3) := by decide +kernel
theorem dL_floors_48 : decode cL_floors 48 = .ok (.iload 6, 2) := by decide +kernel
theorem dL_floors_50 : decode cL_floors 50 = .ok (.iload 5, 2) := by decide +kernel
theorem dL_floors_52 : decode cL_floors 52 = .ok (.isub, 1) := by decide +kernel
theorem dL_floors_53 : decode cL_floors 53 = .ok (.istore 7, 2) := by decide +kernel
theorem dL_floors_55 : decode cL_floors 55 = .ok (.iload_n 2, 1) := by decide +kernel
theorem dL_floors_56 : decode cL_floors 56 = .ok (.iload_n 3, 1) := by decide +kernel
theorem dL_floors_57 : decode cL_floors 57 = .ok (.iload 6, 2) := by decide +kernel
theorem dL_floors_59 : decode cL_floors 59 = .ok (.ishr, 1) := by decide +kernel
theorem dL_floors_60 : decode cL_floors 60 = .ok (.iconst 1, 1) := by decide +kernel
theorem dL_floors_61 : decode cL_floors 61 = .ok (.iand, 1) := by decide +kernel
theorem dL_floors_62 : decode cL_floors 62 = .ok (.iconst 1, 1) := by decide +kernel
theorem dL_floors_63 : decode cL_floors 63 = .ok (.if_icmp .ne 18, 3) := by decide +kernel
theorem dL_floors_66 : decode cL_floors 66 = .ok (.iload 7, 2) := by decide +kernel
theorem dL_floors_68 : decode cL_floors 68 = .ok (.aload_n 1, 1) := by decide +kernel
theorem dL_floors_69 : decode cL_floors 69 = .ok (.iconst 3, 1) := by decide +kernel
theorem dL_floors_70 : decode cL_floors 70 = .ok (.iaload, 1) := by decide +kernel
theorem dL_floors_71 : decode cL_floors 71 = .ok (.if_icmp .gt 10, 3) := by decide +kernel
theorem dL_floors_74 : decode cL_floors 74 = .ok (.iconst 1, 1) := by decide +kernel
theorem dL_floors_75 : decode cL_floors 75 = .ok (.iload 5, 2) := by decide +kernel
theorem dL_floors_77 : decode cL_floors 77 = .ok (.ishl, 1) := by decide +kernel
theorem dL_floors_78 : decode cL_floors 78 = .ok (.goto 4, 3) := by decide +kernel
theorem dL_floors_81 : decode cL_floors 81 = .ok (.iconst 0, 1) := by decide +kernel
theorem dL_floors_82 : decode cL_floors 82 = .ok (.ior, 1) := by decide +kernel
theorem dL_floors_83 : decode cL_floors 83 = .ok (.istore_n 2, 1) := by decide +kernel
theorem dL_floors_84 : decode cL_floors 84 = .ok (.iinc 6 1, 3) := by decide +kernel
theorem dL_floors_87 : decode cL_floors 87 = .ok (.goto (-60), 3) := by decide +kernel
theorem dL_floors_90 : decode cL_floors 90 = .ok (.iinc 5 1, 3) := by decide +kernel
theorem dL_floors_93 : decode cL_floors 93 = .ok (.goto (-75), 3) := by decide +kernel
theorem dL_floors_96 : decode cL_floors 96 = .ok (.iload_n 3, 1) := by decide +kernel
theorem dL_floors_97 : decode cL_floors 97 = .ok (.iload_n 2, 1) := by decide +kernel
theorem dL_floors_98 : decode cL_floors 98 = .ok (.aload_n 1, 1) := by decide +kernel
theorem dL_floors_99 : decode cL_floors 99 = .ok (.iconst 2, 1) := by decide +kernel
theorem dL_floors_100 : decode cL_floors 100 = .ok (.iaload, 1) := by decide +kernel
theorem dL_floors_101 : decode cL_floors 101 = .ok (.iand, 1) := by decide +kernel
theorem dL_floors_102 : decode cL_floors 102 = .ok (.ior, 1) := by decide +kernel
theorem dL_floors_103 : decode cL_floors 103 = .ok (.istore_n 3, 1) := by decide +kernel
theorem dL_floors_104 : decode cL_floors 104 = .ok (.iinc 4 1, 3) := by decide +kernel
theorem dL_floors_107 : decode cL_floors 107 = .ok (.goto (-98), 3) := by decide +kernel
theorem dL_floors_110 : decode cL_floors 110 = .ok (.iload_n 2, 1) := by decide +kernel
theorem dL_floors_111 : decode cL_floors 111 = .ok (.ireturn, 1) := by decide +kernel
set_option maxRecDepth 20000 in
theorem ggL_brings_L_floors : GoodIn wsL_brings wsL_floors := goodIn_r _ [4] (by decide +kernel) (by decide +kernel)
set_option maxRecDepth 20000 in
theorem gL_brings_L_floors : GoodIn wsL_brings (va_wsS RL 112 yL_floors wsL_floors) := goodIn_app (goodIn_of _ (by decide +kernel)) ggL_brings_L_floors
theorem dL_brings_0 : decode cL_brings 0 = .ok (.iload_n 0, 1) := by decide +kernel
theorem dL_brings_1 : decode cL_brings 1 = .ok (.iconst 2, 1) := by decide +kernel
theorem dL_brings_2 : decode cL_brings 2 = .ok (.idiv, 1) := by decide +kernel
theorem dL_brings_3 : decode cL_brings 3 = .ok (.aload_n 3, 1) := by decide +kernel
theorem dL_brings_4 : decode cL_brings 4 = .ok (.invokestatic 112, 3) := by decide +kernel
theorem dL_brings_7 : decode cL_brings 7 = .ok (.istore 6, 2) := by decide +kernel
theorem dL_brings_9 : decode cL_brings 9 = .ok (.iconst 0, 1) := by decide +kernel
theorem dL_brings_10 : decode cL_brings 10 = .ok (.istore 7, 2) := by decide +kernel
theorem dL_brings_12 : decode cL_brings 12 = .ok (.iload_n 2, 1) := by decide +kernel
theorem dL_brings_13 : decode cL_brings 13 = .ok (.iconst 2, 1) := by decide +kernel
theorem dL_brings_14 : decode cL_brings 14 = .ok (.if_icmp .ne 50, 3) := by decide +kernel
theorem dL_brings_17 : decode cL_brings 17 = .ok (.iconst 0, 1) := by decide +kernel
theorem dL_brings_18 : decode cL_brings 18 = .ok (.istore 8, 2) := by decide +kernel
theorem dL_brings_20 : decode cL_brings 20 = .ok (.iload 8, 2) := by decide +kernel
theorem dL_brings_22 : decode cL_brings 22 = .ok (.iconst 3, 1) := by decide +kernel
theorem dL_brings_23 : decode cL_brings 23 = .ok (.if_icmp .ge 38, 3) := by decide +kernel
theorem dL_brings_26 : decode cL_brings 26 = .ok (.iload 7, 2) := by decide +kernel
theorem dL_brings_28 : decode cL_brings 28 = .ok (.iload 6, 2) := by decide +kernel
theorem dL_brings_30 : decode cL_brings 30 = .ok (.iload 8, 2) := by decide +kernel
theorem dL_brings_32 : decode cL_brings 32 = .ok (.aload_n 3, 1) := by decide +kernel
theorem dL_brings_33 : decode cL_brings 33 = .ok (.iconst 0, 1) := by decide +kernel
theorem dL_brings_34 : decode cL_brings 34 = .ok (.iaload, 1) := by decide +kernel
theorem dL_brings_35 : decode cL_brings 35 = .ok (.iadd, 1) := by decide +kernel
theorem dL_brings_36 : decode cL_brings 36 = .ok (.iconst 3, 1) := by decide +kernel
theorem dL_brings_37 : decode cL_brings 37 = .ok (.irem, 1) := by decide +kernel
theorem dL_brings_38 : decode cL_brings 38 = .ok (.ishr, 1) := by decide +kernel
theorem dL_brings_39 : decode cL_brings 39 = .ok (.aload 5, 2) := by decide +kernel
theorem dL_brings_41 : decode cL_brings 41 = .ok (.iload 8, 2) := by decide +kernel
theorem dL_brings_43 : decode cL_brings 43 = .ok (.iaload, 1) := by decide +kernel
theorem dL_brings_44 : decode cL_brings 44 = .ok (.iload_n 1, 1) := by decide +kernel
theorem dL_brings_45 : decode cL_brings 45 = .ok (.ishr, 1) := by decide +kernel
theorem dL_brings_46 : decode cL_brings 46 = .ok (.iand, 1) := by decide +kernel
theorem dL_brings_47 : decode cL_brings 47 = .ok (.iconst 1, 1) := by decide +kernel
theorem dL_brings_48 : decode cL_brings 48 = .ok (.iand, 1) := by decide +kernel
theorem dL_brings_49 : decode cL_brings 49 = .ok (.iload 8, 2) := by decide +kernel
theorem dL_brings_51 : decode cL_brings 51 = .ok (.ishl, 1) := by decide +kernel
theorem dL_brings_52 : decode cL_brings 52 = .ok (.ior, 1) := by decide +kernel
theorem dL_brings_53 : decode cL_brings 53 = .ok (.istore 7, 2) := by decide +kernel
theorem dL_brings_55 : decode cL_brings 55 = .ok (.iinc 8 1, 3) := by decide +kernel
theorem dL_brings_58 : decode cL_brings 58 = .ok (.goto (-38), 3) := by decide +kernel
theorem dL_brings_61 : decode cL_brings 61 = .ok (.iload 7, 2) := by decide +kernel
theorem dL_brings_63 : decode cL_brings 63 = .ok (.ireturn, 1) := by decide +kernel
theorem dL_brings_64 : decode cL_brings 64 = .ok (.iconst 0, 1) := by decide +kernel
theorem dL_brings_65 : decode cL_brings 65 = .ok (.istore 8, 2) := by decide +kernel
theorem dL_brings_67 : decode cL_brings 67 = .ok (.iload 8, 2) := by decide +kernel
theorem dL_brings_69 : decode cL_brings 69 = .ok (.bipush 6, 2) := by decide +kernel
theorem dL_brings_71 : decode cL_brings 71 = .ok (.if_icmp .ge 96, 3) := by decide +kernel
theorem dL_brings_74 : decode cL_brings 74 = .ok (.iload 8, 2) := by decide +kernel
theorem dL_brings_76 : decode cL_brings 76 = .ok (.iload_n 0, 1) := by decide +kernel
theorem dL_brings_77 : decode cL_brings 77 = .ok (.if_icmp .eq 40, 3) := by decide +kernel
theorem dL_brings_80 : decode cL_brings 80 = .ok (.iload 6, 2) := by decide +kernel
theorem dL_brings_82 : decode cL_brings 82 = .ok (.iload 8, 2) := by decide +kernel
theorem dL_brings_84 : decode cL_brings 84 = .ok (.iconst 2, 1) := by decide +kernel
theorem dL_brings_85 : decode cL_brings 85 = .ok (.idiv, 1) := by decide +kernel
theorem dL_brings_86 : decode cL_brings 86 = .ok (.ishr, 1) := by decide +kernel
theorem dL_brings_87 : decode cL_brings 87 = .ok (.iconst 1, 1) := by decide +kernel
theorem dL_brings_88 : decode cL_brings 88 = .ok (.iand, 1) := by decide +kernel
theorem dL_brings_89 : decode cL_brings 89 = .ok (.iconst 1, 1) := by decide +kernel
theorem dL_brings_90 : decode cL_brings 90 = .ok (.if_icmp .ne 27, 3) := by decide +kernel
theorem dL_brings_93 : decode cL_brings 93 = .ok (.iload_n 2, 1) := by decide +kernel
theorem dL_brings_94 : decode cL_brings 94 = .ok (.ifCond .eq 19, 3) := by decide +kernel
theorem dL_brings_97 : decode cL_brings 97 = .ok (.aload 4, 2) := by decide +kernel
theorem dL_brings_99 : decode cL_brings 99 = .ok (.iconst 5, 1) := by decide +kernel
theorem dL_brings_100 : decode cL_brings 100 = .ok (.iload 8, 2) := by decide +kernel
theorem dL_brings_102 : decode cL_brings 102 = .ok (.imul, 1) := by decide +kernel
theorem dL_brings_103 : decode cL_brings 103 = .ok (.iaload, 1) := by decide +kernel
theorem dL_brings_104 : decode cL_brings 104 = .ok (.aload 4, 2) := by decide +kernel
theorem dL_brings_106 : decode cL_brings 106 = .ok (.iconst 5, 1) := by decide +kernel
theorem dL_brings_107 : decode cL_brings 107 = .ok (.iload_n 0, 1) := by decide +kernel
theorem dL_brings_108 : decode cL_brings 108 = .ok (.imul, 1) := by decide +kernel
theorem dL_brings_109 : decode cL_brings 109 = .ok (.iaload, 1) := by decide +kernel
theorem dL_brings_110 : decode cL_brings 110 = .ok (.if_icmp .ne 7, 3) := by decide +kernel
theorem dL_brings_113 : decode cL_brings 113 = .ok (.iconst 1, 1) := by decide +kernel
theorem dL_brings_114 : decode cL_brings 114 = .ok (.goto 4, 3) := by decide +kernel
theorem dL_brings_117 : decode cL_brings 117 = .ok (.iconst 0, 1) := by decide +kernel
theorem dL_brings_118 : decode cL_brings 118 = .ok (.istore 9, 2) := by decide +kernel
theorem dL_brings_120 : decode cL_brings 120 = .ok (.iload 7, 2) := by decide +kernel
theorem dL_brings_122 : decode cL_brings 122 = .ok (.iload 9, 2) := by decide +kernel
theorem dL_brings_124 : decode cL_brings 124 = .ok (.ifCond .eq 33, 3) := by decide +kernel
theorem dL_brings_127 : decode cL_brings 127 = .ok (.iload_n 2, 1) := by decide +kernel
theorem dL_brings_128 : decode cL_brings 128 = .ok (.iconst 3, 1) := by decide +kernel
theorem dL_brings_129 : decode cL_brings 129 = .ok (.if_icmp .lt 21, 3) := by decide +kernel
theorem dL_brings_132 : decode cL_brings 132 = .ok (.iload_n 1, 1) := by decide +kernel
theorem dL_brings_133 : decode cL_brings 133 = .ok (.bipush 11, 2) := by decide +kernel
theorem dL_brings_135 : decode cL_brings 135 = .ok (.if_icmp .le 22, 3) := by decide +kernel
theorem dL_brings_138 : decode cL_brings 138 = .ok (.aload 4, 2) := by decide +kernel
theorem dL_brings_140 : decode cL_brings 140 = .ok (.iconst 5, 1) := by decide +kernel
theorem dL_brings_141 : decode cL_brings 141 = .ok (.iload_n 0, 1) := by decide +kernel
theorem dL_brings_142 : decode cL_brings 142 = .ok (.imul, 1) := by decide +kernel
theorem dL_brings_143 : decode cL_brings 143 = .ok (.iaload, 1) := by decide +kernel
theorem dL_brings_144 : decode cL_brings 144 = .ok (.aload_n 3, 1) := by decide +kernel
theorem dL_brings_145 : decode cL_brings 145 = .ok (.iconst 1, 1) := by decide +kernel
theorem dL_brings_146 : decode cL_brings 146 = .ok (.iaload, 1) := by decide +kernel
theorem dL_brings_147 : decode cL_brings 147 = .ok (.if_icmp .ne 10, 3) := by decide +kernel
theorem dL_brings_150 : decode cL_brings 150 = .ok (.iconst 1, 1) := by decide +kernel
theorem dL_brings_151 : decode cL_brings 151 = .ok (.iload 8, 2) := by decide +kernel
theorem dL_brings_153 : decode cL_brings 153 = .ok (.ishl, 1) := by decide +kernel
theorem dL_brings_154 : decode cL_brings 154 = .ok (.goto 4, 3) := by decide +kernel
theorem dL_brings_157 : decode cL_brings 157 = .ok (.iconst 0, 1) := by decide +kernel
theorem dL_brings_158 : decode cL_brings 158 = .ok (.ior, 1) := by decide +kernel
theorem dL_brings_159 : decode cL_brings 159 = .ok (.istore 7, 2) := by decide +kernel
theorem dL_brings_161 : decode cL_brings 161 = .ok (.iinc 8 1, 3) := by decide +kernel
theorem dL_brings_164 : decode cL_brings 164 = .ok (.goto (-97), 3) := by decide +kernel
theorem dL_brings_167 : decode cL_brings 167 = .ok (.iload 7, 2) := by decide +kernel
theorem dL_brings_169 : decode cL_brings 169 = .ok (.ireturn, 1) := by decide +kernel
theorem dL_ones_0 : decode cL_ones 0 = .ok (.iconst 0, 1) := by decide +kernel
theorem dL_ones_1 : decode cL_ones 1 = .ok (.istore_n 1, 1) := by decide +kernel
theorem dL_ones_2 : decode cL_ones 2 = .ok (.iload_n 0, 1) := by decide +kernel
theorem dL_ones_3 : decode cL_ones 3 = .ok (.istore_n 2, 1) := by decide +kernel
theorem dL_ones_4 : decode cL_ones 4 = .ok (.iload_n 2, 1) := by decide +kernel
theorem dL_ones_5 : decode cL_ones 5 = .ok (.ifCond .eq 15, 3) := by decide +kernel
theorem dL_ones_8 : decode cL_ones 8 = .ok (.iinc 1 1, 3) := by decide +kernel
theorem dL_ones_11 : decode cL_ones 11 = .ok (.iload_n 2, 1) := by decide +kernel
theorem dL_ones_12 : decode cL_ones 12 = .ok (.iload_n 2, 1) := by decide +kernel
theorem dL_ones_13 : decode cL_ones 13 = .ok (.iconst 1, 1) := by decide +kernel
theorem dL_ones_14 : decode cL_ones 14 = .ok (.isub, 1) := by decide +kernel
theorem dL_ones_15 : decode cL_ones 15 = .ok (.iand, 1) := by decide +kernel
theorem dL_ones_16 : decode cL_ones 16 = .ok (.istore_n 2, 1) := by decide +kernel
theorem dL_ones_17 : decode cL_ones 17 = .ok (.goto (-13), 3) := by decide +kernel
theorem dL_ones_20 : decode cL_ones 20 = .ok (.iload_n 1, 1) := by decide +kernel
theorem dL_ones_21 : decode cL_ones 21 = .ok (.ireturn, 1) := by decide +kernel
theorem dL_why_0 : decode cL_why 0 = .ok (.aload 4, 2) := by decide +kernel
theorem dL_why_2 : decode cL_why 2 = .ok (.iconst 5, 1) := by decide +kernel
theorem dL_why_3 : decode cL_why 3 = .ok (.iload_n 0, 1) := by decide +kernel
theorem dL_why_4 : decode cL_why 4 = .ok (.imul, 1) := by decide +kernel
theorem dL_why_5 : decode cL_why 5 = .ok (.iconst 1, 1) := by decide +kernel
theorem dL_why_6 : decode cL_why 6 = .ok (.iadd, 1) := by decide +kernel
theorem dL_why_7 : decode cL_why 7 = .ok (.iaload, 1) := by decide +kernel
theorem dL_why_8 : decode cL_why 8 = .ok (.aload_n 2, 1) := by decide +kernel
theorem dL_why_9 : decode cL_why 9 = .ok (.iconst 4, 1) := by decide +kernel
theorem dL_why_10 : decode cL_why 10 = .ok (.iaload, 1) := by decide +kernel
theorem dL_why_11 : decode cL_why 11 = .ok (.if_icmp .lt 7, 3) := by decide +kernel
theorem dL_why_14 : decode cL_why 14 = .ok (.iconst 1, 1) := by decide +kernel
theorem dL_why_15 : decode cL_why 15 = .ok (.goto 14, 3) := by decide +kernel
theorem dL_why_18 : decode cL_why 18 = .ok (.aload_n 3, 1) := by decide +kernel
theorem dL_why_19 : decode cL_why 19 = .ok (.iload_n 1, 1) := by decide +kernel
theorem dL_why_20 : decode cL_why 20 = .ok (.iaload, 1) := by decide +kernel
theorem dL_why_21 : decode cL_why 21 = .ok (.ifCond .ne 7, 3) := by decide +kernel
theorem dL_why_24 : decode cL_why 24 = .ok (.iconst 2, 1) := by decide +kernel
theorem dL_why_25 : decode cL_why 25 = .ok (.goto 4, 3) := by decide +kernel
theorem dL_why_28 : decode cL_why 28 = .ok (.iconst 0, 1) := by decide +kernel
theorem dL_why_29 : decode cL_why 29 = .ok (.ireturn, 1) := by decide +kernel
set_option maxRecDepth 20000 in
theorem ggL_whistles_L_why : GoodIn wsL_whistles wsL_why := goodIn_r _ [4] (by decide +kernel) (by decide +kernel)
set_option maxRecDepth 20000 in
theorem gL_whistles_L_why : GoodIn wsL_whistles (va_wsS RL 116 yL_why wsL_why) := goodIn_app (goodIn_of _ (by decide +kernel)) ggL_whistles_L_why
set_option maxRecDepth 20000 in
theorem ggL_whistles_L_floors : GoodIn wsL_whistles wsL_floors := goodIn_r _ [7] (by decide +kernel) (by decide +kernel)
set_option maxRecDepth 20000 in
theorem gL_whistles_L_floors : GoodIn wsL_whistles (va_wsS RL 112 yL_floors wsL_floors) := goodIn_app (goodIn_of _ (by decide +kernel)) ggL_whistles_L_floors
set_option maxRecDepth 20000 in
theorem ggL_whistles_L_brings : GoodIn wsL_whistles wsL_brings := goodIn_r _ [10, 5, 6, 3, 7] (by decide +kernel) (by decide +kernel)
set_option maxRecDepth 20000 in
theorem gL_whistles_L_brings : GoodIn wsL_whistles (va_wsS RL 120 yL_brings wsL_brings) := goodIn_app (goodIn_of _ (by decide +kernel)) ggL_whistles_L_brings
set_option maxRecDepth 20000 in
theorem ggL_whistles_L_ones : GoodIn wsL_whistles wsL_ones := goodIn_r _ [13] (by decide +kernel) (by decide +kernel)
set_option maxRecDepth 20000 in
theorem gL_whistles_L_ones : GoodIn wsL_whistles (va_wsS RL 124 yL_ones wsL_ones) := goodIn_app (goodIn_of _ (by decide +kernel)) ggL_whistles_L_ones
theorem dL_whistles_0 : decode cL_whistles 0 = .ok (.iload_n 0, 1) := by decide +kernel
theorem dL_whistles_1 : decode cL_whistles 1 = .ok (.iload_n 1, 1) := by decide +kernel
theorem dL_whistles_2 : decode cL_whistles 2 = .ok (.aload_n 2, 1) := by decide +kernel
theorem dL_whistles_3 : decode cL_whistles 3 = .ok (.aload_n 3, 1) := by decide +kernel
theorem dL_whistles_4 : decode cL_whistles 4 = .ok (.aload 4, 2) := by decide +kernel
theorem dL_whistles_6 : decode cL_whistles 6 = .ok (.invokestatic 116, 3) := by decide +kernel
theorem dL_whistles_9 : decode cL_whistles 9 = .ok (.ifCond .le 6, 3) := by decide +kernel
theorem dL_whistles_12 : decode cL_whistles 12 = .ok (.bipush (-103), 2) := by decide +kernel
theorem dL_whistles_14 : decode cL_whistles 14 = .ok (.ireturn, 1) := by decide +kernel
theorem dL_whistles_15 : decode cL_whistles 15 = .ok (.aload_n 2, 1) := by decide +kernel
theorem dL_whistles_16 : decode cL_whistles 16 = .ok (.bipush 6, 2) := by decide +kernel
theorem dL_whistles_18 : decode cL_whistles 18 = .ok (.iload_n 0, 1) := by decide +kernel
theorem dL_whistles_19 : decode cL_whistles 19 = .ok (.iastore, 1) := by decide +kernel
theorem dL_whistles_20 : decode cL_whistles 20 = .ok (.aload_n 2, 1) := by decide +kernel
theorem dL_whistles_21 : decode cL_whistles 21 = .ok (.bipush 7, 2) := by decide +kernel
theorem dL_whistles_23 : decode cL_whistles 23 = .ok (.iload_n 1, 1) := by decide +kernel
theorem dL_whistles_24 : decode cL_whistles 24 = .ok (.iastore, 1) := by decide +kernel
theorem dL_whistles_25 : decode cL_whistles 25 = .ok (.aload_n 2, 1) := by decide +kernel
theorem dL_whistles_26 : decode cL_whistles 26 = .ok (.bipush 8, 2) := by decide +kernel
theorem dL_whistles_28 : decode cL_whistles 28 = .ok (.iload_n 0, 1) := by decide +kernel
theorem dL_whistles_29 : decode cL_whistles 29 = .ok (.iconst 2, 1) := by decide +kernel
theorem dL_whistles_30 : decode cL_whistles 30 = .ok (.idiv, 1) := by decide +kernel
theorem dL_whistles_31 : decode cL_whistles 31 = .ok (.aload_n 2, 1) := by decide +kernel
theorem dL_whistles_32 : decode cL_whistles 32 = .ok (.invokestatic 112, 3) := by decide +kernel
theorem dL_whistles_35 : decode cL_whistles 35 = .ok (.iastore, 1) := by decide +kernel
theorem dL_whistles_36 : decode cL_whistles 36 = .ok (.aload_n 2, 1) := by decide +kernel
theorem dL_whistles_37 : decode cL_whistles 37 = .ok (.bipush 9, 2) := by decide +kernel
theorem dL_whistles_39 : decode cL_whistles 39 = .ok (.iload_n 0, 1) := by decide +kernel
theorem dL_whistles_40 : decode cL_whistles 40 = .ok (.iload_n 1, 1) := by decide +kernel
theorem dL_whistles_41 : decode cL_whistles 41 = .ok (.iconst 1, 1) := by decide +kernel
theorem dL_whistles_42 : decode cL_whistles 42 = .ok (.aload_n 2, 1) := by decide +kernel
theorem dL_whistles_43 : decode cL_whistles 43 = .ok (.aload 4, 2) := by decide +kernel
theorem dL_whistles_45 : decode cL_whistles 45 = .ok (.aload 5, 2) := by decide +kernel
theorem dL_whistles_47 : decode cL_whistles 47 = .ok (.invokestatic 120, 3) := by decide +kernel
theorem dL_whistles_50 : decode cL_whistles 50 = .ok (.iastore, 1) := by decide +kernel
theorem dL_whistles_51 : decode cL_whistles 51 = .ok (.aload_n 2, 1) := by decide +kernel
theorem dL_whistles_52 : decode cL_whistles 52 = .ok (.bipush 10, 2) := by decide +kernel
theorem dL_whistles_54 : decode cL_whistles 54 = .ok (.iload_n 0, 1) := by decide +kernel
theorem dL_whistles_55 : decode cL_whistles 55 = .ok (.iload_n 1, 1) := by decide +kernel
theorem dL_whistles_56 : decode cL_whistles 56 = .ok (.iconst 2, 1) := by decide +kernel
theorem dL_whistles_57 : decode cL_whistles 57 = .ok (.aload_n 2, 1) := by decide +kernel
theorem dL_whistles_58 : decode cL_whistles 58 = .ok (.aload 4, 2) := by decide +kernel
theorem dL_whistles_60 : decode cL_whistles 60 = .ok (.aload 5, 2) := by decide +kernel
theorem dL_whistles_62 : decode cL_whistles 62 = .ok (.invokestatic 120, 3) := by decide +kernel
theorem dL_whistles_65 : decode cL_whistles 65 = .ok (.iastore, 1) := by decide +kernel
theorem dL_whistles_66 : decode cL_whistles 66 = .ok (.aload_n 2, 1) := by decide +kernel
theorem dL_whistles_67 : decode cL_whistles 67 = .ok (.bipush 11, 2) := by decide +kernel
theorem dL_whistles_69 : decode cL_whistles 69 = .ok (.iload_n 0, 1) := by decide +kernel
theorem dL_whistles_70 : decode cL_whistles 70 = .ok (.iload_n 1, 1) := by decide +kernel
theorem dL_whistles_71 : decode cL_whistles 71 = .ok (.iconst 3, 1) := by decide +kernel
theorem dL_whistles_72 : decode cL_whistles 72 = .ok (.aload_n 2, 1) := by decide +kernel
theorem dL_whistles_73 : decode cL_whistles 73 = .ok (.aload 4, 2) := by decide +kernel
theorem dL_whistles_75 : decode cL_whistles 75 = .ok (.aload 5, 2) := by decide +kernel
theorem dL_whistles_77 : decode cL_whistles 77 = .ok (.invokestatic 120, 3) := by decide +kernel
theorem dL_whistles_80 : decode cL_whistles 80 = .ok (.iastore, 1) := by decide +kernel
theorem dL_whistles_81 : decode cL_whistles 81 = .ok (.iload_n 0, 1) := by decide +kernel
theorem dL_whistles_82 : decode cL_whistles 82 = .ok (.iload_n 1, 1) := by decide +kernel
theorem dL_whistles_83 : decode cL_whistles 83 = .ok (.iconst 0, 1) := by decide +kernel
theorem dL_whistles_84 : decode cL_whistles 84 = .ok (.aload_n 2, 1) := by decide +kernel
theorem dL_whistles_85 : decode cL_whistles 85 = .ok (.aload 4, 2) := by decide +kernel
theorem dL_whistles_87 : decode cL_whistles 87 = .ok (.aload 5, 2) := by decide +kernel
theorem dL_whistles_89 : decode cL_whistles 89 = .ok (.invokestatic 120, 3) := by decide +kernel
theorem dL_whistles_92 : decode cL_whistles 92 = .ok (.istore 6, 2) := by decide +kernel
theorem dL_whistles_94 : decode cL_whistles 94 = .ok (.iconst 0, 1) := by decide +kernel
theorem dL_whistles_95 : decode cL_whistles 95 = .ok (.istore 7, 2) := by decide +kernel
theorem dL_whistles_97 : decode cL_whistles 97 = .ok (.iload 7, 2) := by decide +kernel
theorem dL_whistles_99 : decode cL_whistles 99 = .ok (.bipush 6, 2) := by decide +kernel
theorem dL_whistles_101 : decode cL_whistles 101 = .ok (.if_icmp .ge 77, 3) := by decide +kernel
theorem dL_whistles_104 : decode cL_whistles 104 = .ok (.aload_n 2, 1) := by decide +kernel
theorem dL_whistles_105 : decode cL_whistles 105 = .ok (.bipush 9, 2) := by decide +kernel
theorem dL_whistles_107 : decode cL_whistles 107 = .ok (.iaload, 1) := by decide +kernel
theorem dL_whistles_108 : decode cL_whistles 108 = .ok (.iload 7, 2) := by decide +kernel
theorem dL_whistles_110 : decode cL_whistles 110 = .ok (.ishr, 1) := by decide +kernel
theorem dL_whistles_111 : decode cL_whistles 111 = .ok (.iconst 1, 1) := by decide +kernel
theorem dL_whistles_112 : decode cL_whistles 112 = .ok (.iand, 1) := by decide +kernel
theorem dL_whistles_113 : decode cL_whistles 113 = .ok (.istore 8, 2) := by decide +kernel
theorem dL_whistles_115 : decode cL_whistles 115 = .ok (.aload 4, 2) := by decide +kernel
theorem dL_whistles_117 : decode cL_whistles 117 = .ok (.iconst 5, 1) := by decide +kernel
theorem dL_whistles_118 : decode cL_whistles 118 = .ok (.iload 7, 2) := by decide +kernel
theorem dL_whistles_120 : decode cL_whistles 120 = .ok (.imul, 1) := by decide +kernel
theorem dL_whistles_121 : decode cL_whistles 121 = .ok (.iconst 3, 1) := by decide +kernel
theorem dL_whistles_122 : decode cL_whistles 122 = .ok (.iadd, 1) := by decide +kernel
theorem dL_whistles_123 : decode cL_whistles 123 = .ok (.dup2, 1) := by decide +kernel
theorem dL_whistles_124 : decode cL_whistles 124 = .ok (.iaload, 1) := by decide +kernel
theorem dL_whistles_125 : decode cL_whistles 125 = .ok (.iload 8, 2) := by decide +kernel
theorem dL_whistles_127 : decode cL_whistles 127 = .ok (.iadd, 1) := by decide +kernel
theorem dL_whistles_128 : decode cL_whistles 128 = .ok (.iastore, 1) := by decide +kernel
theorem dL_whistles_129 : decode cL_whistles 129 = .ok (.aload 4, 2) := by decide +kernel
theorem dL_whistles_131 : decode cL_whistles 131 = .ok (.iconst 5, 1) := by decide +kernel
theorem dL_whistles_132 : decode cL_whistles 132 = .ok (.iload 7, 2) := by decide +kernel
theorem dL_whistles_134 : decode cL_whistles 134 = .ok (.imul, 1) := by decide +kernel
theorem dL_whistles_135 : decode cL_whistles 135 = .ok (.iconst 4, 1) := by decide +kernel
theorem dL_whistles_136 : decode cL_whistles 136 = .ok (.iadd, 1) := by decide +kernel
theorem dL_whistles_137 : decode cL_whistles 137 = .ok (.dup2, 1) := by decide +kernel
theorem dL_whistles_138 : decode cL_whistles 138 = .ok (.iaload, 1) := by decide +kernel
theorem dL_whistles_139 : decode cL_whistles 139 = .ok (.iload 6, 2) := by decide +kernel
theorem dL_whistles_141 : decode cL_whistles 141 = .ok (.iload 7, 2) := by decide +kernel
theorem dL_whistles_143 : decode cL_whistles 143 = .ok (.ishr, 1) := by decide +kernel
theorem dL_whistles_144 : decode cL_whistles 144 = .ok (.iconst 1, 1) := by decide +kernel
theorem dL_whistles_145 : decode cL_whistles 145 = .ok (.iand, 1) := by decide +kernel
theorem dL_whistles_146 : decode cL_whistles 146 = .ok (.iload 8, 2) := by decide +kernel
theorem dL_whistles_148 : decode cL_whistles 148 = .ok (.isub, 1) := by decide +kernel
theorem dL_whistles_149 : decode cL_whistles 149 = .ok (.iadd, 1) := by decide +kernel
theorem dL_whistles_150 : decode cL_whistles 150 = .ok (.iastore, 1) := by decide +kernel
theorem dL_whistles_151 : decode cL_whistles 151 = .ok (.aload 4, 2) := by decide +kernel
theorem dL_whistles_153 : decode cL_whistles 153 = .ok (.iconst 5, 1) := by decide +kernel
theorem dL_whistles_154 : decode cL_whistles 154 = .ok (.iload 7, 2) := by decide +kernel
theorem dL_whistles_156 : decode cL_whistles 156 = .ok (.imul, 1) := by decide +kernel
theorem dL_whistles_157 : decode cL_whistles 157 = .ok (.iconst 2, 1) := by decide +kernel
theorem dL_whistles_158 : decode cL_whistles 158 = .ok (.iadd, 1) := by decide +kernel
theorem dL_whistles_159 : decode cL_whistles 159 = .ok (.dup2, 1) := by decide +kernel
theorem dL_whistles_160 : decode cL_whistles 160 = .ok (.iaload, 1) := by decide +kernel
theorem dL_whistles_161 : decode cL_whistles 161 = .ok (.aload_n 2, 1) := by decide +kernel
