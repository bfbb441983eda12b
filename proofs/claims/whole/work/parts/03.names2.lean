theorem dX4_childOf_11 : decode cX4_childOf 11 = .ok (.iload_n 3, 1) := by decide +kernel
theorem dX4_childOf_12 : decode cX4_childOf 12 = .ok (.aload_n 0, 1) := by decide +kernel
theorem dX4_childOf_13 : decode cX4_childOf 13 = .ok (.getfield 11, 3) := by decide +kernel
theorem dX4_childOf_16 : decode cX4_childOf 16 = .ok (.arraylength, 1) := by decide +kernel
theorem dX4_childOf_17 : decode cX4_childOf 17 = .ok (.if_icmp .ge 12, 3) := by decide +kernel
theorem dX4_childOf_20 : decode cX4_childOf 20 = .ok (.aload_n 0, 1) := by decide +kernel
theorem dX4_childOf_21 : decode cX4_childOf 21 = .ok (.getfield 11, 3) := by decide +kernel
theorem dX4_childOf_24 : decode cX4_childOf 24 = .ok (.iload_n 3, 1) := by decide +kernel
theorem dX4_childOf_25 : decode cX4_childOf 25 = .ok (.iaload, 1) := by decide +kernel
theorem dX4_childOf_26 : decode cX4_childOf 26 = .ok (.goto 4, 3) := by decide +kernel
theorem dX4_childOf_29 : decode cX4_childOf 29 = .ok (.iconst 0, 1) := by decide +kernel
theorem dX4_childOf_30 : decode cX4_childOf 30 = .ok (.ireturn, 1) := by decide +kernel
set_option maxRecDepth 20000 in
theorem ggX4_addShape_X3_noteAt : GoodIn wsX4_addShape wsX3_noteAt := goodIn_r _ [7, 8, 20, 21, 22, 23, 24, 25, 26, 27, 28, 29, 30, 31, 32, 33, 34, 35] (by decide +kernel) (by decide +kernel)
set_option maxRecDepth 20000 in
theorem gX4_addShape_X3_noteAt : GoodIn wsX4_addShape (wsV RX4 50 RX3 yX3_noteAt wsX3_noteAt) := goodIn_app (goodIn_of _ (by decide +kernel)) ggX4_addShape_X3_noteAt
set_option maxRecDepth 20000 in
theorem ggX4_addShape_J9_floorMod_7cf53 : GoodIn wsX4_addShape wsJ9_floorMod_7cf53 := goodIn_r _ [12] (by decide +kernel) (by decide +kernel)
set_option maxRecDepth 20000 in
theorem gX4_addShape_J9_floorMod_7cf53 : GoodIn wsX4_addShape (va_wsS RX4 53 yJ9_floorMod_7cf53 wsJ9_floorMod_7cf53) := goodIn_app (goodIn_of _ (by decide +kernel)) ggX4_addShape_J9_floorMod_7cf53
set_option maxRecDepth 20000 in
theorem ggX4_addShape_X4_childFor : GoodIn wsX4_addShape wsX4_childFor := goodIn_r _ [17, 18, 19, 36, 37, 38] (by decide +kernel) (by decide +kernel)
set_option maxRecDepth 20000 in
theorem gX4_addShape_X4_childFor : GoodIn wsX4_addShape (wsV RX4 58 RX4 yX4_childFor wsX4_childFor) := goodIn_app (goodIn_of _ (by decide +kernel)) ggX4_addShape_X4_childFor
theorem dX4_addShape_0 : decode cX4_addShape 0 = .ok (.aload_n 1, 1) := by decide +kernel
theorem dX4_addShape_1 : decode cX4_addShape 1 = .ok (.iload_n 2, 1) := by decide +kernel
theorem dX4_addShape_2 : decode cX4_addShape 2 = .ok (.iconst 0, 1) := by decide +kernel
theorem dX4_addShape_3 : decode cX4_addShape 3 = .ok (.invokevirtual 50, 3) := by decide +kernel
theorem dX4_addShape_6 : decode cX4_addShape 6 = .ok (.istore_n 3, 1) := by decide +kernel
theorem dX4_addShape_7 : decode cX4_addShape 7 = .ok (.iconst 0, 1) := by decide +kernel
theorem dX4_addShape_8 : decode cX4_addShape 8 = .ok (.istore 4, 2) := by decide +kernel
theorem dX4_addShape_10 : decode cX4_addShape 10 = .ok (.iconst 0, 1) := by decide +kernel
theorem dX4_addShape_11 : decode cX4_addShape 11 = .ok (.istore 5, 2) := by decide +kernel
theorem dX4_addShape_13 : decode cX4_addShape 13 = .ok (.iload 5, 2) := by decide +kernel
theorem dX4_addShape_15 : decode cX4_addShape 15 = .ok (.aload_n 1, 1) := by decide +kernel
theorem dX4_addShape_16 : decode cX4_addShape 16 = .ok (.getfield 28, 3) := by decide +kernel
theorem dX4_addShape_19 : decode cX4_addShape 19 = .ok (.iload_n 2, 1) := by decide +kernel
theorem dX4_addShape_20 : decode cX4_addShape 20 = .ok (.iaload, 1) := by decide +kernel
theorem dX4_addShape_21 : decode cX4_addShape 21 = .ok (.if_icmp .ge 31, 3) := by decide +kernel
theorem dX4_addShape_24 : decode cX4_addShape 24 = .ok (.aload_n 0, 1) := by decide +kernel
theorem dX4_addShape_25 : decode cX4_addShape 25 = .ok (.iload 4, 2) := by decide +kernel
theorem dX4_addShape_27 : decode cX4_addShape 27 = .ok (.aload_n 1, 1) := by decide +kernel
theorem dX4_addShape_28 : decode cX4_addShape 28 = .ok (.iload_n 2, 1) := by decide +kernel
theorem dX4_addShape_29 : decode cX4_addShape 29 = .ok (.iload 5, 2) := by decide +kernel
theorem dX4_addShape_31 : decode cX4_addShape 31 = .ok (.invokevirtual 50, 3) := by decide +kernel
theorem dX4_addShape_34 : decode cX4_addShape 34 = .ok (.iload_n 3, 1) := by decide +kernel
theorem dX4_addShape_35 : decode cX4_addShape 35 = .ok (.isub, 1) := by decide +kernel
theorem dX4_addShape_36 : decode cX4_addShape 36 = .ok (.bipush 7, 2) := by decide +kernel
theorem dX4_addShape_38 : decode cX4_addShape 38 = .ok (.invokestatic 53, 3) := by decide +kernel
theorem dX4_addShape_41 : decode cX4_addShape 41 = .ok (.invokevirtual 58, 3) := by decide +kernel
theorem dX4_addShape_44 : decode cX4_addShape 44 = .ok (.istore 4, 2) := by decide +kernel
theorem dX4_addShape_46 : decode cX4_addShape 46 = .ok (.iinc 5 1, 3) := by decide +kernel
theorem dX4_addShape_49 : decode cX4_addShape 49 = .ok (.goto (-36), 3) := by decide +kernel
theorem dX4_addShape_52 : decode cX4_addShape 52 = .ok (.iload 4, 2) := by decide +kernel
theorem dX4_addShape_54 : decode cX4_addShape 54 = .ok (.sipush 161, 3) := by decide +kernel
theorem dX4_addShape_57 : decode cX4_addShape 57 = .ok (.if_icmp .ge 11, 3) := by decide +kernel
theorem dX4_addShape_60 : decode cX4_addShape 60 = .ok (.aload_n 0, 1) := by decide +kernel
theorem dX4_addShape_61 : decode cX4_addShape 61 = .ok (.getfield 15, 3) := by decide +kernel
theorem dX4_addShape_64 : decode cX4_addShape 64 = .ok (.iload 4, 2) := by decide +kernel
theorem dX4_addShape_66 : decode cX4_addShape 66 = .ok (.iload_n 2, 1) := by decide +kernel
theorem dX4_addShape_67 : decode cX4_addShape 67 = .ok (.iastore, 1) := by decide +kernel
theorem dX4_addShape_68 : decode cX4_addShape 68 = .ok (.return_, 1) := by decide +kernel
theorem dX4_childFor_0 : decode cX4_childFor 0 = .ok (.iload_n 1, 1) := by decide +kernel
theorem dX4_childFor_1 : decode cX4_childFor 1 = .ok (.bipush 7, 2) := by decide +kernel
theorem dX4_childFor_3 : decode cX4_childFor 3 = .ok (.imul, 1) := by decide +kernel
theorem dX4_childFor_4 : decode cX4_childFor 4 = .ok (.iload_n 2, 1) := by decide +kernel
theorem dX4_childFor_5 : decode cX4_childFor 5 = .ok (.iadd, 1) := by decide +kernel
theorem dX4_childFor_6 : decode cX4_childFor 6 = .ok (.istore_n 3, 1) := by decide +kernel
theorem dX4_childFor_7 : decode cX4_childFor 7 = .ok (.iload_n 3, 1) := by decide +kernel
theorem dX4_childFor_8 : decode cX4_childFor 8 = .ok (.ifCond .lt 12, 3) := by decide +kernel
theorem dX4_childFor_11 : decode cX4_childFor 11 = .ok (.iload_n 3, 1) := by decide +kernel
theorem dX4_childFor_12 : decode cX4_childFor 12 = .ok (.aload_n 0, 1) := by decide +kernel
theorem dX4_childFor_13 : decode cX4_childFor 13 = .ok (.getfield 11, 3) := by decide +kernel
theorem dX4_childFor_16 : decode cX4_childFor 16 = .ok (.arraylength, 1) := by decide +kernel
theorem dX4_childFor_17 : decode cX4_childFor 17 = .ok (.if_icmp .lt 5, 3) := by decide +kernel
theorem dX4_childFor_20 : decode cX4_childFor 20 = .ok (.iconst 0, 1) := by decide +kernel
theorem dX4_childFor_21 : decode cX4_childFor 21 = .ok (.ireturn, 1) := by decide +kernel
theorem dX4_childFor_22 : decode cX4_childFor 22 = .ok (.aload_n 0, 1) := by decide +kernel
theorem dX4_childFor_23 : decode cX4_childFor 23 = .ok (.getfield 11, 3) := by decide +kernel
theorem dX4_childFor_26 : decode cX4_childFor 26 = .ok (.iload_n 3, 1) := by decide +kernel
theorem dX4_childFor_27 : decode cX4_childFor 27 = .ok (.iaload, 1) := by decide +kernel
theorem dX4_childFor_28 : decode cX4_childFor 28 = .ok (.ifCond .ne 35, 3) := by decide +kernel
theorem dX4_childFor_31 : decode cX4_childFor 31 = .ok (.aload_n 0, 1) := by decide +kernel
theorem dX4_childFor_32 : decode cX4_childFor 32 = .ok (.getfield 24, 3) := by decide +kernel
theorem dX4_childFor_35 : decode cX4_childFor 35 = .ok (.iconst 1, 1) := by decide +kernel
theorem dX4_childFor_36 : decode cX4_childFor 36 = .ok (.iadd, 1) := by decide +kernel
theorem dX4_childFor_37 : decode cX4_childFor 37 = .ok (.sipush 161, 3) := by decide +kernel
theorem dX4_childFor_40 : decode cX4_childFor 40 = .ok (.if_icmp .ge 23, 3) := by decide +kernel
theorem dX4_childFor_43 : decode cX4_childFor 43 = .ok (.aload_n 0, 1) := by decide +kernel
theorem dX4_childFor_44 : decode cX4_childFor 44 = .ok (.dup, 1) := by decide +kernel
theorem dX4_childFor_45 : decode cX4_childFor 45 = .ok (.getfield 24, 3) := by decide +kernel
theorem dX4_childFor_48 : decode cX4_childFor 48 = .ok (.iconst 1, 1) := by decide +kernel
theorem dX4_childFor_49 : decode cX4_childFor 49 = .ok (.iadd, 1) := by decide +kernel
theorem dX4_childFor_50 : decode cX4_childFor 50 = .ok (.putfield 24, 3) := by decide +kernel
theorem dX4_childFor_53 : decode cX4_childFor 53 = .ok (.aload_n 0, 1) := by decide +kernel
theorem dX4_childFor_54 : decode cX4_childFor 54 = .ok (.getfield 11, 3) := by decide +kernel
theorem dX4_childFor_57 : decode cX4_childFor 57 = .ok (.iload_n 3, 1) := by decide +kernel
theorem dX4_childFor_58 : decode cX4_childFor 58 = .ok (.aload_n 0, 1) := by decide +kernel
theorem dX4_childFor_59 : decode cX4_childFor 59 = .ok (.getfield 24, 3) := by decide +kernel
theorem dX4_childFor_62 : decode cX4_childFor 62 = .ok (.iastore, 1) := by decide +kernel
theorem dX4_childFor_63 : decode cX4_childFor 63 = .ok (.aload_n 0, 1) := by decide +kernel
theorem dX4_childFor_64 : decode cX4_childFor 64 = .ok (.getfield 11, 3) := by decide +kernel
theorem dX4_childFor_67 : decode cX4_childFor 67 = .ok (.iload_n 3, 1) := by decide +kernel
theorem dX4_childFor_68 : decode cX4_childFor 68 = .ok (.iaload, 1) := by decide +kernel
theorem dX4_childFor_69 : decode cX4_childFor 69 = .ok (.ireturn, 1) := by decide +kernel
theorem dX5_init_0 : decode cX5_init 0 = .ok (.aload_n 0, 1) := by decide +kernel
theorem dX5_init_1 : decode cX5_init 1 = .ok (.invokespecial 3, 3) := by decide +kernel
theorem dX5_init_4 : decode cX5_init 4 = .ok (.aload_n 0, 1) := by decide +kernel
theorem dX5_init_5 : decode cX5_init 5 = .ok (.bipush 60, 2) := by decide +kernel
theorem dX5_init_7 : decode cX5_init 7 = .ok (.newarray .char, 2) := by decide +kernel
theorem dX5_init_9 : decode cX5_init 9 = .ok (.putfield 9, 3) := by decide +kernel
theorem dX5_init_12 : decode cX5_init 12 = .ok (.return_, 1) := by decide +kernel
theorem dX5_add_0 : decode cX5_add 0 = .ok (.aload_n 0, 1) := by decide +kernel
theorem dX5_add_1 : decode cX5_add 1 = .ok (.getfield 15, 3) := by decide +kernel
theorem dX5_add_4 : decode cX5_add 4 = .ok (.bipush 60, 2) := by decide +kernel
theorem dX5_add_6 : decode cX5_add 6 = .ok (.if_icmp .ge 23, 3) := by decide +kernel
theorem dX5_add_9 : decode cX5_add 9 = .ok (.aload_n 0, 1) := by decide +kernel
theorem dX5_add_10 : decode cX5_add 10 = .ok (.getfield 9, 3) := by decide +kernel
theorem dX5_add_13 : decode cX5_add 13 = .ok (.aload_n 0, 1) := by decide +kernel
theorem dX5_add_14 : decode cX5_add 14 = .ok (.getfield 15, 3) := by decide +kernel
theorem dX5_add_17 : decode cX5_add 17 = .ok (.iload_n 1, 1) := by decide +kernel
theorem dX5_add_18 : decode cX5_add 18 = .ok (.castore, 1) := by decide +kernel
theorem dX5_add_19 : decode cX5_add 19 = .ok (.aload_n 0, 1) := by decide +kernel
theorem dX5_add_20 : decode cX5_add 20 = .ok (.dup, 1) := by decide +kernel
theorem dX5_add_21 : decode cX5_add 21 = .ok (.getfield 15, 3) := by decide +kernel
theorem dX5_add_24 : decode cX5_add 24 = .ok (.iconst 1, 1) := by decide +kernel
theorem dX5_add_25 : decode cX5_add 25 = .ok (.iadd, 1) := by decide +kernel
theorem dX5_add_26 : decode cX5_add 26 = .ok (.putfield 15, 3) := by decide +kernel
theorem dX5_add_29 : decode cX5_add 29 = .ok (.return_, 1) := by decide +kernel
theorem dX5_empty_0 : decode cX5_empty 0 = .ok (.aload_n 0, 1) := by decide +kernel
theorem dX5_empty_1 : decode cX5_empty 1 = .ok (.iconst 0, 1) := by decide +kernel
theorem dX5_empty_2 : decode cX5_empty 2 = .ok (.putfield 15, 3) := by decide +kernel
theorem dX5_empty_5 : decode cX5_empty 5 = .ok (.return_, 1) := by decide +kernel
theorem dX5_at_0 : decode cX5_at 0 = .ok (.iload_n 1, 1) := by decide +kernel
theorem dX5_at_1 : decode cX5_at 1 = .ok (.ifCond .lt 20, 3) := by decide +kernel
theorem dX5_at_4 : decode cX5_at 4 = .ok (.iload_n 1, 1) := by decide +kernel
theorem dX5_at_5 : decode cX5_at 5 = .ok (.aload_n 0, 1) := by decide +kernel
theorem dX5_at_6 : decode cX5_at 6 = .ok (.getfield 15, 3) := by decide +kernel
theorem dX5_at_9 : decode cX5_at 9 = .ok (.if_icmp .ge 12, 3) := by decide +kernel
theorem dX5_at_12 : decode cX5_at 12 = .ok (.aload_n 0, 1) := by decide +kernel
theorem dX5_at_13 : decode cX5_at 13 = .ok (.getfield 9, 3) := by decide +kernel
theorem dX5_at_16 : decode cX5_at 16 = .ok (.iload_n 1, 1) := by decide +kernel
theorem dX5_at_17 : decode cX5_at 17 = .ok (.caload, 1) := by decide +kernel
theorem dX5_at_18 : decode cX5_at 18 = .ok (.goto 4, 3) := by decide +kernel
theorem dX5_at_21 : decode cX5_at 21 = .ok (.iconst 0, 1) := by decide +kernel
theorem dX5_at_22 : decode cX5_at 22 = .ok (.ireturn, 1) := by decide +kernel
set_option maxRecDepth 20000 in
theorem ggX5_numberIn_X5_at : GoodIn wsX5_numberIn wsX5_at := goodIn_r _ [5, 6, 7, 8, 9] (by decide +kernel) (by decide +kernel)
set_option maxRecDepth 20000 in
theorem gX5_numberIn_X5_at : GoodIn wsX5_numberIn (wsV RX5 19 RX5 yX5_at wsX5_at) := goodIn_app (goodIn_of _ (by decide +kernel)) ggX5_numberIn_X5_at
theorem dX5_numberIn_0 : decode cX5_numberIn 0 = .ok (.iconst 0, 1) := by decide +kernel
theorem dX5_numberIn_1 : decode cX5_numberIn 1 = .ok (.istore_n 3, 1) := by decide +kernel
theorem dX5_numberIn_2 : decode cX5_numberIn 2 = .ok (.iload_n 1, 1) := by decide +kernel
theorem dX5_numberIn_3 : decode cX5_numberIn 3 = .ok (.istore 4, 2) := by decide +kernel
theorem dX5_numberIn_5 : decode cX5_numberIn 5 = .ok (.iload 4, 2) := by decide +kernel
theorem dX5_numberIn_7 : decode cX5_numberIn 7 = .ok (.iload_n 2, 1) := by decide +kernel
theorem dX5_numberIn_8 : decode cX5_numberIn 8 = .ok (.if_icmp .ge 24, 3) := by decide +kernel
theorem dX5_numberIn_11 : decode cX5_numberIn 11 = .ok (.iload_n 3, 1) := by decide +kernel
theorem dX5_numberIn_12 : decode cX5_numberIn 12 = .ok (.bipush 10, 2) := by decide +kernel
theorem dX5_numberIn_14 : decode cX5_numberIn 14 = .ok (.imul, 1) := by decide +kernel
theorem dX5_numberIn_15 : decode cX5_numberIn 15 = .ok (.aload_n 0, 1) := by decide +kernel
theorem dX5_numberIn_16 : decode cX5_numberIn 16 = .ok (.iload 4, 2) := by decide +kernel
theorem dX5_numberIn_18 : decode cX5_numberIn 18 = .ok (.invokevirtual 19, 3) := by decide +kernel
theorem dX5_numberIn_21 : decode cX5_numberIn 21 = .ok (.bipush 48, 2) := by decide +kernel
theorem dX5_numberIn_23 : decode cX5_numberIn 23 = .ok (.isub, 1) := by decide +kernel
theorem dX5_numberIn_24 : decode cX5_numberIn 24 = .ok (.iadd, 1) := by decide +kernel
theorem dX5_numberIn_25 : decode cX5_numberIn 25 = .ok (.istore_n 3, 1) := by decide +kernel
theorem dX5_numberIn_26 : decode cX5_numberIn 26 = .ok (.iinc 4 1, 3) := by decide +kernel
theorem dX5_numberIn_29 : decode cX5_numberIn 29 = .ok (.goto (-24), 3) := by decide +kernel
theorem dX5_numberIn_32 : decode cX5_numberIn 32 = .ok (.iload_n 3, 1) := by decide +kernel
theorem dX5_numberIn_33 : decode cX5_numberIn 33 = .ok (.ireturn, 1) := by decide +kernel
theorem dX6_init_0 : decode cX6_init 0 = .ok (.aload_n 0, 1) := by decide +kernel
theorem dX6_init_1 : decode cX6_init 1 = .ok (.invokespecial 3, 3) := by decide +kernel
theorem dX6_init_4 : decode cX6_init 4 = .ok (.aload_n 0, 1) := by decide +kernel
theorem dX6_init_5 : decode cX6_init 5 = .ok (.bipush 9, 2) := by decide +kernel
theorem dX6_init_7 : decode cX6_init 7 = .ok (.newarray .int, 2) := by decide +kernel
theorem dX6_init_9 : decode cX6_init 9 = .ok (.putfield 11, 3) := by decide +kernel
theorem dX6_init_12 : decode cX6_init 12 = .ok (.aload_n 0, 1) := by decide +kernel
theorem dX6_init_13 : decode cX6_init 13 = .ok (.iconst 3, 1) := by decide +kernel
theorem dX6_init_14 : decode cX6_init 14 = .ok (.newarray .int, 2) := by decide +kernel
theorem dX6_init_16 : decode cX6_init 16 = .ok (.putfield 15, 3) := by decide +kernel
theorem dX6_init_19 : decode cX6_init 19 = .ok (.return_, 1) := by decide +kernel
theorem dX6_isOfTuneLength_0 : decode cX6_isOfTuneLength 0 = .ok (.aload_n 0, 1) := by decide +kernel
theorem dX6_isOfTuneLength_1 : decode cX6_isOfTuneLength 1 = .ok (.getfield 18, 3) := by decide +kernel
theorem dX6_isOfTuneLength_4 : decode cX6_isOfTuneLength 4 = .ok (.iconst 2, 1) := by decide +kernel
theorem dX6_isOfTuneLength_5 : decode cX6_isOfTuneLength 5 = .ok (.if_icmp .lt 16, 3) := by decide +kernel
theorem dX6_isOfTuneLength_8 : decode cX6_isOfTuneLength 8 = .ok (.aload_n 0, 1) := by decide +kernel
theorem dX6_isOfTuneLength_9 : decode cX6_isOfTuneLength 9 = .ok (.getfield 18, 3) := by decide +kernel
theorem dX6_isOfTuneLength_12 : decode cX6_isOfTuneLength 12 = .ok (.bipush 8, 2) := by decide +kernel
theorem dX6_isOfTuneLength_14 : decode cX6_isOfTuneLength 14 = .ok (.if_icmp .gt 7, 3) := by decide +kernel
theorem dX6_isOfTuneLength_17 : decode cX6_isOfTuneLength 17 = .ok (.iconst 1, 1) := by decide +kernel
theorem dX6_isOfTuneLength_18 : decode cX6_isOfTuneLength 18 = .ok (.goto 4, 3) := by decide +kernel
theorem dX6_isOfTuneLength_21 : decode cX6_isOfTuneLength 21 = .ok (.iconst 0, 1) := by decide +kernel
theorem dX6_isOfTuneLength_22 : decode cX6_isOfTuneLength 22 = .ok (.ireturn, 1) := by decide +kernel
set_option maxRecDepth 20000 in
theorem ggX6_shapeAt_J9_floorMod_7cf53 : GoodIn wsX6_shapeAt wsJ9_floorMod_7cf53 := goodIn_r _ [5] (by decide +kernel) (by decide +kernel)
set_option maxRecDepth 20000 in
theorem gX6_shapeAt_J9_floorMod_7cf53 : GoodIn wsX6_shapeAt (va_wsS RX6 22 yJ9_floorMod_7cf53 wsJ9_floorMod_7cf53) := goodIn_app (goodIn_of _ (by decide +kernel)) ggX6_shapeAt_J9_floorMod_7cf53
theorem dX6_shapeAt_0 : decode cX6_shapeAt 0 = .ok (.aload_n 0, 1) := by decide +kernel
theorem dX6_shapeAt_1 : decode cX6_shapeAt 1 = .ok (.getfield 11, 3) := by decide +kernel
theorem dX6_shapeAt_4 : decode cX6_shapeAt 4 = .ok (.iload_n 1, 1) := by decide +kernel
theorem dX6_shapeAt_5 : decode cX6_shapeAt 5 = .ok (.iaload, 1) := by decide +kernel
theorem dX6_shapeAt_6 : decode cX6_shapeAt 6 = .ok (.aload_n 0, 1) := by decide +kernel
theorem dX6_shapeAt_7 : decode cX6_shapeAt 7 = .ok (.getfield 11, 3) := by decide +kernel
theorem dX6_shapeAt_10 : decode cX6_shapeAt 10 = .ok (.iconst 0, 1) := by decide +kernel
theorem dX6_shapeAt_11 : decode cX6_shapeAt 11 = .ok (.iaload, 1) := by decide +kernel
theorem dX6_shapeAt_12 : decode cX6_shapeAt 12 = .ok (.isub, 1) := by decide +kernel
theorem dX6_shapeAt_13 : decode cX6_shapeAt 13 = .ok (.bipush 7, 2) := by decide +kernel
theorem dX6_shapeAt_15 : decode cX6_shapeAt 15 = .ok (.invokestatic 22, 3) := by decide +kernel
theorem dX6_shapeAt_18 : decode cX6_shapeAt 18 = .ok (.ireturn, 1) := by decide +kernel
set_option maxRecDepth 20000 in
theorem ggX6_read_X5_at : GoodIn wsX6_read wsX5_at := goodIn_r _ [7, 8, 9, 112, 113] (by decide +kernel) (by decide +kernel)
set_option maxRecDepth 20000 in
theorem gX6_read_X5_at : GoodIn wsX6_read (wsV RX6 28 RX5 yX5_at wsX5_at) := goodIn_app (goodIn_of _ (by decide +kernel)) ggX6_read_X5_at
set_option maxRecDepth 20000 in
theorem ggX6_read_J0_indexOf_0f7a4 : GoodIn wsX6_read wsJ0_indexOf_0f7a4 := goodIn_r _ [14, 15, 16, 17, 13, 18, 19, 20, 21, 22, 23, 24, 25, 26, 27, 28, 29, 30, 31, 32, 33, 34, 35, 36, 37, 38, 39, 40, 41, 42, 43, 44, 45, 46, 47, 48, 49, 50, 51, 52, 53, 54, 55, 56, 57, 58, 59, 60, 61, 62, 63, 64, 65, 66, 67, 68, 69, 70, 71, 72, 73, 74, 75, 76, 77, 78, 79, 80, 81, 82, 83, 84, 85, 86, 87, 88, 89, 90, 91, 92, 93, 94, 95, 96, 97, 98] (by decide +kernel) (by decide +kernel)
set_option maxRecDepth 20000 in
theorem gX6_read_J0_indexOf_0f7a4 : GoodIn wsX6_read (wsV RX6 36 RJ0 yJ0_indexOf_0f7a4 wsJ0_indexOf_0f7a4) := goodIn_app (goodIn_of _ (by decide +kernel)) ggX6_read_J0_indexOf_0f7a4
set_option maxRecDepth 20000 in
theorem ggX6_read_X6_add : GoodIn wsX6_read wsX6_add := goodIn_r _ [103, 1, 104, 109, 110, 111] (by decide +kernel) (by decide +kernel)
set_option maxRecDepth 20000 in
theorem gX6_read_X6_add : GoodIn wsX6_read (wsV RX6 42 RX6 yX6_add wsX6_add) := goodIn_app (goodIn_of _ (by decide +kernel)) ggX6_read_X6_add
set_option maxRecDepth 20000 in
theorem ggX6_read_X6_repeatFrom : GoodIn wsX6_read wsX6_repeatFrom := goodIn_r _ [108, 1, 104, 99, 100, 101, 102, 103, 109, 110, 111] (by decide +kernel) (by decide +kernel)
set_option maxRecDepth 20000 in
theorem gX6_read_X6_repeatFrom : GoodIn wsX6_read (wsV RX6 46 RX6 yX6_repeatFrom wsX6_repeatFrom) := goodIn_app (goodIn_of _ (by decide +kernel)) ggX6_read_X6_repeatFrom
theorem dX6_read_0 : decode cX6_read 0 = .ok (.aload_n 0, 1) := by decide +kernel
theorem dX6_read_1 : decode cX6_read 1 = .ok (.iconst 0, 1) := by decide +kernel
theorem dX6_read_2 : decode cX6_read 2 = .ok (.putfield 18, 3) := by decide +kernel
theorem dX6_read_5 : decode cX6_read 5 = .ok (.iconst 0, 1) := by decide +kernel
theorem dX6_read_6 : decode cX6_read 6 = .ok (.istore 4, 2) := by decide +kernel
theorem dX6_read_8 : decode cX6_read 8 = .ok (.iload_n 2, 1) := by decide +kernel
theorem dX6_read_9 : decode cX6_read 9 = .ok (.istore 5, 2) := by decide +kernel
theorem dX6_read_11 : decode cX6_read 11 = .ok (.iload 5, 2) := by decide +kernel
theorem dX6_read_13 : decode cX6_read 13 = .ok (.iload_n 3, 1) := by decide +kernel
theorem dX6_read_14 : decode cX6_read 14 = .ok (.if_icmp .ge 101, 3) := by decide +kernel
theorem dX6_read_17 : decode cX6_read 17 = .ok (.aload_n 1, 1) := by decide +kernel
theorem dX6_read_18 : decode cX6_read 18 = .ok (.iload 5, 2) := by decide +kernel
theorem dX6_read_20 : decode cX6_read 20 = .ok (.invokevirtual 28, 3) := by decide +kernel
theorem dX6_read_23 : decode cX6_read 23 = .ok (.istore 6, 2) := by decide +kernel
theorem dX6_read_25 : decode cX6_read 25 = .ok (.ldc 34, 2) := by decide +kernel
theorem dX6_read_27 : decode cX6_read 27 = .ok (.iload 6, 2) := by decide +kernel
theorem dX6_read_29 : decode cX6_read 29 = .ok (.invokevirtual 36, 3) := by decide +kernel
theorem dX6_read_32 : decode cX6_read 32 = .ok (.istore 7, 2) := by decide +kernel
theorem dX6_read_34 : decode cX6_read 34 = .ok (.iload 7, 2) := by decide +kernel
theorem dX6_read_36 : decode cX6_read 36 = .ok (.ifCond .lt 12, 3) := by decide +kernel
theorem dX6_read_39 : decode cX6_read 39 = .ok (.aload_n 0, 1) := by decide +kernel
theorem dX6_read_40 : decode cX6_read 40 = .ok (.iload 7, 2) := by decide +kernel
theorem dX6_read_42 : decode cX6_read 42 = .ok (.invokevirtual 42, 3) := by decide +kernel
theorem dX6_read_45 : decode cX6_read 45 = .ok (.goto 64, 3) := by decide +kernel
theorem dX6_read_48 : decode cX6_read 48 = .ok (.iload 6, 2) := by decide +kernel
theorem dX6_read_50 : decode cX6_read 50 = .ok (.bipush 40, 2) := by decide +kernel
theorem dX6_read_52 : decode cX6_read 52 = .ok (.if_icmp .ne 26, 3) := by decide +kernel
theorem dX6_read_55 : decode cX6_read 55 = .ok (.iload 4, 2) := by decide +kernel
theorem dX6_read_57 : decode cX6_read 57 = .ok (.iconst 3, 1) := by decide +kernel
theorem dX6_read_58 : decode cX6_read 58 = .ok (.if_icmp .ge 20, 3) := by decide +kernel
theorem dX6_read_61 : decode cX6_read 61 = .ok (.aload_n 0, 1) := by decide +kernel
theorem dX6_read_62 : decode cX6_read 62 = .ok (.getfield 15, 3) := by decide +kernel
theorem dX6_read_65 : decode cX6_read 65 = .ok (.iload 4, 2) := by decide +kernel
theorem dX6_read_67 : decode cX6_read 67 = .ok (.aload_n 0, 1) := by decide +kernel
theorem dX6_read_68 : decode cX6_read 68 = .ok (.getfield 18, 3) := by decide +kernel
theorem dX6_read_71 : decode cX6_read 71 = .ok (.iastore, 1) := by decide +kernel
theorem dX6_read_72 : decode cX6_read 72 = .ok (.iinc 4 1, 3) := by decide +kernel
theorem dX6_read_75 : decode cX6_read 75 = .ok (.goto 34, 3) := by decide +kernel
theorem dX6_read_78 : decode cX6_read 78 = .ok (.iload 6, 2) := by decide +kernel
theorem dX6_read_80 : decode cX6_read 80 = .ok (.bipush 41, 2) := by decide +kernel
theorem dX6_read_82 : decode cX6_read 82 = .ok (.if_icmp .eq 27, 3) := by decide +kernel
theorem dX6_read_85 : decode cX6_read 85 = .ok (.iload 4, 2) := by decide +kernel
theorem dX6_read_87 : decode cX6_read 87 = .ok (.ifCond .le 22, 3) := by decide +kernel
theorem dX6_read_90 : decode cX6_read 90 = .ok (.iinc 4 (-1), 3) := by decide +kernel
theorem dX6_read_93 : decode cX6_read 93 = .ok (.aload_n 0, 1) := by decide +kernel
theorem dX6_read_94 : decode cX6_read 94 = .ok (.aload_n 0, 1) := by decide +kernel
theorem dX6_read_95 : decode cX6_read 95 = .ok (.getfield 15, 3) := by decide +kernel
theorem dX6_read_98 : decode cX6_read 98 = .ok (.iload 4, 2) := by decide +kernel
theorem dX6_read_100 : decode cX6_read 100 = .ok (.iaload, 1) := by decide +kernel
theorem dX6_read_101 : decode cX6_read 101 = .ok (.iload 6, 2) := by decide +kernel
theorem dX6_read_103 : decode cX6_read 103 = .ok (.bipush 48, 2) := by decide +kernel
theorem dX6_read_105 : decode cX6_read 105 = .ok (.isub, 1) := by decide +kernel
theorem dX6_read_106 : decode cX6_read 106 = .ok (.invokevirtual 46, 3) := by decide +kernel
theorem dX6_read_109 : decode cX6_read 109 = .ok (.iinc 5 1, 3) := by decide +kernel
theorem dX6_read_112 : decode cX6_read 112 = .ok (.goto (-101), 3) := by decide +kernel
theorem dX6_read_115 : decode cX6_read 115 = .ok (.return_, 1) := by decide +kernel
theorem dX6_add_0 : decode cX6_add 0 = .ok (.aload_n 0, 1) := by decide +kernel
theorem dX6_add_1 : decode cX6_add 1 = .ok (.getfield 18, 3) := by decide +kernel
theorem dX6_add_4 : decode cX6_add 4 = .ok (.bipush 9, 2) := by decide +kernel
theorem dX6_add_6 : decode cX6_add 6 = .ok (.if_icmp .ge 23, 3) := by decide +kernel
theorem dX6_add_9 : decode cX6_add 9 = .ok (.aload_n 0, 1) := by decide +kernel
theorem dX6_add_10 : decode cX6_add 10 = .ok (.getfield 11, 3) := by decide +kernel
theorem dX6_add_13 : decode cX6_add 13 = .ok (.aload_n 0, 1) := by decide +kernel
theorem dX6_add_14 : decode cX6_add 14 = .ok (.getfield 18, 3) := by decide +kernel
theorem dX6_add_17 : decode cX6_add 17 = .ok (.iload_n 1, 1) := by decide +kernel
theorem dX6_add_18 : decode cX6_add 18 = .ok (.iastore, 1) := by decide +kernel
theorem dX6_add_19 : decode cX6_add 19 = .ok (.aload_n 0, 1) := by decide +kernel
theorem dX6_add_20 : decode cX6_add 20 = .ok (.dup, 1) := by decide +kernel
theorem dX6_add_21 : decode cX6_add 21 = .ok (.getfield 18, 3) := by decide +kernel
theorem dX6_add_24 : decode cX6_add 24 = .ok (.iconst 1, 1) := by decide +kernel
theorem dX6_add_25 : decode cX6_add 25 = .ok (.iadd, 1) := by decide +kernel
theorem dX6_add_26 : decode cX6_add 26 = .ok (.putfield 18, 3) := by decide +kernel
theorem dX6_add_29 : decode cX6_add 29 = .ok (.return_, 1) := by decide +kernel
set_option maxRecDepth 20000 in
theorem ggX6_repeatFrom_X6_add : GoodIn wsX6_repeatFrom wsX6_add := goodIn_r _ [7, 1, 2, 8, 9, 10] (by decide +kernel) (by decide +kernel)
set_option maxRecDepth 20000 in
theorem gX6_repeatFrom_X6_add : GoodIn wsX6_repeatFrom (wsV RX6 42 RX6 yX6_add wsX6_add) := goodIn_app (goodIn_of _ (by decide +kernel)) ggX6_repeatFrom_X6_add
theorem dX6_repeatFrom_0 : decode cX6_repeatFrom 0 = .ok (.aload_n 0, 1) := by decide +kernel
theorem dX6_repeatFrom_1 : decode cX6_repeatFrom 1 = .ok (.getfield 18, 3) := by decide +kernel
theorem dX6_repeatFrom_4 : decode cX6_repeatFrom 4 = .ok (.iload_n 1, 1) := by decide +kernel
theorem dX6_repeatFrom_5 : decode cX6_repeatFrom 5 = .ok (.isub, 1) := by decide +kernel
theorem dX6_repeatFrom_6 : decode cX6_repeatFrom 6 = .ok (.iload_n 2, 1) := by decide +kernel
theorem dX6_repeatFrom_7 : decode cX6_repeatFrom 7 = .ok (.iconst 1, 1) := by decide +kernel
theorem dX6_repeatFrom_8 : decode cX6_repeatFrom 8 = .ok (.isub, 1) := by decide +kernel
theorem dX6_repeatFrom_9 : decode cX6_repeatFrom 9 = .ok (.imul, 1) := by decide +kernel
theorem dX6_repeatFrom_10 : decode cX6_repeatFrom 10 = .ok (.istore_n 3, 1) := by decide +kernel
theorem dX6_repeatFrom_11 : decode cX6_repeatFrom 11 = .ok (.iconst 0, 1) := by decide +kernel
theorem dX6_repeatFrom_12 : decode cX6_repeatFrom 12 = .ok (.istore 4, 2) := by decide +kernel
theorem dX6_repeatFrom_14 : decode cX6_repeatFrom 14 = .ok (.iload 4, 2) := by decide +kernel
theorem dX6_repeatFrom_16 : decode cX6_repeatFrom 16 = .ok (.iload_n 3, 1) := by decide +kernel
theorem dX6_repeatFrom_17 : decode cX6_repeatFrom 17 = .ok (.if_icmp .ge 31, 3) := by decide +kernel
theorem dX6_repeatFrom_20 : decode cX6_repeatFrom 20 = .ok (.iload_n 1, 1) := by decide +kernel
theorem dX6_repeatFrom_21 : decode cX6_repeatFrom 21 = .ok (.iload 4, 2) := by decide +kernel
theorem dX6_repeatFrom_23 : decode cX6_repeatFrom 23 = .ok (.iadd, 1) := by decide +kernel
theorem dX6_repeatFrom_24 : decode cX6_repeatFrom 24 = .ok (.bipush 9, 2) := by decide +kernel
theorem dX6_repeatFrom_26 : decode cX6_repeatFrom 26 = .ok (.if_icmp .ge 22, 3) := by decide +kernel
theorem dX6_repeatFrom_29 : decode cX6_repeatFrom 29 = .ok (.aload_n 0, 1) := by decide +kernel
theorem dX6_repeatFrom_30 : decode cX6_repeatFrom 30 = .ok (.aload_n 0, 1) := by decide +kernel
theorem dX6_repeatFrom_31 : decode cX6_repeatFrom 31 = .ok (.getfield 11, 3) := by decide +kernel
theorem dX6_repeatFrom_34 : decode cX6_repeatFrom 34 = .ok (.iload_n 1, 1) := by decide +kernel
theorem dX6_repeatFrom_35 : decode cX6_repeatFrom 35 = .ok (.iload 4, 2) := by decide +kernel
theorem dX6_repeatFrom_37 : decode cX6_repeatFrom 37 = .ok (.iadd, 1) := by decide +kernel
theorem dX6_repeatFrom_38 : decode cX6_repeatFrom 38 = .ok (.iaload, 1) := by decide +kernel
theorem dX6_repeatFrom_39 : decode cX6_repeatFrom 39 = .ok (.invokevirtual 42, 3) := by decide +kernel
theorem dX6_repeatFrom_42 : decode cX6_repeatFrom 42 = .ok (.iinc 4 1, 3) := by decide +kernel
theorem dX6_repeatFrom_45 : decode cX6_repeatFrom 45 = .ok (.goto (-31), 3) := by decide +kernel
theorem dX6_repeatFrom_48 : decode cX6_repeatFrom 48 = .ok (.return_, 1) := by decide +kernel
set_option maxRecDepth 20000 in
theorem ggX7_init_X3_init : GoodIn wsX7_init wsX3_init := goodIn_r _ [35, 36, 2, 3, 37, 38, 39, 40, 41, 42, 43, 44, 45, 46, 47, 48, 49, 77, 78, 79, 80, 81, 82, 83, 84, 85, 86, 87, 88, 89, 90, 91, 92] (by decide +kernel) (by decide +kernel)
set_option maxRecDepth 20000 in
theorem gX7_init_X3_init_n9 : GoodIn wsX7_init (wsX3_init) := ggX7_init_X3_init
set_option maxRecDepth 20000 in
theorem ggX7_init_X1_init : GoodIn wsX7_init wsX1_init := goodIn_r _ [52, 53, 2, 3, 54, 55, 5, 6, 34, 35, 36, 37, 38, 39, 40, 41, 42, 43, 44, 45, 46, 47, 48, 49, 102, 103, 104, 77, 78, 79, 80, 81, 82, 83, 84, 85, 86, 87, 88, 89, 90, 91, 92] (by decide +kernel) (by decide +kernel)
set_option maxRecDepth 20000 in
theorem gX7_init_X1_init : GoodIn wsX7_init (wsX1_init) := ggX7_init_X1_init
set_option maxRecDepth 20000 in
theorem ggX7_init_X5_init : GoodIn wsX7_init wsX5_init := goodIn_r _ [57, 58, 2, 3, 59, 60, 105, 106] (by decide +kernel) (by decide +kernel)
set_option maxRecDepth 20000 in
theorem gX7_init_X5_init_n28 : GoodIn wsX7_init (wsX5_init) := ggX7_init_X5_init
set_option maxRecDepth 20000 in
theorem ggX7_init_X0_init : GoodIn wsX7_init wsX0_init := goodIn_r _ [62, 63, 2, 3] (by decide +kernel) (by decide +kernel)
set_option maxRecDepth 20000 in
theorem gX7_init_X0_init_n35 : GoodIn wsX7_init (wsX0_init) := ggX7_init_X0_init
set_option maxRecDepth 20000 in
theorem ggX7_init_X6_init : GoodIn wsX7_init wsX6_init := goodIn_r _ [65, 66, 2, 3, 37, 67, 68, 110, 111, 112] (by decide +kernel) (by decide +kernel)
set_option maxRecDepth 20000 in
theorem gX7_init_X6_init_n42 : GoodIn wsX7_init (wsX6_init) := ggX7_init_X6_init
set_option maxRecDepth 20000 in
theorem ggX7_init_X4_init : GoodIn wsX7_init wsX4_init := goodIn_r _ [70, 71, 2, 3, 37, 72, 73, 113, 114, 115] (by decide +kernel) (by decide +kernel)
set_option maxRecDepth 20000 in
theorem gX7_init_X4_init_n49 : GoodIn wsX7_init (wsX4_init) := ggX7_init_X4_init
set_option maxRecDepth 20000 in
theorem ggX7_init_X2_init : GoodIn wsX7_init wsX2_init := goodIn_r _ [75, 76, 2, 3] (by decide +kernel) (by decide +kernel)
set_option maxRecDepth 20000 in
theorem gX7_init_X2_init_n56 : GoodIn wsX7_init (wsX2_init) := ggX7_init_X2_init
theorem dX7_init_0 : decode cX7_init 0 = .ok (.aload_n 0, 1) := by decide +kernel
theorem dX7_init_1 : decode cX7_init 1 = .ok (.invokespecial 1, 3) := by decide +kernel
theorem dX7_init_4 : decode cX7_init 4 = .ok (.aload_n 0, 1) := by decide +kernel
theorem dX7_init_5 : decode cX7_init 5 = .ok (.new 7, 3) := by decide +kernel
theorem dX7_init_8 : decode cX7_init 8 = .ok (.dup, 1) := by decide +kernel
theorem dX7_init_9 : decode cX7_init 9 = .ok (.invokespecial 9, 3) := by decide +kernel
theorem dX7_init_12 : decode cX7_init 12 = .ok (.putfield 10, 3) := by decide +kernel
theorem dX7_init_15 : decode cX7_init 15 = .ok (.aload_n 0, 1) := by decide +kernel
theorem dX7_init_16 : decode cX7_init 16 = .ok (.new 7, 3) := by decide +kernel
theorem dX7_init_19 : decode cX7_init 19 = .ok (.dup, 1) := by decide +kernel
theorem dX7_init_20 : decode cX7_init 20 = .ok (.invokespecial 9, 3) := by decide +kernel
theorem dX7_init_23 : decode cX7_init 23 = .ok (.putfield 16, 3) := by decide +kernel
theorem dX7_init_26 : decode cX7_init 26 = .ok (.aload_n 0, 1) := by decide +kernel
theorem dX7_init_27 : decode cX7_init 27 = .ok (.new 19, 3) := by decide +kernel
theorem dX7_init_30 : decode cX7_init 30 = .ok (.dup, 1) := by decide +kernel
theorem dX7_init_31 : decode cX7_init 31 = .ok (.invokespecial 21, 3) := by decide +kernel
theorem dX7_init_34 : decode cX7_init 34 = .ok (.putfield 22, 3) := by decide +kernel
theorem dX7_init_37 : decode cX7_init 37 = .ok (.aload_n 0, 1) := by decide +kernel
theorem dX7_init_38 : decode cX7_init 38 = .ok (.new 26, 3) := by decide +kernel
theorem dX7_init_41 : decode cX7_init 41 = .ok (.dup, 1) := by decide +kernel
theorem dX7_init_42 : decode cX7_init 42 = .ok (.invokespecial 28, 3) := by decide +kernel
theorem dX7_init_45 : decode cX7_init 45 = .ok (.putfield 29, 3) := by decide +kernel
theorem dX7_init_48 : decode cX7_init 48 = .ok (.aload_n 0, 1) := by decide +kernel
theorem dX7_init_49 : decode cX7_init 49 = .ok (.new 33, 3) := by decide +kernel
theorem dX7_init_52 : decode cX7_init 52 = .ok (.dup, 1) := by decide +kernel
theorem dX7_init_53 : decode cX7_init 53 = .ok (.invokespecial 35, 3) := by decide +kernel
theorem dX7_init_56 : decode cX7_init 56 = .ok (.putfield 36, 3) := by decide +kernel
theorem dX7_init_59 : decode cX7_init 59 = .ok (.aload_n 0, 1) := by decide +kernel
theorem dX7_init_60 : decode cX7_init 60 = .ok (.new 40, 3) := by decide +kernel
theorem dX7_init_63 : decode cX7_init 63 = .ok (.dup, 1) := by decide +kernel
theorem dX7_init_64 : decode cX7_init 64 = .ok (.invokespecial 42, 3) := by decide +kernel
theorem dX7_init_67 : decode cX7_init 67 = .ok (.putfield 43, 3) := by decide +kernel
theorem dX7_init_70 : decode cX7_init 70 = .ok (.aload_n 0, 1) := by decide +kernel
theorem dX7_init_71 : decode cX7_init 71 = .ok (.new 47, 3) := by decide +kernel
theorem dX7_init_74 : decode cX7_init 74 = .ok (.dup, 1) := by decide +kernel
theorem dX7_init_75 : decode cX7_init 75 = .ok (.invokespecial 49, 3) := by decide +kernel
theorem dX7_init_78 : decode cX7_init 78 = .ok (.putfield 50, 3) := by decide +kernel
theorem dX7_init_81 : decode cX7_init 81 = .ok (.aload_n 0, 1) := by decide +kernel
theorem dX7_init_82 : decode cX7_init 82 = .ok (.new 54, 3) := by decide +kernel
theorem dX7_init_85 : decode cX7_init 85 = .ok (.dup, 1) := by decide +kernel
theorem dX7_init_86 : decode cX7_init 86 = .ok (.invokespecial 56, 3) := by decide +kernel
theorem dX7_init_89 : decode cX7_init 89 = .ok (.putfield 57, 3) := by decide +kernel
theorem dX7_init_92 : decode cX7_init 92 = .ok (.aload_n 0, 1) := by decide +kernel
theorem dX7_init_93 : decode cX7_init 93 = .ok (.iconst 0, 1) := by decide +kernel
theorem dX7_init_94 : decode cX7_init 94 = .ok (.putfield 61, 3) := by decide +kernel
theorem dX7_init_97 : decode cX7_init 97 = .ok (.return_, 1) := by decide +kernel
set_option maxRecDepth 20000 in
theorem ggX7_teach_X7_isMessage : GoodIn wsX7_teach wsX7_isMessage := goodIn_r _ [15] (by decide +kernel) (by decide +kernel)
set_option maxRecDepth 20000 in
theorem gX7_teach_X7_isMessage : GoodIn wsX7_teach (va_wsS RX7 65 yX7_isMessage wsX7_isMessage) := goodIn_app (goodIn_of _ (by decide +kernel)) ggX7_teach_X7_isMessage
set_option maxRecDepth 20000 in
theorem ggX7_teach_X7_readTuneOfText : GoodIn wsX7_teach wsX7_readTuneOfText := goodIn_r _ [19, 20, 10, 21, 9, 22, 23, 24, 25, 26, 27, 28, 29, 30, 31, 32, 33, 34, 35, 36, 37, 38, 39, 40, 41, 42, 43, 44, 45, 46, 47, 48, 49, 50, 51, 52, 53, 54, 55, 56, 57, 58, 59, 60, 61, 62, 63, 64, 65, 66, 67, 68, 69, 70, 71, 72, 73, 74, 75, 76, 77, 78, 79, 80, 81, 82, 83, 84, 85, 86, 87, 88, 89, 90, 91, 92, 93, 94, 95, 96, 97, 98, 99, 100, 101, 102, 103, 104, 105, 106, 107, 108, 109, 110, 111, 112, 113, 114, 115, 116, 117, 118, 119, 120, 121, 122, 123, 124, 125, 126, 127, 128, 129, 130, 131, 132, 133, 134, 135, 136, 137, 138, 139, 140, 141, 142, 143, 144, 145, 146, 147, 148, 149, 150, 151, 152, 153, 154, 155, 156, 157, 158, 159, 160, 161, 162, 163, 164, 165, 166, 167, 168, 169, 170, 171, 172, 173, 270, 271, 272, 273, 274, 275, 276, 277, 278, 282, 283, 284, 285, 286, 279, 280, 281] (by decide +kernel) (by decide +kernel)
set_option maxRecDepth 20000 in
theorem gX7_teach_X7_readTuneOfText : GoodIn wsX7_teach (wsV RX7 76 RX7 yX7_readTuneOfText wsX7_readTuneOfText) := goodIn_app (goodIn_of _ (by decide +kernel)) ggX7_teach_X7_readTuneOfText
set_option maxRecDepth 20000 in
theorem ggX7_teach_X7_reasonAgainstTune : GoodIn wsX7_teach wsX7_reasonAgainstTune := goodIn_r _ [177, 9, 178, 8, 179, 180, 181, 159, 182, 161, 183, 184, 185, 186, 187, 188, 189, 190, 191, 192, 193, 194, 195, 196, 197, 198, 199, 200, 201, 202, 203, 204, 205, 206, 207, 208, 209, 210, 211, 212, 213, 214, 215, 216, 217, 218, 219, 220, 221, 222, 169, 223, 224, 225, 226, 227, 270, 271, 272, 273, 274, 275, 276, 277, 278, 279, 280, 281, 287, 288, 289, 290, 291, 292, 293, 294, 295, 296, 297, 298, 299, 300, 301, 302, 303, 304, 305] (by decide +kernel) (by decide +kernel)
set_option maxRecDepth 20000 in
theorem gX7_teach_X7_reasonAgainstTune : GoodIn wsX7_teach (wsV RX7 85 RX7 yX7_reasonAgainstTune wsX7_reasonAgainstTune) := goodIn_app (goodIn_of _ (by decide +kernel)) ggX7_teach_X7_reasonAgainstTune
set_option maxRecDepth 20000 in
theorem ggX7_teach_X1_push : GoodIn wsX7_teach wsX1_push := goodIn_r _ [232, 233, 234, 235, 236, 237, 238, 203, 239, 240, 241, 242, 243, 244, 245, 246, 247, 248, 249, 205, 250, 251, 252, 253, 254, 255, 256, 257, 258, 306, 307, 308, 290, 291, 292, 293, 294, 295, 296, 297, 298, 299, 300, 301, 302, 303, 304, 305] (by decide +kernel) (by decide +kernel)
set_option maxRecDepth 20000 in
theorem gX7_teach_X1_push : GoodIn wsX7_teach (wsV RX7 94 RX1 yX1_push wsX1_push) := goodIn_app (goodIn_of _ (by decide +kernel)) ggX7_teach_X1_push
set_option maxRecDepth 20000 in
theorem ggX7_teach_X3_learn : GoodIn wsX7_teach wsX3_learn := goodIn_r _ [262, 249, 263, 264, 205, 245, 246, 247, 248, 265, 180, 181, 159, 182, 161, 290, 291, 292, 293, 294, 295, 296, 297, 298, 299, 300, 301, 302, 303, 304, 305, 279, 280, 281] (by decide +kernel) (by decide +kernel)
set_option maxRecDepth 20000 in
theorem gX7_teach_X3_learn : GoodIn wsX7_teach (wsV RX7 98 RX3 yX3_learn wsX3_learn) := goodIn_app (goodIn_of _ (by decide +kernel)) ggX7_teach_X3_learn
set_option maxRecDepth 20000 in
theorem ggX7_teach_X5_empty : GoodIn wsX7_teach wsX5_empty := goodIn_r _ [269, 40, 282, 283] (by decide +kernel) (by decide +kernel)
set_option maxRecDepth 20000 in
theorem gX7_teach_X5_empty : GoodIn wsX7_teach (wsV RX7 102 RX5 yX5_empty wsX5_empty) := goodIn_app (goodIn_of _ (by decide +kernel)) ggX7_teach_X5_empty
theorem dX7_teach_0 : decode cX7_teach 0 = .ok (.iload_n 1, 1) := by decide +kernel
theorem dX7_teach_1 : decode cX7_teach 1 = .ok (.invokestatic 65, 3) := by decide +kernel
theorem dX7_teach_4 : decode cX7_teach 4 = .ok (.ifCond .ne 13, 3) := by decide +kernel
theorem dX7_teach_7 : decode cX7_teach 7 = .ok (.new 69, 3) := by decide +kernel
theorem dX7_teach_10 : decode cX7_teach 10 = .ok (.dup, 1) := by decide +kernel
theorem dX7_teach_11 : decode cX7_teach 11 = .ok (.ldc 71, 2) := by decide +kernel
theorem dX7_teach_13 : decode cX7_teach 13 = .ok (.invokespecial 73, 3) := by decide +kernel
theorem dX7_teach_16 : decode cX7_teach 16 = .ok (.athrow, 1) := by decide +kernel
theorem dX7_teach_17 : decode cX7_teach 17 = .ok (.aload_n 0, 1) := by decide +kernel
theorem dX7_teach_18 : decode cX7_teach 18 = .ok (.invokevirtual 76, 3) := by decide +kernel
theorem dX7_teach_21 : decode cX7_teach 21 = .ok (.ifCond .ne 13, 3) := by decide +kernel
theorem dX7_teach_24 : decode cX7_teach 24 = .ok (.new 80, 3) := by decide +kernel
theorem dX7_teach_27 : decode cX7_teach 27 = .ok (.dup, 1) := by decide +kernel
theorem dX7_teach_28 : decode cX7_teach 28 = .ok (.ldc 82, 2) := by decide +kernel
theorem dX7_teach_30 : decode cX7_teach 30 = .ok (.invokespecial 84, 3) := by decide +kernel
theorem dX7_teach_33 : decode cX7_teach 33 = .ok (.athrow, 1) := by decide +kernel
theorem dX7_teach_34 : decode cX7_teach 34 = .ok (.aload_n 0, 1) := by decide +kernel
theorem dX7_teach_35 : decode cX7_teach 35 = .ok (.iload_n 1, 1) := by decide +kernel
theorem dX7_teach_36 : decode cX7_teach 36 = .ok (.invokevirtual 85, 3) := by decide +kernel
theorem dX7_teach_39 : decode cX7_teach 39 = .ok (.ifCond .eq 13, 3) := by decide +kernel
theorem dX7_teach_42 : decode cX7_teach 42 = .ok (.new 89, 3) := by decide +kernel
theorem dX7_teach_45 : decode cX7_teach 45 = .ok (.dup, 1) := by decide +kernel
theorem dX7_teach_46 : decode cX7_teach 46 = .ok (.ldc 91, 2) := by decide +kernel
theorem dX7_teach_48 : decode cX7_teach 48 = .ok (.invokespecial 93, 3) := by decide +kernel
theorem dX7_teach_51 : decode cX7_teach 51 = .ok (.athrow, 1) := by decide +kernel
theorem dX7_teach_52 : decode cX7_teach 52 = .ok (.aload_n 0, 1) := by decide +kernel
theorem dX7_teach_53 : decode cX7_teach 53 = .ok (.getfield 22, 3) := by decide +kernel
theorem dX7_teach_56 : decode cX7_teach 56 = .ok (.aload_n 0, 1) := by decide +kernel
theorem dX7_teach_57 : decode cX7_teach 57 = .ok (.getfield 10, 3) := by decide +kernel
theorem dX7_teach_60 : decode cX7_teach 60 = .ok (.invokevirtual 94, 3) := by decide +kernel
theorem dX7_teach_63 : decode cX7_teach 63 = .ok (.aload_n 0, 1) := by decide +kernel
theorem dX7_teach_64 : decode cX7_teach 64 = .ok (.getfield 10, 3) := by decide +kernel
theorem dX7_teach_67 : decode cX7_teach 67 = .ok (.iload_n 1, 1) := by decide +kernel
theorem dX7_teach_68 : decode cX7_teach 68 = .ok (.aload_n 0, 1) := by decide +kernel
theorem dX7_teach_69 : decode cX7_teach 69 = .ok (.getfield 43, 3) := by decide +kernel
theorem dX7_teach_72 : decode cX7_teach 72 = .ok (.invokevirtual 98, 3) := by decide +kernel
theorem dX7_teach_75 : decode cX7_teach 75 = .ok (.aload_n 0, 1) := by decide +kernel
theorem dX7_teach_76 : decode cX7_teach 76 = .ok (.getfield 29, 3) := by decide +kernel
theorem dX7_teach_79 : decode cX7_teach 79 = .ok (.invokevirtual 102, 3) := by decide +kernel
theorem dX7_teach_82 : decode cX7_teach 82 = .ok (.aload_n 0, 1) := by decide +kernel
theorem dX7_teach_83 : decode cX7_teach 83 = .ok (.getfield 43, 3) := by decide +kernel
theorem dX7_teach_86 : decode cX7_teach 86 = .ok (.getfield 105, 3) := by decide +kernel
theorem dX7_teach_89 : decode cX7_teach 89 = .ok (.ireturn, 1) := by decide +kernel
set_option maxRecDepth 20000 in
theorem ggX7_forget_X7_isMessage : GoodIn wsX7_forget wsX7_isMessage := goodIn_r _ [9] (by decide +kernel) (by decide +kernel)
set_option maxRecDepth 20000 in
theorem gX7_forget_X7_isMessage : GoodIn wsX7_forget (va_wsS RX7 65 yX7_isMessage wsX7_isMessage) := goodIn_app (goodIn_of _ (by decide +kernel)) ggX7_forget_X7_isMessage
set_option maxRecDepth 20000 in
theorem ggX7_forget_X1_push : GoodIn wsX7_forget wsX1_push := goodIn_r _ [14, 15, 16, 17, 18, 19, 20, 21, 22, 23, 24, 25, 26, 27, 28, 29, 30, 31, 32, 33, 34, 35, 36, 37, 38, 39, 40, 41, 42, 68, 69, 70, 52, 53, 54, 55, 56, 57, 58, 59, 60, 61, 62, 63, 64, 65, 66, 67] (by decide +kernel) (by decide +kernel)
set_option maxRecDepth 20000 in
theorem gX7_forget_X1_push : GoodIn wsX7_forget (wsV RX7 94 RX1 yX1_push wsX1_push) := goodIn_app (goodIn_of _ (by decide +kernel)) ggX7_forget_X1_push
theorem dX7_forget_0 : decode cX7_forget 0 = .ok (.iload_n 1, 1) := by decide +kernel
theorem dX7_forget_1 : decode cX7_forget 1 = .ok (.invokestatic 65, 3) := by decide +kernel
theorem dX7_forget_4 : decode cX7_forget 4 = .ok (.ifCond .ne 13, 3) := by decide +kernel
theorem dX7_forget_7 : decode cX7_forget 7 = .ok (.new 69, 3) := by decide +kernel
theorem dX7_forget_10 : decode cX7_forget 10 = .ok (.dup, 1) := by decide +kernel
theorem dX7_forget_11 : decode cX7_forget 11 = .ok (.ldc 71, 2) := by decide +kernel
theorem dX7_forget_13 : decode cX7_forget 13 = .ok (.invokespecial 73, 3) := by decide +kernel
theorem dX7_forget_16 : decode cX7_forget 16 = .ok (.athrow, 1) := by decide +kernel
theorem dX7_forget_17 : decode cX7_forget 17 = .ok (.aload_n 0, 1) := by decide +kernel
theorem dX7_forget_18 : decode cX7_forget 18 = .ok (.getfield 22, 3) := by decide +kernel
theorem dX7_forget_21 : decode cX7_forget 21 = .ok (.aload_n 0, 1) := by decide +kernel
theorem dX7_forget_22 : decode cX7_forget 22 = .ok (.getfield 10, 3) := by decide +kernel
theorem dX7_forget_25 : decode cX7_forget 25 = .ok (.invokevirtual 94, 3) := by decide +kernel
theorem dX7_forget_28 : decode cX7_forget 28 = .ok (.aload_n 0, 1) := by decide +kernel
theorem dX7_forget_29 : decode cX7_forget 29 = .ok (.getfield 10, 3) := by decide +kernel
theorem dX7_forget_32 : decode cX7_forget 32 = .ok (.getfield 109, 3) := by decide +kernel
theorem dX7_forget_35 : decode cX7_forget 35 = .ok (.iload_n 1, 1) := by decide +kernel
theorem dX7_forget_36 : decode cX7_forget 36 = .ok (.iaload, 1) := by decide +kernel
theorem dX7_forget_37 : decode cX7_forget 37 = .ok (.istore_n 2, 1) := by decide +kernel
theorem dX7_forget_38 : decode cX7_forget 38 = .ok (.aload_n 0, 1) := by decide +kernel
theorem dX7_forget_39 : decode cX7_forget 39 = .ok (.getfield 10, 3) := by decide +kernel
theorem dX7_forget_42 : decode cX7_forget 42 = .ok (.getfield 109, 3) := by decide +kernel
theorem dX7_forget_45 : decode cX7_forget 45 = .ok (.iload_n 1, 1) := by decide +kernel
theorem dX7_forget_46 : decode cX7_forget 46 = .ok (.iconst 0, 1) := by decide +kernel
theorem dX7_forget_47 : decode cX7_forget 47 = .ok (.iastore, 1) := by decide +kernel
theorem dX7_forget_48 : decode cX7_forget 48 = .ok (.iload_n 2, 1) := by decide +kernel
theorem dX7_forget_49 : decode cX7_forget 49 = .ok (.ireturn, 1) := by decide +kernel
set_option maxRecDepth 20000 in
theorem ggX7_key_X7_isKey : GoodIn wsX7_key wsX7_isKey := goodIn_r _ [9] (by decide +kernel) (by decide +kernel)
set_option maxRecDepth 20000 in
theorem gX7_key_X7_isKey : GoodIn wsX7_key (va_wsS RX7 113 yX7_isKey wsX7_isKey) := goodIn_app (goodIn_of _ (by decide +kernel)) ggX7_key_X7_isKey
set_option maxRecDepth 20000 in
theorem ggX7_key_X1_push : GoodIn wsX7_key wsX1_push := goodIn_r _ [14, 15, 16, 17, 18, 19, 20, 21, 22, 23, 24, 25, 26, 27, 28, 29, 30, 31, 32, 33, 34, 35, 36, 37, 38, 39, 40, 41, 42, 68, 69, 70, 52, 53, 54, 55, 56, 57, 58, 59, 60, 61, 62, 63, 64, 65, 66, 67] (by decide +kernel) (by decide +kernel)
set_option maxRecDepth 20000 in
theorem gX7_key_X1_push : GoodIn wsX7_key (wsV RX7 94 RX1 yX1_push wsX1_push) := goodIn_app (goodIn_of _ (by decide +kernel)) ggX7_key_X1_push
theorem dX7_key_0 : decode cX7_key 0 = .ok (.iload_n 1, 1) := by decide +kernel
theorem dX7_key_1 : decode cX7_key 1 = .ok (.invokestatic 113, 3) := by decide +kernel
theorem dX7_key_4 : decode cX7_key 4 = .ok (.ifCond .ne 13, 3) := by decide +kernel
theorem dX7_key_7 : decode cX7_key 7 = .ok (.new 80, 3) := by decide +kernel
theorem dX7_key_10 : decode cX7_key 10 = .ok (.dup, 1) := by decide +kernel
theorem dX7_key_11 : decode cX7_key 11 = .ok (.ldc 116, 2) := by decide +kernel
theorem dX7_key_13 : decode cX7_key 13 = .ok (.invokespecial 84, 3) := by decide +kernel
theorem dX7_key_16 : decode cX7_key 16 = .ok (.athrow, 1) := by decide +kernel
theorem dX7_key_17 : decode cX7_key 17 = .ok (.aload_n 0, 1) := by decide +kernel
theorem dX7_key_18 : decode cX7_key 18 = .ok (.getfield 22, 3) := by decide +kernel
theorem dX7_key_21 : decode cX7_key 21 = .ok (.aload_n 0, 1) := by decide +kernel
theorem dX7_key_22 : decode cX7_key 22 = .ok (.getfield 10, 3) := by decide +kernel
theorem dX7_key_25 : decode cX7_key 25 = .ok (.invokevirtual 94, 3) := by decide +kernel
theorem dX7_key_28 : decode cX7_key 28 = .ok (.aload_n 0, 1) := by decide +kernel
theorem dX7_key_29 : decode cX7_key 29 = .ok (.getfield 10, 3) := by decide +kernel
theorem dX7_key_32 : decode cX7_key 32 = .ok (.getfield 118, 3) := by decide +kernel
theorem dX7_key_35 : decode cX7_key 35 = .ok (.istore_n 2, 1) := by decide +kernel
theorem dX7_key_36 : decode cX7_key 36 = .ok (.aload_n 0, 1) := by decide +kernel
theorem dX7_key_37 : decode cX7_key 37 = .ok (.getfield 10, 3) := by decide +kernel
theorem dX7_key_40 : decode cX7_key 40 = .ok (.iload_n 1, 1) := by decide +kernel
theorem dX7_key_41 : decode cX7_key 41 = .ok (.putfield 118, 3) := by decide +kernel
theorem dX7_key_44 : decode cX7_key 44 = .ok (.iload_n 2, 1) := by decide +kernel
theorem dX7_key_45 : decode cX7_key 45 = .ok (.ireturn, 1) := by decide +kernel
set_option maxRecDepth 20000 in
theorem ggX7_tell_X7_isRoom : GoodIn wsX7_tell wsX7_isRoom := goodIn_r _ [10] (by decide +kernel) (by decide +kernel)
set_option maxRecDepth 20000 in
theorem gX7_tell_X7_isRoom : GoodIn wsX7_tell (va_wsS RX7 121 yX7_isRoom wsX7_isRoom) := goodIn_app (goodIn_of _ (by decide +kernel)) ggX7_tell_X7_isRoom
set_option maxRecDepth 20000 in
theorem ggX7_tell_X1_push : GoodIn wsX7_tell wsX1_push := goodIn_r _ [15, 16, 17, 18, 19, 20, 21, 22, 23, 24, 25, 26, 27, 28, 29, 30, 31, 32, 33, 34, 35, 36, 37, 38, 39, 40, 41, 42, 43, 69, 70, 71, 53, 54, 55, 56, 57, 58, 59, 60, 61, 62, 63, 64, 65, 66, 67, 68] (by decide +kernel) (by decide +kernel)
set_option maxRecDepth 20000 in
theorem gX7_tell_X1_push : GoodIn wsX7_tell (wsV RX7 94 RX1 yX1_push wsX1_push) := goodIn_app (goodIn_of _ (by decide +kernel)) ggX7_tell_X1_push
theorem dX7_tell_0 : decode cX7_tell 0 = .ok (.iload_n 1, 1) := by decide +kernel
theorem dX7_tell_1 : decode cX7_tell 1 = .ok (.invokestatic 121, 3) := by decide +kernel
theorem dX7_tell_4 : decode cX7_tell 4 = .ok (.ifCond .ne 13, 3) := by decide +kernel
theorem dX7_tell_7 : decode cX7_tell 7 = .ok (.new 69, 3) := by decide +kernel
theorem dX7_tell_10 : decode cX7_tell 10 = .ok (.dup, 1) := by decide +kernel
theorem dX7_tell_11 : decode cX7_tell 11 = .ok (.ldc 124, 2) := by decide +kernel
theorem dX7_tell_13 : decode cX7_tell 13 = .ok (.invokespecial 73, 3) := by decide +kernel
theorem dX7_tell_16 : decode cX7_tell 16 = .ok (.athrow, 1) := by decide +kernel
theorem dX7_tell_17 : decode cX7_tell 17 = .ok (.aload_n 0, 1) := by decide +kernel
theorem dX7_tell_18 : decode cX7_tell 18 = .ok (.getfield 22, 3) := by decide +kernel
theorem dX7_tell_21 : decode cX7_tell 21 = .ok (.aload_n 0, 1) := by decide +kernel
theorem dX7_tell_22 : decode cX7_tell 22 = .ok (.getfield 10, 3) := by decide +kernel
theorem dX7_tell_25 : decode cX7_tell 25 = .ok (.invokevirtual 94, 3) := by decide +kernel
theorem dX7_tell_28 : decode cX7_tell 28 = .ok (.aload_n 0, 1) := by decide +kernel
theorem dX7_tell_29 : decode cX7_tell 29 = .ok (.getfield 10, 3) := by decide +kernel
theorem dX7_tell_32 : decode cX7_tell 32 = .ok (.getfield 126, 3) := by decide +kernel
theorem dX7_tell_35 : decode cX7_tell 35 = .ok (.iload_n 1, 1) := by decide +kernel
theorem dX7_tell_36 : decode cX7_tell 36 = .ok (.iaload, 1) := by decide +kernel
theorem dX7_tell_37 : decode cX7_tell 37 = .ok (.istore_n 2, 1) := by decide +kernel
theorem dX7_tell_38 : decode cX7_tell 38 = .ok (.aload_n 0, 1) := by decide +kernel
theorem dX7_tell_39 : decode cX7_tell 39 = .ok (.getfield 10, 3) := by decide +kernel
theorem dX7_tell_42 : decode cX7_tell 42 = .ok (.getfield 126, 3) := by decide +kernel
theorem dX7_tell_45 : decode cX7_tell 45 = .ok (.iload_n 1, 1) := by decide +kernel
theorem dX7_tell_46 : decode cX7_tell 46 = .ok (.aload_n 0, 1) := by decide +kernel
theorem dX7_tell_47 : decode cX7_tell 47 = .ok (.getfield 10, 3) := by decide +kernel
theorem dX7_tell_50 : decode cX7_tell 50 = .ok (.getfield 118, 3) := by decide +kernel
theorem dX7_tell_53 : decode cX7_tell 53 = .ok (.iastore, 1) := by decide +kernel
theorem dX7_tell_54 : decode cX7_tell 54 = .ok (.iload_n 2, 1) := by decide +kernel
theorem dX7_tell_55 : decode cX7_tell 55 = .ok (.ireturn, 1) := by decide +kernel
set_option maxRecDepth 20000 in
theorem ggX7_lookout_X1_push : GoodIn wsX7_lookout wsX1_push := goodIn_r _ [10, 11, 12, 13, 14, 15, 16, 17, 18, 19, 20, 21, 22, 23, 24, 25, 26, 27, 28, 29, 30, 31, 32, 33, 34, 35, 36, 37, 38, 71, 72, 73, 55, 56, 57, 58, 59, 60, 61, 62, 63, 64, 65, 66, 67, 68, 69, 70] (by decide +kernel) (by decide +kernel)
set_option maxRecDepth 20000 in
theorem gX7_lookout_X1_push : GoodIn wsX7_lookout (wsV RX7 94 RX1 yX1_push wsX1_push) := goodIn_app (goodIn_of _ (by decide +kernel)) ggX7_lookout_X1_push
set_option maxRecDepth 20000 in
theorem ggX7_lookout_J6_bitCount_0f7a4 : GoodIn wsX7_lookout wsJ6_bitCount_0f7a4 := goodIn_r _ [42, 43, 44, 45] (by decide +kernel) (by decide +kernel)
set_option maxRecDepth 20000 in
theorem gX7_lookout_J6_bitCount_0f7a4 : GoodIn wsX7_lookout (va_wsS RX7 134 yJ6_bitCount_0f7a4 wsJ6_bitCount_0f7a4) := goodIn_app (goodIn_of _ (by decide +kernel)) ggX7_lookout_J6_bitCount_0f7a4
theorem dX7_lookout_0 : decode cX7_lookout 0 = .ok (.iload_n 1, 1) := by decide +kernel
theorem dX7_lookout_1 : decode cX7_lookout 1 = .ok (.ifCond .lt 8, 3) := by decide +kernel
theorem dX7_lookout_4 : decode cX7_lookout 4 = .ok (.iload_n 1, 1) := by decide +kernel
theorem dX7_lookout_5 : decode cX7_lookout 5 = .ok (.iconst 3, 1) := by decide +kernel
theorem dX7_lookout_6 : decode cX7_lookout 6 = .ok (.if_icmp .lt 13, 3) := by decide +kernel
theorem dX7_lookout_9 : decode cX7_lookout 9 = .ok (.new 69, 3) := by decide +kernel
theorem dX7_lookout_12 : decode cX7_lookout 12 = .ok (.dup, 1) := by decide +kernel
theorem dX7_lookout_13 : decode cX7_lookout 13 = .ok (.ldc 129, 2) := by decide +kernel
theorem dX7_lookout_15 : decode cX7_lookout 15 = .ok (.invokespecial 73, 3) := by decide +kernel
theorem dX7_lookout_18 : decode cX7_lookout 18 = .ok (.athrow, 1) := by decide +kernel
theorem dX7_lookout_19 : decode cX7_lookout 19 = .ok (.aload_n 0, 1) := by decide +kernel
theorem dX7_lookout_20 : decode cX7_lookout 20 = .ok (.getfield 22, 3) := by decide +kernel
theorem dX7_lookout_23 : decode cX7_lookout 23 = .ok (.aload_n 0, 1) := by decide +kernel
theorem dX7_lookout_24 : decode cX7_lookout 24 = .ok (.getfield 10, 3) := by decide +kernel
theorem dX7_lookout_27 : decode cX7_lookout 27 = .ok (.invokevirtual 94, 3) := by decide +kernel
theorem dX7_lookout_30 : decode cX7_lookout 30 = .ok (.iconst 1, 1) := by decide +kernel
theorem dX7_lookout_31 : decode cX7_lookout 31 = .ok (.iload_n 1, 1) := by decide +kernel
theorem dX7_lookout_32 : decode cX7_lookout 32 = .ok (.ishl, 1) := by decide +kernel
theorem dX7_lookout_33 : decode cX7_lookout 33 = .ok (.istore_n 3, 1) := by decide +kernel
theorem dX7_lookout_34 : decode cX7_lookout 34 = .ok (.aload_n 0, 1) := by decide +kernel
theorem dX7_lookout_35 : decode cX7_lookout 35 = .ok (.getfield 10, 3) := by decide +kernel
theorem dX7_lookout_38 : decode cX7_lookout 38 = .ok (.iload_n 2, 1) := by decide +kernel
theorem dX7_lookout_39 : decode cX7_lookout 39 = .ok (.ifCond .eq 15, 3) := by decide +kernel
theorem dX7_lookout_42 : decode cX7_lookout 42 = .ok (.aload_n 0, 1) := by decide +kernel
theorem dX7_lookout_43 : decode cX7_lookout 43 = .ok (.getfield 10, 3) := by decide +kernel
theorem dX7_lookout_46 : decode cX7_lookout 46 = .ok (.getfield 131, 3) := by decide +kernel
theorem dX7_lookout_49 : decode cX7_lookout 49 = .ok (.iload_n 3, 1) := by decide +kernel
theorem dX7_lookout_50 : decode cX7_lookout 50 = .ok (.ior, 1) := by decide +kernel
theorem dX7_lookout_51 : decode cX7_lookout 51 = .ok (.goto 14, 3) := by decide +kernel
theorem dX7_lookout_54 : decode cX7_lookout 54 = .ok (.aload_n 0, 1) := by decide +kernel
theorem dX7_lookout_55 : decode cX7_lookout 55 = .ok (.getfield 10, 3) := by decide +kernel
theorem dX7_lookout_58 : decode cX7_lookout 58 = .ok (.getfield 131, 3) := by decide +kernel
theorem dX7_lookout_61 : decode cX7_lookout 61 = .ok (.iload_n 3, 1) := by decide +kernel
theorem dX7_lookout_62 : decode cX7_lookout 62 = .ok (.iconst (-1), 1) := by decide +kernel
theorem dX7_lookout_63 : decode cX7_lookout 63 = .ok (.ixor, 1) := by decide +kernel
theorem dX7_lookout_64 : decode cX7_lookout 64 = .ok (.iand, 1) := by decide +kernel
theorem dX7_lookout_65 : decode cX7_lookout 65 = .ok (.putfield 131, 3) := by decide +kernel
theorem dX7_lookout_68 : decode cX7_lookout 68 = .ok (.aload_n 0, 1) := by decide +kernel
theorem dX7_lookout_69 : decode cX7_lookout 69 = .ok (.getfield 10, 3) := by decide +kernel
theorem dX7_lookout_72 : decode cX7_lookout 72 = .ok (.getfield 131, 3) := by decide +kernel
theorem dX7_lookout_75 : decode cX7_lookout 75 = .ok (.invokestatic 134, 3) := by decide +kernel
theorem dX7_lookout_78 : decode cX7_lookout 78 = .ok (.ireturn, 1) := by decide +kernel
set_option maxRecDepth 20000 in
theorem ggX7_ban_X7_isMessage : GoodIn wsX7_ban wsX7_isMessage := goodIn_r _ [9] (by decide +kernel) (by decide +kernel)
set_option maxRecDepth 20000 in
theorem gX7_ban_X7_isMessage : GoodIn wsX7_ban (va_wsS RX7 65 yX7_isMessage wsX7_isMessage) := goodIn_app (goodIn_of _ (by decide +kernel)) ggX7_ban_X7_isMessage
set_option maxRecDepth 20000 in
theorem ggX7_ban_X1_push : GoodIn wsX7_ban wsX1_push := goodIn_r _ [14, 15, 16, 17, 18, 19, 20, 21, 22, 23, 24, 25, 26, 27, 28, 29, 30, 31, 32, 33, 34, 35, 36, 37, 38, 39, 40, 41, 42, 71, 72, 73, 55, 56, 57, 58, 59, 60, 61, 62, 63, 64, 65, 66, 67, 68, 69, 70] (by decide +kernel) (by decide +kernel)
set_option maxRecDepth 20000 in
theorem gX7_ban_X1_push : GoodIn wsX7_ban (wsV RX7 94 RX1 yX1_push wsX1_push) := goodIn_app (goodIn_of _ (by decide +kernel)) ggX7_ban_X1_push
set_option maxRecDepth 20000 in
theorem ggX7_ban_X7_hasBit : GoodIn wsX7_ban wsX7_hasBit := goodIn_r _ [45] (by decide +kernel) (by decide +kernel)
set_option maxRecDepth 20000 in
theorem gX7_ban_X7_hasBit : GoodIn wsX7_ban (va_wsS RX7 144 yX7_hasBit wsX7_hasBit) := goodIn_app (goodIn_of _ (by decide +kernel)) ggX7_ban_X7_hasBit
theorem dX7_ban_0 : decode cX7_ban 0 = .ok (.iload_n 1, 1) := by decide +kernel
theorem dX7_ban_1 : decode cX7_ban 1 = .ok (.ifCond .lt 15, 3) := by decide +kernel
theorem dX7_ban_4 : decode cX7_ban 4 = .ok (.iload_n 1, 1) := by decide +kernel
theorem dX7_ban_5 : decode cX7_ban 5 = .ok (.iconst 3, 1) := by decide +kernel
theorem dX7_ban_6 : decode cX7_ban 6 = .ok (.if_icmp .ge 10, 3) := by decide +kernel
theorem dX7_ban_9 : decode cX7_ban 9 = .ok (.iload_n 2, 1) := by decide +kernel
theorem dX7_ban_10 : decode cX7_ban 10 = .ok (.invokestatic 65, 3) := by decide +kernel
theorem dX7_ban_13 : decode cX7_ban 13 = .ok (.ifCond .ne 13, 3) := by decide +kernel
theorem dX7_ban_16 : decode cX7_ban 16 = .ok (.new 69, 3) := by decide +kernel
theorem dX7_ban_19 : decode cX7_ban 19 = .ok (.dup, 1) := by decide +kernel
theorem dX7_ban_20 : decode cX7_ban 20 = .ok (.ldc 139, 2) := by decide +kernel
theorem dX7_ban_22 : decode cX7_ban 22 = .ok (.invokespecial 73, 3) := by decide +kernel
theorem dX7_ban_25 : decode cX7_ban 25 = .ok (.athrow, 1) := by decide +kernel
theorem dX7_ban_26 : decode cX7_ban 26 = .ok (.aload_n 0, 1) := by decide +kernel
theorem dX7_ban_27 : decode cX7_ban 27 = .ok (.getfield 22, 3) := by decide +kernel
theorem dX7_ban_30 : decode cX7_ban 30 = .ok (.aload_n 0, 1) := by decide +kernel
theorem dX7_ban_31 : decode cX7_ban 31 = .ok (.getfield 10, 3) := by decide +kernel
theorem dX7_ban_34 : decode cX7_ban 34 = .ok (.invokevirtual 94, 3) := by decide +kernel
theorem dX7_ban_37 : decode cX7_ban 37 = .ok (.aload_n 0, 1) := by decide +kernel
theorem dX7_ban_38 : decode cX7_ban 38 = .ok (.getfield 10, 3) := by decide +kernel
theorem dX7_ban_41 : decode cX7_ban 41 = .ok (.getfield 141, 3) := by decide +kernel
theorem dX7_ban_44 : decode cX7_ban 44 = .ok (.iload_n 2, 1) := by decide +kernel
theorem dX7_ban_45 : decode cX7_ban 45 = .ok (.dup2, 1) := by decide +kernel
theorem dX7_ban_46 : decode cX7_ban 46 = .ok (.iaload, 1) := by decide +kernel
theorem dX7_ban_47 : decode cX7_ban 47 = .ok (.iconst 1, 1) := by decide +kernel
theorem dX7_ban_48 : decode cX7_ban 48 = .ok (.iload_n 1, 1) := by decide +kernel
theorem dX7_ban_49 : decode cX7_ban 49 = .ok (.ishl, 1) := by decide +kernel
theorem dX7_ban_50 : decode cX7_ban 50 = .ok (.ixor, 1) := by decide +kernel
theorem dX7_ban_51 : decode cX7_ban 51 = .ok (.iastore, 1) := by decide +kernel
theorem dX7_ban_52 : decode cX7_ban 52 = .ok (.aload_n 0, 1) := by decide +kernel
theorem dX7_ban_53 : decode cX7_ban 53 = .ok (.getfield 10, 3) := by decide +kernel
theorem dX7_ban_56 : decode cX7_ban 56 = .ok (.getfield 141, 3) := by decide +kernel
theorem dX7_ban_59 : decode cX7_ban 59 = .ok (.iload_n 2, 1) := by decide +kernel
theorem dX7_ban_60 : decode cX7_ban 60 = .ok (.iaload, 1) := by decide +kernel
theorem dX7_ban_61 : decode cX7_ban 61 = .ok (.iload_n 1, 1) := by decide +kernel
theorem dX7_ban_62 : decode cX7_ban 62 = .ok (.invokestatic 144, 3) := by decide +kernel
theorem dX7_ban_65 : decode cX7_ban 65 = .ok (.ifCond .eq 7, 3) := by decide +kernel
theorem dX7_ban_68 : decode cX7_ban 68 = .ok (.iconst 1, 1) := by decide +kernel
theorem dX7_ban_69 : decode cX7_ban 69 = .ok (.goto 4, 3) := by decide +kernel
theorem dX7_ban_72 : decode cX7_ban 72 = .ok (.iconst 0, 1) := by decide +kernel
theorem dX7_ban_73 : decode cX7_ban 73 = .ok (.ireturn, 1) := by decide +kernel
set_option maxRecDepth 20000 in
theorem ggX7_bell_X1_push : GoodIn wsX7_bell wsX1_push := goodIn_r _ [8, 9, 10, 11, 12, 13, 14, 15, 16, 17, 18, 19, 20, 21, 22, 23, 24, 25, 26, 27, 28, 29, 30, 31, 32, 33, 34, 35, 36, 66, 67, 68, 50, 51, 52, 53, 54, 55, 56, 57, 58, 59, 60, 61, 62, 63, 64, 65] (by decide +kernel) (by decide +kernel)
set_option maxRecDepth 20000 in
theorem gX7_bell_X1_push : GoodIn wsX7_bell (wsV RX7 94 RX1 yX1_push wsX1_push) := goodIn_app (goodIn_of _ (by decide +kernel)) ggX7_bell_X1_push
set_option maxRecDepth 20000 in
theorem ggX7_bell_X3_beginNight : GoodIn wsX7_bell wsX3_beginNight := goodIn_r _ [40, 17, 20, 32, 50, 51, 52, 53, 54, 55, 56, 57, 58, 59, 60, 61, 62, 63, 64, 65] (by decide +kernel) (by decide +kernel)
set_option maxRecDepth 20000 in
theorem gX7_bell_X3_beginNight : GoodIn wsX7_bell (wsV RX7 148 RX3 yX3_beginNight wsX3_beginNight) := goodIn_app (goodIn_of _ (by decide +kernel)) ggX7_bell_X3_beginNight
theorem dX7_bell_0 : decode cX7_bell 0 = .ok (.aload_n 0, 1) := by decide +kernel
theorem dX7_bell_1 : decode cX7_bell 1 = .ok (.getfield 22, 3) := by decide +kernel
theorem dX7_bell_4 : decode cX7_bell 4 = .ok (.aload_n 0, 1) := by decide +kernel
theorem dX7_bell_5 : decode cX7_bell 5 = .ok (.getfield 10, 3) := by decide +kernel
theorem dX7_bell_8 : decode cX7_bell 8 = .ok (.invokevirtual 94, 3) := by decide +kernel
theorem dX7_bell_11 : decode cX7_bell 11 = .ok (.aload_n 0, 1) := by decide +kernel
theorem dX7_bell_12 : decode cX7_bell 12 = .ok (.getfield 10, 3) := by decide +kernel
theorem dX7_bell_15 : decode cX7_bell 15 = .ok (.invokevirtual 148, 3) := by decide +kernel
theorem dX7_bell_18 : decode cX7_bell 18 = .ok (.aload_n 0, 1) := by decide +kernel
theorem dX7_bell_19 : decode cX7_bell 19 = .ok (.getfield 10, 3) := by decide +kernel
theorem dX7_bell_22 : decode cX7_bell 22 = .ok (.getfield 151, 3) := by decide +kernel
theorem dX7_bell_25 : decode cX7_bell 25 = .ok (.ireturn, 1) := by decide +kernel
set_option maxRecDepth 20000 in
theorem ggX7_set_X7_isValueOf : GoodIn wsX7_set wsX7_isValueOf := goodIn_r _ [11] (by decide +kernel) (by decide +kernel)
set_option maxRecDepth 20000 in
theorem gX7_set_X7_isValueOf : GoodIn wsX7_set (va_wsS RX7 156 yX7_isValueOf wsX7_isValueOf) := goodIn_app (goodIn_of _ (by decide +kernel)) ggX7_set_X7_isValueOf
set_option maxRecDepth 20000 in
theorem ggX7_set_X1_push : GoodIn wsX7_set wsX1_push := goodIn_r _ [16, 17, 18, 19, 20, 21, 22, 23, 24, 25, 26, 27, 28, 29, 30, 31, 32, 33, 34, 35, 36, 37, 38, 39, 40, 41, 42, 43, 44, 70, 71, 72, 54, 55, 56, 57, 58, 59, 60, 61, 62, 63, 64, 65, 66, 67, 68, 69] (by decide +kernel) (by decide +kernel)
set_option maxRecDepth 20000 in
theorem gX7_set_X1_push : GoodIn wsX7_set (wsV RX7 94 RX1 yX1_push wsX1_push) := goodIn_app (goodIn_of _ (by decide +kernel)) ggX7_set_X1_push
theorem dX7_set_0 : decode cX7_set 0 = .ok (.iload_n 1, 1) := by decide +kernel
theorem dX7_set_1 : decode cX7_set 1 = .ok (.ifCond .lt 8, 3) := by decide +kernel
theorem dX7_set_4 : decode cX7_set 4 = .ok (.iload_n 1, 1) := by decide +kernel
theorem dX7_set_5 : decode cX7_set 5 = .ok (.iconst 2, 1) := by decide +kernel
theorem dX7_set_6 : decode cX7_set 6 = .ok (.if_icmp .lt 13, 3) := by decide +kernel
theorem dX7_set_9 : decode cX7_set 9 = .ok (.new 69, 3) := by decide +kernel
theorem dX7_set_12 : decode cX7_set 12 = .ok (.dup, 1) := by decide +kernel
theorem dX7_set_13 : decode cX7_set 13 = .ok (.ldc 154, 2) := by decide +kernel
theorem dX7_set_15 : decode cX7_set 15 = .ok (.invokespecial 73, 3) := by decide +kernel
theorem dX7_set_18 : decode cX7_set 18 = .ok (.athrow, 1) := by decide +kernel
theorem dX7_set_19 : decode cX7_set 19 = .ok (.iload_n 1, 1) := by decide +kernel
theorem dX7_set_20 : decode cX7_set 20 = .ok (.iload_n 2, 1) := by decide +kernel
theorem dX7_set_21 : decode cX7_set 21 = .ok (.invokestatic 156, 3) := by decide +kernel
theorem dX7_set_24 : decode cX7_set 24 = .ok (.ifCond .ne 13, 3) := by decide +kernel
theorem dX7_set_27 : decode cX7_set 27 = .ok (.new 80, 3) := by decide +kernel
theorem dX7_set_30 : decode cX7_set 30 = .ok (.dup, 1) := by decide +kernel
theorem dX7_set_31 : decode cX7_set 31 = .ok (.ldc 159, 2) := by decide +kernel
theorem dX7_set_33 : decode cX7_set 33 = .ok (.invokespecial 84, 3) := by decide +kernel
theorem dX7_set_36 : decode cX7_set 36 = .ok (.athrow, 1) := by decide +kernel
theorem dX7_set_37 : decode cX7_set 37 = .ok (.aload_n 0, 1) := by decide +kernel
theorem dX7_set_38 : decode cX7_set 38 = .ok (.getfield 22, 3) := by decide +kernel
theorem dX7_set_41 : decode cX7_set 41 = .ok (.aload_n 0, 1) := by decide +kernel
theorem dX7_set_42 : decode cX7_set 42 = .ok (.getfield 10, 3) := by decide +kernel
theorem dX7_set_45 : decode cX7_set 45 = .ok (.invokevirtual 94, 3) := by decide +kernel
theorem dX7_set_48 : decode cX7_set 48 = .ok (.aload_n 0, 1) := by decide +kernel
theorem dX7_set_49 : decode cX7_set 49 = .ok (.getfield 10, 3) := by decide +kernel
theorem dX7_set_52 : decode cX7_set 52 = .ok (.getfield 161, 3) := by decide +kernel
theorem dX7_set_55 : decode cX7_set 55 = .ok (.iload_n 1, 1) := by decide +kernel
theorem dX7_set_56 : decode cX7_set 56 = .ok (.iaload, 1) := by decide +kernel
theorem dX7_set_57 : decode cX7_set 57 = .ok (.istore_n 3, 1) := by decide +kernel
theorem dX7_set_58 : decode cX7_set 58 = .ok (.aload_n 0, 1) := by decide +kernel
theorem dX7_set_59 : decode cX7_set 59 = .ok (.getfield 10, 3) := by decide +kernel
theorem dX7_set_62 : decode cX7_set 62 = .ok (.getfield 161, 3) := by decide +kernel
theorem dX7_set_65 : decode cX7_set 65 = .ok (.iload_n 1, 1) := by decide +kernel
theorem dX7_set_66 : decode cX7_set 66 = .ok (.iload_n 2, 1) := by decide +kernel
theorem dX7_set_67 : decode cX7_set 67 = .ok (.iastore, 1) := by decide +kernel
theorem dX7_set_68 : decode cX7_set 68 = .ok (.iload_n 3, 1) := by decide +kernel
theorem dX7_set_69 : decode cX7_set 69 = .ok (.ireturn, 1) := by decide +kernel
set_option maxRecDepth 20000 in
theorem ggX7_whistle_X7_isRoom : GoodIn wsX7_whistle wsX7_isRoom := goodIn_r _ [10] (by decide +kernel) (by decide +kernel)
set_option maxRecDepth 20000 in
theorem gX7_whistle_X7_isRoom : GoodIn wsX7_whistle (va_wsS RX7 121 yX7_isRoom wsX7_isRoom) := goodIn_app (goodIn_of _ (by decide +kernel)) ggX7_whistle_X7_isRoom
set_option maxRecDepth 20000 in
theorem ggX7_whistle_X7_isMessage : GoodIn wsX7_whistle wsX7_isMessage := goodIn_r _ [13] (by decide +kernel) (by decide +kernel)
set_option maxRecDepth 20000 in
theorem gX7_whistle_X7_isMessage : GoodIn wsX7_whistle (va_wsS RX7 65 yX7_isMessage wsX7_isMessage) := goodIn_app (goodIn_of _ (by decide +kernel)) ggX7_whistle_X7_isMessage
set_option maxRecDepth 20000 in
theorem ggX7_whistle_X3_reasonAgainst : GoodIn wsX7_whistle wsX3_reasonAgainst := goodIn_r _ [18, 19, 20, 21, 22, 17, 23, 24, 25, 126, 127, 128, 129, 130, 131, 132, 133, 134, 135, 136, 137, 138, 139, 140, 141] (by decide +kernel) (by decide +kernel)
set_option maxRecDepth 20000 in
theorem gX7_whistle_X3_reasonAgainst : GoodIn wsX7_whistle (wsV RX7 166 RX3 yX3_reasonAgainst wsX3_reasonAgainst) := goodIn_app (goodIn_of _ (by decide +kernel)) ggX7_whistle_X3_reasonAgainst
set_option maxRecDepth 20000 in
theorem ggX7_whistle_X1_push : GoodIn wsX7_whistle wsX1_push := goodIn_r _ [30, 31, 32, 33, 34, 35, 36, 17, 37, 38, 39, 40, 41, 25, 42, 43, 44, 45, 19, 46, 47, 48, 49, 50, 24, 51, 52, 53, 54, 142, 143, 144, 126, 127, 128, 129, 130, 131, 132, 133, 134, 135, 136, 137, 138, 139, 140, 141] (by decide +kernel) (by decide +kernel)
set_option maxRecDepth 20000 in
theorem gX7_whistle_X1_push : GoodIn wsX7_whistle (wsV RX7 94 RX1 yX1_push wsX1_push) := goodIn_app (goodIn_of _ (by decide +kernel)) ggX7_whistle_X1_push
set_option maxRecDepth 20000 in
theorem ggX7_whistle_X7_soundWhistle : GoodIn wsX7_whistle wsX7_soundWhistle := goodIn_r _ [58, 59, 5, 60, 61, 62, 63, 64, 65, 66, 67, 68, 69, 70, 71, 72, 73, 74, 75, 76, 17, 77, 40, 78, 79, 80, 81, 25, 82, 9, 83, 84, 85, 86, 87, 88, 89, 90, 91, 50, 92, 93, 94, 95, 38, 96, 97, 98, 99, 53, 100, 101, 102, 103, 48, 49, 104, 24, 41, 105, 106, 107, 108, 109, 110, 111, 112, 113, 114, 115, 51, 52, 116, 117, 118, 119, 120, 121, 122, 123, 124, 125, 145, 146, 147, 148, 149, 126, 127, 128, 129, 130, 131, 132, 133, 134, 135, 136, 137, 138, 139, 140, 141] (by decide +kernel) (by decide +kernel)
set_option maxRecDepth 20000 in
theorem gX7_whistle_X7_soundWhistle : GoodIn wsX7_whistle (wsV RX7 172 RX7 yX7_soundWhistle wsX7_soundWhistle) := goodIn_app (goodIn_of _ (by decide +kernel)) ggX7_whistle_X7_soundWhistle
theorem dX7_whistle_0 : decode cX7_whistle 0 = .ok (.iload_n 1, 1) := by decide +kernel
theorem dX7_whistle_1 : decode cX7_whistle 1 = .ok (.invokestatic 121, 3) := by decide +kernel
theorem dX7_whistle_4 : decode cX7_whistle 4 = .ok (.ifCond .eq 10, 3) := by decide +kernel
theorem dX7_whistle_7 : decode cX7_whistle 7 = .ok (.iload_n 2, 1) := by decide +kernel
theorem dX7_whistle_8 : decode cX7_whistle 8 = .ok (.invokestatic 65, 3) := by decide +kernel
theorem dX7_whistle_11 : decode cX7_whistle 11 = .ok (.ifCond .ne 13, 3) := by decide +kernel
theorem dX7_whistle_14 : decode cX7_whistle 14 = .ok (.new 69, 3) := by decide +kernel
theorem dX7_whistle_17 : decode cX7_whistle 17 = .ok (.dup, 1) := by decide +kernel
theorem dX7_whistle_18 : decode cX7_whistle 18 = .ok (.ldc 164, 2) := by decide +kernel
theorem dX7_whistle_20 : decode cX7_whistle 20 = .ok (.invokespecial 73, 3) := by decide +kernel
theorem dX7_whistle_23 : decode cX7_whistle 23 = .ok (.athrow, 1) := by decide +kernel
theorem dX7_whistle_24 : decode cX7_whistle 24 = .ok (.aload_n 0, 1) := by decide +kernel
theorem dX7_whistle_25 : decode cX7_whistle 25 = .ok (.getfield 10, 3) := by decide +kernel
theorem dX7_whistle_28 : decode cX7_whistle 28 = .ok (.iload_n 1, 1) := by decide +kernel
theorem dX7_whistle_29 : decode cX7_whistle 29 = .ok (.iload_n 2, 1) := by decide +kernel
theorem dX7_whistle_30 : decode cX7_whistle 30 = .ok (.invokevirtual 166, 3) := by decide +kernel
theorem dX7_whistle_33 : decode cX7_whistle 33 = .ok (.ifCond .eq 13, 3) := by decide +kernel
theorem dX7_whistle_36 : decode cX7_whistle 36 = .ok (.new 89, 3) := by decide +kernel
theorem dX7_whistle_39 : decode cX7_whistle 39 = .ok (.dup, 1) := by decide +kernel
theorem dX7_whistle_40 : decode cX7_whistle 40 = .ok (.ldc 170, 2) := by decide +kernel
theorem dX7_whistle_42 : decode cX7_whistle 42 = .ok (.invokespecial 93, 3) := by decide +kernel
theorem dX7_whistle_45 : decode cX7_whistle 45 = .ok (.athrow, 1) := by decide +kernel
theorem dX7_whistle_46 : decode cX7_whistle 46 = .ok (.aload_n 0, 1) := by decide +kernel
theorem dX7_whistle_47 : decode cX7_whistle 47 = .ok (.getfield 22, 3) := by decide +kernel
theorem dX7_whistle_50 : decode cX7_whistle 50 = .ok (.aload_n 0, 1) := by decide +kernel
theorem dX7_whistle_51 : decode cX7_whistle 51 = .ok (.getfield 10, 3) := by decide +kernel
theorem dX7_whistle_54 : decode cX7_whistle 54 = .ok (.invokevirtual 94, 3) := by decide +kernel
theorem dX7_whistle_57 : decode cX7_whistle 57 = .ok (.aload_n 0, 1) := by decide +kernel
theorem dX7_whistle_58 : decode cX7_whistle 58 = .ok (.iload_n 1, 1) := by decide +kernel
theorem dX7_whistle_59 : decode cX7_whistle 59 = .ok (.iload_n 2, 1) := by decide +kernel
theorem dX7_whistle_60 : decode cX7_whistle 60 = .ok (.invokevirtual 172, 3) := by decide +kernel
theorem dX7_whistle_63 : decode cX7_whistle 63 = .ok (.ireturn, 1) := by decide +kernel
set_option maxRecDepth 20000 in
theorem ggX7_append_X5_add : GoodIn wsX7_append wsX5_add := goodIn_r _ [11, 12, 13, 23, 24] (by decide +kernel) (by decide +kernel)
set_option maxRecDepth 20000 in
theorem gX7_append_X5_add : GoodIn wsX7_append (wsV RX7 180 RX5 yX5_add wsX5_add) := goodIn_app (goodIn_of _ (by decide +kernel)) ggX7_append_X5_add
theorem dX7_append_0 : decode cX7_append 0 = .ok (.iload_n 1, 1) := by decide +kernel
theorem dX7_append_1 : decode cX7_append 1 = .ok (.bipush 33, 2) := by decide +kernel
theorem dX7_append_3 : decode cX7_append 3 = .ok (.if_icmp .lt 9, 3) := by decide +kernel
theorem dX7_append_6 : decode cX7_append 6 = .ok (.iload_n 1, 1) := by decide +kernel
theorem dX7_append_7 : decode cX7_append 7 = .ok (.bipush 126, 2) := by decide +kernel
theorem dX7_append_9 : decode cX7_append 9 = .ok (.if_icmp .le 13, 3) := by decide +kernel
theorem dX7_append_12 : decode cX7_append 12 = .ok (.new 80, 3) := by decide +kernel
theorem dX7_append_15 : decode cX7_append 15 = .ok (.dup, 1) := by decide +kernel
theorem dX7_append_16 : decode cX7_append 16 = .ok (.ldc 175, 2) := by decide +kernel
theorem dX7_append_18 : decode cX7_append 18 = .ok (.invokespecial 84, 3) := by decide +kernel
theorem dX7_append_21 : decode cX7_append 21 = .ok (.athrow, 1) := by decide +kernel
theorem dX7_append_22 : decode cX7_append 22 = .ok (.aload_n 0, 1) := by decide +kernel
theorem dX7_append_23 : decode cX7_append 23 = .ok (.getfield 29, 3) := by decide +kernel
theorem dX7_append_26 : decode cX7_append 26 = .ok (.getfield 177, 3) := by decide +kernel
theorem dX7_append_29 : decode cX7_append 29 = .ok (.bipush 60, 2) := by decide +kernel
theorem dX7_append_31 : decode cX7_append 31 = .ok (.if_icmp .lt 13, 3) := by decide +kernel
theorem dX7_append_34 : decode cX7_append 34 = .ok (.new 89, 3) := by decide +kernel
theorem dX7_append_37 : decode cX7_append 37 = .ok (.dup, 1) := by decide +kernel
theorem dX7_append_38 : decode cX7_append 38 = .ok (.ldc 178, 2) := by decide +kernel
theorem dX7_append_40 : decode cX7_append 40 = .ok (.invokespecial 93, 3) := by decide +kernel
theorem dX7_append_43 : decode cX7_append 43 = .ok (.athrow, 1) := by decide +kernel
theorem dX7_append_44 : decode cX7_append 44 = .ok (.aload_n 0, 1) := by decide +kernel
theorem dX7_append_45 : decode cX7_append 45 = .ok (.getfield 29, 3) := by decide +kernel
theorem dX7_append_48 : decode cX7_append 48 = .ok (.iload_n 1, 1) := by decide +kernel
theorem dX7_append_49 : decode cX7_append 49 = .ok (.i2c, 1) := by decide +kernel
theorem dX7_append_50 : decode cX7_append 50 = .ok (.invokevirtual 180, 3) := by decide +kernel
theorem dX7_append_53 : decode cX7_append 53 = .ok (.aload_n 0, 1) := by decide +kernel
theorem dX7_append_54 : decode cX7_append 54 = .ok (.getfield 29, 3) := by decide +kernel
theorem dX7_append_57 : decode cX7_append 57 = .ok (.getfield 177, 3) := by decide +kernel
theorem dX7_append_60 : decode cX7_append 60 = .ok (.ireturn, 1) := by decide +kernel
set_option maxRecDepth 20000 in
theorem ggX7_clearBuffer_X5_empty : GoodIn wsX7_clearBuffer wsX5_empty := goodIn_r _ [7, 8, 18, 19] (by decide +kernel) (by decide +kernel)
set_option maxRecDepth 20000 in
theorem gX7_clearBuffer_X5_empty : GoodIn wsX7_clearBuffer (wsV RX7 102 RX5 yX5_empty wsX5_empty) := goodIn_app (goodIn_of _ (by decide +kernel)) ggX7_clearBuffer_X5_empty
theorem dX7_clearBuffer_0 : decode cX7_clearBuffer 0 = .ok (.aload_n 0, 1) := by decide +kernel
theorem dX7_clearBuffer_1 : decode cX7_clearBuffer 1 = .ok (.getfield 29, 3) := by decide +kernel
theorem dX7_clearBuffer_4 : decode cX7_clearBuffer 4 = .ok (.getfield 177, 3) := by decide +kernel
theorem dX7_clearBuffer_7 : decode cX7_clearBuffer 7 = .ok (.istore_n 1, 1) := by decide +kernel
theorem dX7_clearBuffer_8 : decode cX7_clearBuffer 8 = .ok (.aload_n 0, 1) := by decide +kernel
theorem dX7_clearBuffer_9 : decode cX7_clearBuffer 9 = .ok (.getfield 29, 3) := by decide +kernel
theorem dX7_clearBuffer_12 : decode cX7_clearBuffer 12 = .ok (.invokevirtual 102, 3) := by decide +kernel
theorem dX7_clearBuffer_15 : decode cX7_clearBuffer 15 = .ok (.iload_n 1, 1) := by decide +kernel
theorem dX7_clearBuffer_16 : decode cX7_clearBuffer 16 = .ok (.ireturn, 1) := by decide +kernel
set_option maxRecDepth 20000 in
theorem ggX7_firstError_X0_readEvening : GoodIn wsX7_firstError wsX0_readEvening := goodIn_r _ [7, 8, 9, 10, 11, 6, 12, 13, 14, 15, 16, 17, 18, 19, 20, 21, 22, 23, 24, 25, 26, 27, 28, 29, 30, 31, 32, 33, 34, 35, 36, 37, 38, 39, 40, 41, 42, 43, 44, 45, 46, 47, 48, 49, 50, 51, 52, 53, 54, 55, 56, 57, 58, 59, 60, 61, 62, 63, 64, 65, 66, 67, 68, 69, 70, 71, 72, 73, 74, 75, 76, 77, 78, 79, 80, 81, 82, 83, 84, 85, 86, 87, 88, 89, 90, 91, 92, 93, 94, 95, 96, 97, 98, 99, 100, 101, 102, 103, 104, 105, 106, 107, 108, 109, 110, 111, 112, 113, 114, 115, 116, 117, 118, 119, 120, 121, 122, 123, 124, 125, 126, 127, 128, 129, 130, 131, 132, 142, 143, 144, 145, 146] (by decide +kernel) (by decide +kernel)
set_option maxRecDepth 20000 in
theorem gX7_firstError_X0_readEvening : GoodIn wsX7_firstError (wsV RX7 184 RX0 yX0_readEvening wsX0_readEvening) := goodIn_app (goodIn_of _ (by decide +kernel)) ggX7_firstError_X0_readEvening
theorem dX7_firstError_0 : decode cX7_firstError 0 = .ok (.aload_n 0, 1) := by decide +kernel
theorem dX7_firstError_1 : decode cX7_firstError 1 = .ok (.getfield 36, 3) := by decide +kernel
theorem dX7_firstError_4 : decode cX7_firstError 4 = .ok (.aload_n 0, 1) := by decide +kernel
theorem dX7_firstError_5 : decode cX7_firstError 5 = .ok (.getfield 29, 3) := by decide +kernel
theorem dX7_firstError_8 : decode cX7_firstError 8 = .ok (.invokevirtual 184, 3) := by decide +kernel
theorem dX7_firstError_11 : decode cX7_firstError 11 = .ok (.ireturn, 1) := by decide +kernel
set_option maxRecDepth 20000 in
theorem ggX7_tuneError_X0_readTune : GoodIn wsX7_tuneError wsX0_readTune := goodIn_r _ [7, 8, 9, 10, 11, 6, 12, 13, 14, 15, 16, 17, 18, 19, 20, 21, 22, 23, 24, 25, 26, 27, 28, 29, 30, 31, 32, 33, 34, 35, 36, 37, 38, 39, 40, 41, 42, 43, 44, 45, 46, 47, 48, 49, 50, 51, 52, 53, 54, 55, 56, 57, 58, 59, 60, 61, 62, 63, 64, 65, 66, 67, 68, 69, 70, 71, 72, 73, 74, 75, 76, 77, 78, 79, 80, 81, 82, 83, 84, 85, 86, 87, 88, 89, 90, 91, 92, 93, 94, 95, 96, 97, 98, 99, 100, 101, 102, 103, 104, 105, 106, 107, 108, 109, 110, 111, 112, 113, 114, 115, 116, 117, 118, 119, 120, 121, 122, 123, 124, 125, 126, 127, 128, 129, 130, 131, 132, 142, 143, 144, 145, 146] (by decide +kernel) (by decide +kernel)
set_option maxRecDepth 20000 in
theorem gX7_tuneError_X0_readTune : GoodIn wsX7_tuneError (wsV RX7 188 RX0 yX0_readTune wsX0_readTune) := goodIn_app (goodIn_of _ (by decide +kernel)) ggX7_tuneError_X0_readTune
theorem dX7_tuneError_0 : decode cX7_tuneError 0 = .ok (.aload_n 0, 1) := by decide +kernel
theorem dX7_tuneError_1 : decode cX7_tuneError 1 = .ok (.getfield 36, 3) := by decide +kernel
theorem dX7_tuneError_4 : decode cX7_tuneError 4 = .ok (.aload_n 0, 1) := by decide +kernel
theorem dX7_tuneError_5 : decode cX7_tuneError 5 = .ok (.getfield 29, 3) := by decide +kernel
theorem dX7_tuneError_8 : decode cX7_tuneError 8 = .ok (.invokevirtual 188, 3) := by decide +kernel
theorem dX7_tuneError_11 : decode cX7_tuneError 11 = .ok (.ireturn, 1) := by decide +kernel
set_option maxRecDepth 20000 in
theorem ggX7_play_X0_readEvening : GoodIn wsX7_play wsX0_readEvening := goodIn_r _ [13, 14, 15, 16, 17, 12, 18, 19, 20, 21, 22, 23, 24, 25, 26, 27, 28, 29, 30, 31, 32, 33, 34, 35, 36, 37, 38, 39, 40, 41, 42, 43, 44, 45, 46, 47, 48, 49, 50, 51, 52, 53, 54, 55, 56, 57, 58, 59, 60, 61, 62, 63, 64, 65, 66, 67, 68, 69, 70, 71, 72, 73, 74, 75, 76, 77, 78, 79, 80, 81, 82, 83, 84, 85, 86, 87, 88, 89, 90, 91, 92, 93, 94, 95, 96, 97, 98, 99, 100, 101, 102, 103, 104, 105, 106, 107, 108, 109, 110, 111, 112, 113, 114, 115, 116, 117, 118, 119, 120, 121, 122, 123, 124, 125, 126, 127, 128, 129, 130, 131, 132, 133, 134, 135, 136, 137, 138, 390, 391, 392, 372, 373] (by decide +kernel) (by decide +kernel)
set_option maxRecDepth 20000 in
theorem gX7_play_X0_readEvening : GoodIn wsX7_play (wsV RX7 184 RX0 yX0_readEvening wsX0_readEvening) := goodIn_app (goodIn_of _ (by decide +kernel)) ggX7_play_X0_readEvening
set_option maxRecDepth 20000 in
theorem ggX7_play_X0_mayEnd : GoodIn wsX7_play wsX0_mayEnd := goodIn_r _ [142, 19, 20, 390, 391, 392] (by decide +kernel) (by decide +kernel)
set_option maxRecDepth 20000 in
theorem gX7_play_X0_mayEnd : GoodIn wsX7_play (wsV RX7 191 RX0 yX0_mayEnd wsX0_mayEnd) := goodIn_app (goodIn_of _ (by decide +kernel)) ggX7_play_X0_mayEnd
set_option maxRecDepth 20000 in
theorem ggX7_play_X1_push : GoodIn wsX7_play wsX1_push := goodIn_r _ [147, 148, 149, 150, 151, 152, 153, 154, 155, 156, 157, 158, 159, 160, 161, 162, 163, 164, 165, 166, 167, 168, 169, 170, 171, 172, 173, 174, 175, 393, 394, 395, 374, 375, 376, 377, 378, 379, 380, 381, 382, 383, 384, 385, 386, 387, 388, 389] (by decide +kernel) (by decide +kernel)
set_option maxRecDepth 20000 in
theorem gX7_play_X1_push : GoodIn wsX7_play (wsV RX7 94 RX1 yX1_push wsX1_push) := goodIn_app (goodIn_of _ (by decide +kernel)) ggX7_play_X1_push
set_option maxRecDepth 20000 in
theorem ggX7_play_X5_at : GoodIn wsX7_play wsX5_at := goodIn_r _ [26, 27, 28, 372, 373] (by decide +kernel) (by decide +kernel)
set_option maxRecDepth 20000 in
theorem gX7_play_X5_at : GoodIn wsX7_play (wsV RX7 196 RX5 yX5_at wsX5_at) := goodIn_app (goodIn_of _ (by decide +kernel)) ggX7_play_X5_at
set_option maxRecDepth 20000 in
theorem ggX7_play_X7_playPart : GoodIn wsX7_play wsX7_playPart := goodIn_r _ [181, 4, 7, 182, 176, 23, 24, 25, 26, 27, 28, 183, 184, 185, 186, 187, 188, 189, 190, 180, 191, 192, 193, 194, 195, 196, 197, 198, 199, 200, 154, 201, 165, 202, 203, 204, 205, 171, 160, 206, 207, 208, 209, 210, 211, 212, 213, 214, 215, 216, 217, 218, 219, 220, 221, 222, 223, 224, 225, 226, 227, 228, 158, 229, 230, 231, 232, 233, 234, 235, 236, 237, 238, 239, 240, 241, 242, 170, 243, 244, 245, 246, 156, 247, 248, 249, 250, 174, 251, 252, 253, 254, 168, 169, 255, 159, 256, 257, 258, 259, 260, 261, 262, 263, 264, 265, 266, 172, 173, 267, 268, 269, 270, 271, 272, 273, 274, 275, 276, 277, 278, 279, 280, 281, 47, 48, 49, 50, 51, 52, 53, 54, 55, 56, 57, 58, 59, 60, 61, 62, 63, 64, 65, 66, 67, 68, 69, 70, 71, 72, 73, 74, 75, 76, 77, 78, 79, 80, 81, 82, 83, 84, 85, 86, 87, 88, 89, 90, 91, 92, 93, 94, 95, 96, 97, 98, 99, 100, 101, 102, 103, 104, 105, 106, 107, 108, 109, 110, 111, 112, 113, 114, 115, 116, 117, 118, 119, 120, 121, 122, 123, 124, 125, 126, 127, 128, 129, 130, 131, 132, 133, 134, 282, 283, 284, 285, 286, 287, 288, 289, 290, 291, 292, 293, 294, 295, 296, 297, 298, 299, 300, 301, 302, 303, 304, 305, 306, 307, 308, 309, 310, 311, 312, 313, 314, 315, 316, 317, 318, 319, 320, 166, 321, 322, 323, 324, 325, 326, 327, 328, 329, 330, 331, 332, 333, 334, 335, 336, 337, 338, 339, 340, 341, 342, 343, 344, 345, 346, 347, 348, 161, 162, 163, 164, 349, 350, 351, 352, 353, 354, 355, 356, 357, 358, 363, 364, 365, 366, 367, 368, 369, 370, 371, 374, 375, 376, 377, 378, 379, 380, 381, 382, 383, 384, 385, 386, 387, 388, 389, 372, 373, 396, 397, 398, 399, 400, 401, 402, 403, 404, 405, 406] (by decide +kernel) (by decide +kernel)
set_option maxRecDepth 20000 in
theorem gX7_play_X7_playPart : GoodIn wsX7_play (wsV RX7 200 RX7 yX7_playPart wsX7_playPart) := goodIn_app (goodIn_of _ (by decide +kernel)) ggX7_play_X7_playPart
set_option maxRecDepth 20000 in
theorem ggX7_play_X5_empty : GoodIn wsX7_play wsX5_empty := goodIn_r _ [362, 27, 372, 373] (by decide +kernel) (by decide +kernel)
set_option maxRecDepth 20000 in
theorem gX7_play_X5_empty : GoodIn wsX7_play (wsV RX7 102 RX5 yX5_empty wsX5_empty) := goodIn_app (goodIn_of _ (by decide +kernel)) ggX7_play_X5_empty
theorem dX7_play_0 : decode cX7_play 0 = .ok (.aload_n 0, 1) := by decide +kernel
theorem dX7_play_1 : decode cX7_play 1 = .ok (.getfield 36, 3) := by decide +kernel
theorem dX7_play_4 : decode cX7_play 4 = .ok (.aload_n 0, 1) := by decide +kernel
theorem dX7_play_5 : decode cX7_play 5 = .ok (.getfield 29, 3) := by decide +kernel
theorem dX7_play_8 : decode cX7_play 8 = .ok (.invokevirtual 184, 3) := by decide +kernel
theorem dX7_play_11 : decode cX7_play 11 = .ok (.aload_n 0, 1) := by decide +kernel
theorem dX7_play_12 : decode cX7_play 12 = .ok (.getfield 29, 3) := by decide +kernel
theorem dX7_play_15 : decode cX7_play 15 = .ok (.getfield 177, 3) := by decide +kernel
theorem dX7_play_18 : decode cX7_play 18 = .ok (.if_icmp .lt 13, 3) := by decide +kernel
theorem dX7_play_21 : decode cX7_play 21 = .ok (.aload_n 0, 1) := by decide +kernel
theorem dX7_play_22 : decode cX7_play 22 = .ok (.getfield 36, 3) := by decide +kernel
theorem dX7_play_25 : decode cX7_play 25 = .ok (.invokevirtual 191, 3) := by decide +kernel
theorem dX7_play_28 : decode cX7_play 28 = .ok (.ifCond .ne 13, 3) := by decide +kernel
theorem dX7_play_31 : decode cX7_play 31 = .ok (.new 80, 3) := by decide +kernel
theorem dX7_play_34 : decode cX7_play 34 = .ok (.dup, 1) := by decide +kernel
theorem dX7_play_35 : decode cX7_play 35 = .ok (.ldc 194, 2) := by decide +kernel
theorem dX7_play_37 : decode cX7_play 37 = .ok (.invokespecial 84, 3) := by decide +kernel
theorem dX7_play_40 : decode cX7_play 40 = .ok (.athrow, 1) := by decide +kernel
theorem dX7_play_41 : decode cX7_play 41 = .ok (.aload_n 0, 1) := by decide +kernel
theorem dX7_play_42 : decode cX7_play 42 = .ok (.getfield 22, 3) := by decide +kernel
theorem dX7_play_45 : decode cX7_play 45 = .ok (.aload_n 0, 1) := by decide +kernel
theorem dX7_play_46 : decode cX7_play 46 = .ok (.getfield 10, 3) := by decide +kernel
theorem dX7_play_49 : decode cX7_play 49 = .ok (.invokevirtual 94, 3) := by decide +kernel
theorem dX7_play_52 : decode cX7_play 52 = .ok (.iconst 0, 1) := by decide +kernel
theorem dX7_play_53 : decode cX7_play 53 = .ok (.istore_n 1, 1) := by decide +kernel
theorem dX7_play_54 : decode cX7_play 54 = .ok (.iconst 0, 1) := by decide +kernel
theorem dX7_play_55 : decode cX7_play 55 = .ok (.istore_n 2, 1) := by decide +kernel
theorem dX7_play_56 : decode cX7_play 56 = .ok (.iconst 0, 1) := by decide +kernel
theorem dX7_play_57 : decode cX7_play 57 = .ok (.istore_n 3, 1) := by decide +kernel
theorem dX7_play_58 : decode cX7_play 58 = .ok (.iconst 0, 1) := by decide +kernel
theorem dX7_play_59 : decode cX7_play 59 = .ok (.istore 4, 2) := by decide +kernel
theorem dX7_play_61 : decode cX7_play 61 = .ok (.iload 4, 2) := by decide +kernel
theorem dX7_play_63 : decode cX7_play 63 = .ok (.aload_n 0, 1) := by decide +kernel
theorem dX7_play_64 : decode cX7_play 64 = .ok (.getfield 29, 3) := by decide +kernel
theorem dX7_play_67 : decode cX7_play 67 = .ok (.getfield 177, 3) := by decide +kernel
theorem dX7_play_70 : decode cX7_play 70 = .ok (.if_icmp .gt 64, 3) := by decide +kernel
theorem dX7_play_73 : decode cX7_play 73 = .ok (.iload_n 2, 1) := by decide +kernel
theorem dX7_play_74 : decode cX7_play 74 = .ok (.ifCond .ne 60, 3) := by decide +kernel
theorem dX7_play_77 : decode cX7_play 77 = .ok (.iload 4, 2) := by decide +kernel
theorem dX7_play_79 : decode cX7_play 79 = .ok (.aload_n 0, 1) := by decide +kernel
theorem dX7_play_80 : decode cX7_play 80 = .ok (.getfield 29, 3) := by decide +kernel
theorem dX7_play_83 : decode cX7_play 83 = .ok (.getfield 177, 3) := by decide +kernel
theorem dX7_play_86 : decode cX7_play 86 = .ok (.if_icmp .eq 17, 3) := by decide +kernel
theorem dX7_play_89 : decode cX7_play 89 = .ok (.aload_n 0, 1) := by decide +kernel
theorem dX7_play_90 : decode cX7_play 90 = .ok (.getfield 29, 3) := by decide +kernel
theorem dX7_play_93 : decode cX7_play 93 = .ok (.iload 4, 2) := by decide +kernel
theorem dX7_play_95 : decode cX7_play 95 = .ok (.invokevirtual 196, 3) := by decide +kernel
theorem dX7_play_98 : decode cX7_play 98 = .ok (.bipush 44, 2) := by decide +kernel
theorem dX7_play_100 : decode cX7_play 100 = .ok (.if_icmp .ne 28, 3) := by decide +kernel
theorem dX7_play_103 : decode cX7_play 103 = .ok (.aload_n 0, 1) := by decide +kernel
theorem dX7_play_104 : decode cX7_play 104 = .ok (.iload_n 3, 1) := by decide +kernel
theorem dX7_play_105 : decode cX7_play 105 = .ok (.iload 4, 2) := by decide +kernel
theorem dX7_play_107 : decode cX7_play 107 = .ok (.invokevirtual 200, 3) := by decide +kernel
theorem dX7_play_110 : decode cX7_play 110 = .ok (.istore_n 2, 1) := by decide +kernel
theorem dX7_play_111 : decode cX7_play 111 = .ok (.iload_n 1, 1) := by decide +kernel
theorem dX7_play_112 : decode cX7_play 112 = .ok (.iload_n 2, 1) := by decide +kernel
theorem dX7_play_113 : decode cX7_play 113 = .ok (.ifCond .ne 7, 3) := by decide +kernel
theorem dX7_play_116 : decode cX7_play 116 = .ok (.iconst 1, 1) := by decide +kernel
theorem dX7_play_117 : decode cX7_play 117 = .ok (.goto 4, 3) := by decide +kernel
theorem dX7_play_120 : decode cX7_play 120 = .ok (.iconst 0, 1) := by decide +kernel
theorem dX7_play_121 : decode cX7_play 121 = .ok (.iadd, 1) := by decide +kernel
theorem dX7_play_122 : decode cX7_play 122 = .ok (.istore_n 1, 1) := by decide +kernel
theorem dX7_play_123 : decode cX7_play 123 = .ok (.iload 4, 2) := by decide +kernel
theorem dX7_play_125 : decode cX7_play 125 = .ok (.iconst 1, 1) := by decide +kernel
theorem dX7_play_126 : decode cX7_play 126 = .ok (.iadd, 1) := by decide +kernel
theorem dX7_play_127 : decode cX7_play 127 = .ok (.istore_n 3, 1) := by decide +kernel
theorem dX7_play_128 : decode cX7_play 128 = .ok (.iinc 4 1, 3) := by decide +kernel
theorem dX7_play_131 : decode cX7_play 131 = .ok (.goto (-70), 3) := by decide +kernel
theorem dX7_play_134 : decode cX7_play 134 = .ok (.aload_n 0, 1) := by decide +kernel
theorem dX7_play_135 : decode cX7_play 135 = .ok (.getfield 10, 3) := by decide +kernel
theorem dX7_play_138 : decode cX7_play 138 = .ok (.getfield 203, 3) := by decide +kernel
theorem dX7_play_141 : decode cX7_play 141 = .ok (.iconst 0, 1) := by decide +kernel
theorem dX7_play_142 : decode cX7_play 142 = .ok (.iload_n 2, 1) := by decide +kernel
theorem dX7_play_143 : decode cX7_play 143 = .ok (.ifCond .ne 7, 3) := by decide +kernel
theorem dX7_play_146 : decode cX7_play 146 = .ok (.iconst (-1), 1) := by decide +kernel
theorem dX7_play_147 : decode cX7_play 147 = .ok (.goto 4, 3) := by decide +kernel
theorem dX7_play_150 : decode cX7_play 150 = .ok (.iload_n 1, 1) := by decide +kernel
theorem dX7_play_151 : decode cX7_play 151 = .ok (.iastore, 1) := by decide +kernel
theorem dX7_play_152 : decode cX7_play 152 = .ok (.aload_n 0, 1) := by decide +kernel
theorem dX7_play_153 : decode cX7_play 153 = .ok (.getfield 10, 3) := by decide +kernel
theorem dX7_play_156 : decode cX7_play 156 = .ok (.getfield 203, 3) := by decide +kernel
theorem dX7_play_159 : decode cX7_play 159 = .ok (.iconst 1, 1) := by decide +kernel
theorem dX7_play_160 : decode cX7_play 160 = .ok (.iload_n 2, 1) := by decide +kernel
theorem dX7_play_161 : decode cX7_play 161 = .ok (.ifCond .ne 7, 3) := by decide +kernel
theorem dX7_play_164 : decode cX7_play 164 = .ok (.iconst (-1), 1) := by decide +kernel
theorem dX7_play_165 : decode cX7_play 165 = .ok (.goto 4, 3) := by decide +kernel
theorem dX7_play_168 : decode cX7_play 168 = .ok (.iload_n 2, 1) := by decide +kernel
theorem dX7_play_169 : decode cX7_play 169 = .ok (.iastore, 1) := by decide +kernel
theorem dX7_play_170 : decode cX7_play 170 = .ok (.aload_n 0, 1) := by decide +kernel
theorem dX7_play_171 : decode cX7_play 171 = .ok (.getfield 29, 3) := by decide +kernel
theorem dX7_play_174 : decode cX7_play 174 = .ok (.invokevirtual 102, 3) := by decide +kernel
theorem dX7_play_177 : decode cX7_play 177 = .ok (.iload_n 1, 1) := by decide +kernel
theorem dX7_play_178 : decode cX7_play 178 = .ok (.ireturn, 1) := by decide +kernel
theorem dX7_stopped_0 : decode cX7_stopped 0 = .ok (.iload_n 1, 1) := by decide +kernel
theorem dX7_stopped_1 : decode cX7_stopped 1 = .ok (.ifCond .lt 8, 3) := by decide +kernel
theorem dX7_stopped_4 : decode cX7_stopped 4 = .ok (.iload_n 1, 1) := by decide +kernel
theorem dX7_stopped_5 : decode cX7_stopped 5 = .ok (.iconst 2, 1) := by decide +kernel
theorem dX7_stopped_6 : decode cX7_stopped 6 = .ok (.if_icmp .lt 13, 3) := by decide +kernel
theorem dX7_stopped_9 : decode cX7_stopped 9 = .ok (.new 80, 3) := by decide +kernel
theorem dX7_stopped_12 : decode cX7_stopped 12 = .ok (.dup, 1) := by decide +kernel
theorem dX7_stopped_13 : decode cX7_stopped 13 = .ok (.ldc 206, 2) := by decide +kernel
theorem dX7_stopped_15 : decode cX7_stopped 15 = .ok (.invokespecial 84, 3) := by decide +kernel
theorem dX7_stopped_18 : decode cX7_stopped 18 = .ok (.athrow, 1) := by decide +kernel
theorem dX7_stopped_19 : decode cX7_stopped 19 = .ok (.aload_n 0, 1) := by decide +kernel
theorem dX7_stopped_20 : decode cX7_stopped 20 = .ok (.getfield 10, 3) := by decide +kernel
theorem dX7_stopped_23 : decode cX7_stopped 23 = .ok (.getfield 203, 3) := by decide +kernel
theorem dX7_stopped_26 : decode cX7_stopped 26 = .ok (.iload_n 1, 1) := by decide +kernel
theorem dX7_stopped_27 : decode cX7_stopped 27 = .ok (.iaload, 1) := by decide +kernel
theorem dX7_stopped_28 : decode cX7_stopped 28 = .ok (.ireturn, 1) := by decide +kernel
set_option maxRecDepth 20000 in
theorem ggX7_undo_X1_popInto : GoodIn wsX7_undo wsX1_popInto := goodIn_r _ [10, 11, 12, 13, 14, 15, 16, 17, 18, 19, 20, 21, 22, 23, 24, 25, 26, 27, 28, 29, 30, 31, 32, 33, 34, 35, 36, 37, 38, 48, 49, 50, 51, 52, 53, 54, 55, 56, 57, 58, 59, 60, 61, 62, 63, 64, 65, 66] (by decide +kernel) (by decide +kernel)
set_option maxRecDepth 20000 in
theorem gX7_undo_X1_popInto : GoodIn wsX7_undo (wsV RX7 213 RX1 yX1_popInto wsX1_popInto) := goodIn_app (goodIn_of _ (by decide +kernel)) ggX7_undo_X1_popInto
theorem dX7_undo_0 : decode cX7_undo 0 = .ok (.aload_n 0, 1) := by decide +kernel
theorem dX7_undo_1 : decode cX7_undo 1 = .ok (.getfield 22, 3) := by decide +kernel
theorem dX7_undo_4 : decode cX7_undo 4 = .ok (.getfield 208, 3) := by decide +kernel
theorem dX7_undo_7 : decode cX7_undo 7 = .ok (.ifCond .ne 13, 3) := by decide +kernel
theorem dX7_undo_10 : decode cX7_undo 10 = .ok (.new 89, 3) := by decide +kernel
theorem dX7_undo_13 : decode cX7_undo 13 = .ok (.dup, 1) := by decide +kernel
theorem dX7_undo_14 : decode cX7_undo 14 = .ok (.ldc 211, 2) := by decide +kernel
theorem dX7_undo_16 : decode cX7_undo 16 = .ok (.invokespecial 93, 3) := by decide +kernel
theorem dX7_undo_19 : decode cX7_undo 19 = .ok (.athrow, 1) := by decide +kernel
theorem dX7_undo_20 : decode cX7_undo 20 = .ok (.aload_n 0, 1) := by decide +kernel
theorem dX7_undo_21 : decode cX7_undo 21 = .ok (.getfield 22, 3) := by decide +kernel
theorem dX7_undo_24 : decode cX7_undo 24 = .ok (.aload_n 0, 1) := by decide +kernel
theorem dX7_undo_25 : decode cX7_undo 25 = .ok (.getfield 10, 3) := by decide +kernel
theorem dX7_undo_28 : decode cX7_undo 28 = .ok (.invokevirtual 213, 3) := by decide +kernel
theorem dX7_undo_31 : decode cX7_undo 31 = .ok (.aload_n 0, 1) := by decide +kernel
theorem dX7_undo_32 : decode cX7_undo 32 = .ok (.getfield 22, 3) := by decide +kernel
theorem dX7_undo_35 : decode cX7_undo 35 = .ok (.getfield 208, 3) := by decide +kernel
theorem dX7_undo_38 : decode cX7_undo 38 = .ok (.ireturn, 1) := by decide +kernel
set_option maxRecDepth 20000 in
theorem ggX7_keep_X3_copyFrom : GoodIn wsX7_keep wsX3_copyFrom := goodIn_r _ [9, 10, 11, 12, 13, 14, 15, 16, 17, 18, 19, 20, 21, 22, 23, 24, 25, 26, 27, 28, 29, 39, 40, 41, 42, 43, 44, 45, 46, 47, 48, 49, 50, 51, 52, 53, 54] (by decide +kernel) (by decide +kernel)
set_option maxRecDepth 20000 in
theorem gX7_keep_X3_copyFrom : GoodIn wsX7_keep (wsV RX7 216 RX3 yX3_copyFrom wsX3_copyFrom) := goodIn_app (goodIn_of _ (by decide +kernel)) ggX7_keep_X3_copyFrom
theorem dX7_keep_0 : decode cX7_keep 0 = .ok (.aload_n 0, 1) := by decide +kernel
theorem dX7_keep_1 : decode cX7_keep 1 = .ok (.getfield 16, 3) := by decide +kernel
theorem dX7_keep_4 : decode cX7_keep 4 = .ok (.aload_n 0, 1) := by decide +kernel
theorem dX7_keep_5 : decode cX7_keep 5 = .ok (.getfield 10, 3) := by decide +kernel
theorem dX7_keep_8 : decode cX7_keep 8 = .ok (.invokevirtual 216, 3) := by decide +kernel
theorem dX7_keep_11 : decode cX7_keep 11 = .ok (.aload_n 0, 1) := by decide +kernel
theorem dX7_keep_12 : decode cX7_keep 12 = .ok (.iconst 1, 1) := by decide +kernel
theorem dX7_keep_13 : decode cX7_keep 13 = .ok (.putfield 61, 3) := by decide +kernel
theorem dX7_keep_16 : decode cX7_keep 16 = .ok (.aload_n 0, 1) := by decide +kernel
theorem dX7_keep_17 : decode cX7_keep 17 = .ok (.getfield 10, 3) := by decide +kernel
theorem dX7_keep_20 : decode cX7_keep 20 = .ok (.getfield 151, 3) := by decide +kernel
theorem dX7_keep_23 : decode cX7_keep 23 = .ok (.ireturn, 1) := by decide +kernel
set_option maxRecDepth 20000 in
theorem ggX7_restore_X1_push : GoodIn wsX7_restore wsX1_push := goodIn_r _ [12, 13, 14, 15, 16, 17, 18, 19, 20, 21, 22, 23, 24, 25, 26, 27, 28, 29, 30, 31, 32, 33, 34, 35, 36, 37, 38, 39, 40, 67, 68, 69, 51, 52, 53, 54, 55, 56, 57, 58, 59, 60, 61, 62, 63, 64, 65, 66] (by decide +kernel) (by decide +kernel)
set_option maxRecDepth 20000 in
theorem gX7_restore_X1_push : GoodIn wsX7_restore (wsV RX7 94 RX1 yX1_push wsX1_push) := goodIn_app (goodIn_of _ (by decide +kernel)) ggX7_restore_X1_push
set_option maxRecDepth 20000 in
theorem ggX7_restore_X3_copyFrom : GoodIn wsX7_restore wsX3_copyFrom := goodIn_r _ [20, 21, 22, 23, 24, 25, 26, 27, 28, 29, 30, 31, 32, 33, 34, 35, 36, 37, 38, 39, 40, 51, 52, 53, 54, 55, 56, 57, 58, 59, 60, 61, 62, 63, 64, 65, 66] (by decide +kernel) (by decide +kernel)
set_option maxRecDepth 20000 in
theorem gX7_restore_X3_copyFrom : GoodIn wsX7_restore (wsV RX7 216 RX3 yX3_copyFrom wsX3_copyFrom) := goodIn_app (goodIn_of _ (by decide +kernel)) ggX7_restore_X3_copyFrom
theorem dX7_restore_0 : decode cX7_restore 0 = .ok (.aload_n 0, 1) := by decide +kernel
theorem dX7_restore_1 : decode cX7_restore 1 = .ok (.getfield 61, 3) := by decide +kernel
theorem dX7_restore_4 : decode cX7_restore 4 = .ok (.ifCond .ne 13, 3) := by decide +kernel
theorem dX7_restore_7 : decode cX7_restore 7 = .ok (.new 89, 3) := by decide +kernel
theorem dX7_restore_10 : decode cX7_restore 10 = .ok (.dup, 1) := by decide +kernel
theorem dX7_restore_11 : decode cX7_restore 11 = .ok (.ldc 219, 2) := by decide +kernel
theorem dX7_restore_13 : decode cX7_restore 13 = .ok (.invokespecial 93, 3) := by decide +kernel
theorem dX7_restore_16 : decode cX7_restore 16 = .ok (.athrow, 1) := by decide +kernel
theorem dX7_restore_17 : decode cX7_restore 17 = .ok (.aload_n 0, 1) := by decide +kernel
theorem dX7_restore_18 : decode cX7_restore 18 = .ok (.getfield 22, 3) := by decide +kernel
theorem dX7_restore_21 : decode cX7_restore 21 = .ok (.aload_n 0, 1) := by decide +kernel
theorem dX7_restore_22 : decode cX7_restore 22 = .ok (.getfield 10, 3) := by decide +kernel
theorem dX7_restore_25 : decode cX7_restore 25 = .ok (.invokevirtual 94, 3) := by decide +kernel
theorem dX7_restore_28 : decode cX7_restore 28 = .ok (.aload_n 0, 1) := by decide +kernel
theorem dX7_restore_29 : decode cX7_restore 29 = .ok (.getfield 10, 3) := by decide +kernel
theorem dX7_restore_32 : decode cX7_restore 32 = .ok (.aload_n 0, 1) := by decide +kernel
theorem dX7_restore_33 : decode cX7_restore 33 = .ok (.getfield 16, 3) := by decide +kernel
theorem dX7_restore_36 : decode cX7_restore 36 = .ok (.invokevirtual 216, 3) := by decide +kernel
theorem dX7_restore_39 : decode cX7_restore 39 = .ok (.aload_n 0, 1) := by decide +kernel
theorem dX7_restore_40 : decode cX7_restore 40 = .ok (.getfield 10, 3) := by decide +kernel
theorem dX7_restore_43 : decode cX7_restore 43 = .ok (.getfield 151, 3) := by decide +kernel
theorem dX7_restore_46 : decode cX7_restore 46 = .ok (.ireturn, 1) := by decide +kernel
set_option maxRecDepth 20000 in
theorem ggX7_message_X7_isMessage : GoodIn wsX7_message wsX7_isMessage := goodIn_r _ [13] (by decide +kernel) (by decide +kernel)
set_option maxRecDepth 20000 in
theorem gX7_message_X7_isMessage : GoodIn wsX7_message (va_wsS RX7 65 yX7_isMessage wsX7_isMessage) := goodIn_app (goodIn_of _ (by decide +kernel)) ggX7_message_X7_isMessage
theorem dX7_message_0 : decode cX7_message 0 = .ok (.iload_n 1, 1) := by decide +kernel
theorem dX7_message_1 : decode cX7_message 1 = .ok (.invokestatic 65, 3) := by decide +kernel
theorem dX7_message_4 : decode cX7_message 4 = .ok (.ifCond .ne 13, 3) := by decide +kernel
theorem dX7_message_7 : decode cX7_message 7 = .ok (.new 69, 3) := by decide +kernel
theorem dX7_message_10 : decode cX7_message 10 = .ok (.dup, 1) := by decide +kernel
theorem dX7_message_11 : decode cX7_message 11 = .ok (.ldc 71, 2) := by decide +kernel
theorem dX7_message_13 : decode cX7_message 13 = .ok (.invokespecial 73, 3) := by decide +kernel
theorem dX7_message_16 : decode cX7_message 16 = .ok (.athrow, 1) := by decide +kernel
theorem dX7_message_17 : decode cX7_message 17 = .ok (.iload_n 2, 1) := by decide +kernel
theorem dX7_message_18 : decode cX7_message 18 = .ok (.tableswitch 70 0 3 #[30, 40, 50, 60], 30) := by decide +kernel
theorem dX7_message_48 : decode cX7_message 48 = .ok (.aload_n 0, 1) := by decide +kernel
theorem dX7_message_49 : decode cX7_message 49 = .ok (.getfield 10, 3) := by decide +kernel
theorem dX7_message_52 : decode cX7_message 52 = .ok (.getfield 109, 3) := by decide +kernel
theorem dX7_message_55 : decode cX7_message 55 = .ok (.iload_n 1, 1) := by decide +kernel
theorem dX7_message_56 : decode cX7_message 56 = .ok (.iaload, 1) := by decide +kernel
theorem dX7_message_57 : decode cX7_message 57 = .ok (.ireturn, 1) := by decide +kernel
theorem dX7_message_58 : decode cX7_message 58 = .ok (.aload_n 0, 1) := by decide +kernel
theorem dX7_message_59 : decode cX7_message 59 = .ok (.getfield 10, 3) := by decide +kernel
theorem dX7_message_62 : decode cX7_message 62 = .ok (.getfield 141, 3) := by decide +kernel
theorem dX7_message_65 : decode cX7_message 65 = .ok (.iload_n 1, 1) := by decide +kernel
theorem dX7_message_66 : decode cX7_message 66 = .ok (.iaload, 1) := by decide +kernel
theorem dX7_message_67 : decode cX7_message 67 = .ok (.ireturn, 1) := by decide +kernel
theorem dX7_message_68 : decode cX7_message 68 = .ok (.aload_n 0, 1) := by decide +kernel
theorem dX7_message_69 : decode cX7_message 69 = .ok (.getfield 10, 3) := by decide +kernel
theorem dX7_message_72 : decode cX7_message 72 = .ok (.getfield 221, 3) := by decide +kernel
theorem dX7_message_75 : decode cX7_message 75 = .ok (.iload_n 1, 1) := by decide +kernel
theorem dX7_message_76 : decode cX7_message 76 = .ok (.iaload, 1) := by decide +kernel
theorem dX7_message_77 : decode cX7_message 77 = .ok (.ireturn, 1) := by decide +kernel
theorem dX7_message_78 : decode cX7_message 78 = .ok (.aload_n 0, 1) := by decide +kernel
theorem dX7_message_79 : decode cX7_message 79 = .ok (.getfield 10, 3) := by decide +kernel
theorem dX7_message_82 : decode cX7_message 82 = .ok (.getfield 224, 3) := by decide +kernel
theorem dX7_message_85 : decode cX7_message 85 = .ok (.iload_n 1, 1) := by decide +kernel
theorem dX7_message_86 : decode cX7_message 86 = .ok (.iaload, 1) := by decide +kernel
theorem dX7_message_87 : decode cX7_message 87 = .ok (.ireturn, 1) := by decide +kernel
theorem dX7_message_88 : decode cX7_message 88 = .ok (.new 80, 3) := by decide +kernel
theorem dX7_message_91 : decode cX7_message 91 = .ok (.dup, 1) := by decide +kernel
theorem dX7_message_92 : decode cX7_message 92 = .ok (.ldc 206, 2) := by decide +kernel
theorem dX7_message_94 : decode cX7_message 94 = .ok (.invokespecial 84, 3) := by decide +kernel
theorem dX7_message_97 : decode cX7_message 97 = .ok (.athrow, 1) := by decide +kernel
set_option maxRecDepth 20000 in
theorem ggX7_note_X7_isMessage : GoodIn wsX7_note wsX7_isMessage := goodIn_r _ [10] (by decide +kernel) (by decide +kernel)
set_option maxRecDepth 20000 in
theorem gX7_note_X7_isMessage : GoodIn wsX7_note (va_wsS RX7 65 yX7_isMessage wsX7_isMessage) := goodIn_app (goodIn_of _ (by decide +kernel)) ggX7_note_X7_isMessage
set_option maxRecDepth 20000 in
theorem ggX7_note_X3_noteAt : GoodIn wsX7_note wsX3_noteAt := goodIn_r _ [15, 16, 26, 27, 28, 29, 30, 31, 32, 33, 34, 35, 36, 37, 38, 39, 40, 41] (by decide +kernel) (by decide +kernel)
set_option maxRecDepth 20000 in
theorem gX7_note_X3_noteAt : GoodIn wsX7_note (wsV RX7 229 RX3 yX3_noteAt wsX3_noteAt) := goodIn_app (goodIn_of _ (by decide +kernel)) ggX7_note_X3_noteAt
theorem dX7_note_0 : decode cX7_note 0 = .ok (.iload_n 1, 1) := by decide +kernel
theorem dX7_note_1 : decode cX7_note 1 = .ok (.invokestatic 65, 3) := by decide +kernel
theorem dX7_note_4 : decode cX7_note 4 = .ok (.ifCond .ne 13, 3) := by decide +kernel
theorem dX7_note_7 : decode cX7_note 7 = .ok (.new 69, 3) := by decide +kernel
theorem dX7_note_10 : decode cX7_note 10 = .ok (.dup, 1) := by decide +kernel
theorem dX7_note_11 : decode cX7_note 11 = .ok (.ldc 71, 2) := by decide +kernel
theorem dX7_note_13 : decode cX7_note 13 = .ok (.invokespecial 73, 3) := by decide +kernel
theorem dX7_note_16 : decode cX7_note 16 = .ok (.athrow, 1) := by decide +kernel
theorem dX7_note_17 : decode cX7_note 17 = .ok (.iload_n 2, 1) := by decide +kernel
theorem dX7_note_18 : decode cX7_note 18 = .ok (.ifCond .lt 9, 3) := by decide +kernel
theorem dX7_note_21 : decode cX7_note 21 = .ok (.iload_n 2, 1) := by decide +kernel
theorem dX7_note_22 : decode cX7_note 22 = .ok (.bipush 8, 2) := by decide +kernel
theorem dX7_note_24 : decode cX7_note 24 = .ok (.if_icmp .lt 13, 3) := by decide +kernel
theorem dX7_note_27 : decode cX7_note 27 = .ok (.new 80, 3) := by decide +kernel
theorem dX7_note_30 : decode cX7_note 30 = .ok (.dup, 1) := by decide +kernel
theorem dX7_note_31 : decode cX7_note 31 = .ok (.ldc 227, 2) := by decide +kernel
theorem dX7_note_33 : decode cX7_note 33 = .ok (.invokespecial 84, 3) := by decide +kernel
theorem dX7_note_36 : decode cX7_note 36 = .ok (.athrow, 1) := by decide +kernel
theorem dX7_note_37 : decode cX7_note 37 = .ok (.iload_n 2, 1) := by decide +kernel
theorem dX7_note_38 : decode cX7_note 38 = .ok (.aload_n 0, 1) := by decide +kernel
theorem dX7_note_39 : decode cX7_note 39 = .ok (.getfield 10, 3) := by decide +kernel
theorem dX7_note_42 : decode cX7_note 42 = .ok (.getfield 109, 3) := by decide +kernel
theorem dX7_note_45 : decode cX7_note 45 = .ok (.iload_n 1, 1) := by decide +kernel
theorem dX7_note_46 : decode cX7_note 46 = .ok (.iaload, 1) := by decide +kernel
theorem dX7_note_47 : decode cX7_note 47 = .ok (.if_icmp .ge 15, 3) := by decide +kernel
theorem dX7_note_50 : decode cX7_note 50 = .ok (.aload_n 0, 1) := by decide +kernel
theorem dX7_note_51 : decode cX7_note 51 = .ok (.getfield 10, 3) := by decide +kernel
theorem dX7_note_54 : decode cX7_note 54 = .ok (.iload_n 1, 1) := by decide +kernel
theorem dX7_note_55 : decode cX7_note 55 = .ok (.iload_n 2, 1) := by decide +kernel
theorem dX7_note_56 : decode cX7_note 56 = .ok (.invokevirtual 229, 3) := by decide +kernel
theorem dX7_note_59 : decode cX7_note 59 = .ok (.goto 4, 3) := by decide +kernel
theorem dX7_note_62 : decode cX7_note 62 = .ok (.iconst (-1), 1) := by decide +kernel
theorem dX7_note_63 : decode cX7_note 63 = .ok (.ireturn, 1) := by decide +kernel
set_option maxRecDepth 20000 in
theorem ggX7_room_X7_isRoom : GoodIn wsX7_room wsX7_isRoom := goodIn_r _ [14] (by decide +kernel) (by decide +kernel)
set_option maxRecDepth 20000 in
theorem gX7_room_X7_isRoom : GoodIn wsX7_room (va_wsS RX7 121 yX7_isRoom wsX7_isRoom) := goodIn_app (goodIn_of _ (by decide +kernel)) ggX7_room_X7_isRoom
set_option maxRecDepth 20000 in
theorem ggX7_room_X7_hasBit : GoodIn wsX7_room wsX7_hasBit := goodIn_r _ [17] (by decide +kernel) (by decide +kernel)
set_option maxRecDepth 20000 in
theorem gX7_room_X7_hasBit : GoodIn wsX7_room (va_wsS RX7 144 yX7_hasBit wsX7_hasBit) := goodIn_app (goodIn_of _ (by decide +kernel)) ggX7_room_X7_hasBit
set_option maxRecDepth 20000 in
theorem ggX7_room_X3_isSilenced : GoodIn wsX7_room wsX3_isSilenced := goodIn_r _ [22, 23, 24, 34, 35, 36, 37, 38, 39, 40, 41, 42, 43, 44, 45, 46, 47, 48, 49] (by decide +kernel) (by decide +kernel)
set_option maxRecDepth 20000 in
theorem gX7_room_X3_isSilenced : GoodIn wsX7_room (wsV RX7 238 RX3 yX3_isSilenced wsX3_isSilenced) := goodIn_app (goodIn_of _ (by decide +kernel)) ggX7_room_X3_isSilenced
theorem dX7_room_0 : decode cX7_room 0 = .ok (.iload_n 1, 1) := by decide +kernel
theorem dX7_room_1 : decode cX7_room 1 = .ok (.invokestatic 121, 3) := by decide +kernel
theorem dX7_room_4 : decode cX7_room 4 = .ok (.ifCond .ne 13, 3) := by decide +kernel
theorem dX7_room_7 : decode cX7_room 7 = .ok (.new 69, 3) := by decide +kernel
theorem dX7_room_10 : decode cX7_room 10 = .ok (.dup, 1) := by decide +kernel
theorem dX7_room_11 : decode cX7_room 11 = .ok (.ldc 124, 2) := by decide +kernel
theorem dX7_room_13 : decode cX7_room 13 = .ok (.invokespecial 73, 3) := by decide +kernel
theorem dX7_room_16 : decode cX7_room 16 = .ok (.athrow, 1) := by decide +kernel
theorem dX7_room_17 : decode cX7_room 17 = .ok (.iload_n 2, 1) := by decide +kernel
theorem dX7_room_18 : decode cX7_room 18 = .ok (.tableswitch 115 0 5 #[38, 48, 58, 78, 95, 105], 38) := by decide +kernel
theorem dX7_room_56 : decode cX7_room 56 = .ok (.aload_n 0, 1) := by decide +kernel
theorem dX7_room_57 : decode cX7_room 57 = .ok (.getfield 10, 3) := by decide +kernel
theorem dX7_room_60 : decode cX7_room 60 = .ok (.getfield 126, 3) := by decide +kernel
theorem dX7_room_63 : decode cX7_room 63 = .ok (.iload_n 1, 1) := by decide +kernel
theorem dX7_room_64 : decode cX7_room 64 = .ok (.iaload, 1) := by decide +kernel
theorem dX7_room_65 : decode cX7_room 65 = .ok (.ireturn, 1) := by decide +kernel
theorem dX7_room_66 : decode cX7_room 66 = .ok (.aload_n 0, 1) := by decide +kernel
theorem dX7_room_67 : decode cX7_room 67 = .ok (.getfield 10, 3) := by decide +kernel
theorem dX7_room_70 : decode cX7_room 70 = .ok (.getfield 232, 3) := by decide +kernel
theorem dX7_room_73 : decode cX7_room 73 = .ok (.iload_n 1, 1) := by decide +kernel
theorem dX7_room_74 : decode cX7_room 74 = .ok (.iaload, 1) := by decide +kernel
theorem dX7_room_75 : decode cX7_room 75 = .ok (.ireturn, 1) := by decide +kernel
theorem dX7_room_76 : decode cX7_room 76 = .ok (.aload_n 0, 1) := by decide +kernel
theorem dX7_room_77 : decode cX7_room 77 = .ok (.getfield 10, 3) := by decide +kernel
theorem dX7_room_80 : decode cX7_room 80 = .ok (.getfield 235, 3) := by decide +kernel
theorem dX7_room_83 : decode cX7_room 83 = .ok (.iload_n 1, 1) := by decide +kernel
theorem dX7_room_84 : decode cX7_room 84 = .ok (.invokestatic 144, 3) := by decide +kernel
theorem dX7_room_87 : decode cX7_room 87 = .ok (.ifCond .eq 7, 3) := by decide +kernel
theorem dX7_room_90 : decode cX7_room 90 = .ok (.iconst 1, 1) := by decide +kernel
theorem dX7_room_91 : decode cX7_room 91 = .ok (.goto 4, 3) := by decide +kernel
theorem dX7_room_94 : decode cX7_room 94 = .ok (.iconst 0, 1) := by decide +kernel
theorem dX7_room_95 : decode cX7_room 95 = .ok (.ireturn, 1) := by decide +kernel
theorem dX7_room_96 : decode cX7_room 96 = .ok (.aload_n 0, 1) := by decide +kernel
theorem dX7_room_97 : decode cX7_room 97 = .ok (.getfield 10, 3) := by decide +kernel
theorem dX7_room_100 : decode cX7_room 100 = .ok (.iload_n 1, 1) := by decide +kernel
theorem dX7_room_101 : decode cX7_room 101 = .ok (.invokevirtual 238, 3) := by decide +kernel
theorem dX7_room_104 : decode cX7_room 104 = .ok (.ifCond .eq 7, 3) := by decide +kernel
theorem dX7_room_107 : decode cX7_room 107 = .ok (.iconst 1, 1) := by decide +kernel
theorem dX7_room_108 : decode cX7_room 108 = .ok (.goto 4, 3) := by decide +kernel
theorem dX7_room_111 : decode cX7_room 111 = .ok (.iconst 0, 1) := by decide +kernel
theorem dX7_room_112 : decode cX7_room 112 = .ok (.ireturn, 1) := by decide +kernel
theorem dX7_room_113 : decode cX7_room 113 = .ok (.aload_n 0, 1) := by decide +kernel
theorem dX7_room_114 : decode cX7_room 114 = .ok (.getfield 10, 3) := by decide +kernel
theorem dX7_room_117 : decode cX7_room 117 = .ok (.getfield 241, 3) := by decide +kernel
theorem dX7_room_120 : decode cX7_room 120 = .ok (.iload_n 1, 1) := by decide +kernel
theorem dX7_room_121 : decode cX7_room 121 = .ok (.iaload, 1) := by decide +kernel
theorem dX7_room_122 : decode cX7_room 122 = .ok (.ireturn, 1) := by decide +kernel
theorem dX7_room_123 : decode cX7_room 123 = .ok (.aload_n 0, 1) := by decide +kernel
theorem dX7_room_124 : decode cX7_room 124 = .ok (.getfield 10, 3) := by decide +kernel
theorem dX7_room_127 : decode cX7_room 127 = .ok (.getfield 244, 3) := by decide +kernel
theorem dX7_room_130 : decode cX7_room 130 = .ok (.iload_n 1, 1) := by decide +kernel
theorem dX7_room_131 : decode cX7_room 131 = .ok (.iaload, 1) := by decide +kernel
theorem dX7_room_132 : decode cX7_room 132 = .ok (.ireturn, 1) := by decide +kernel
theorem dX7_room_133 : decode cX7_room 133 = .ok (.new 80, 3) := by decide +kernel
theorem dX7_room_136 : decode cX7_room 136 = .ok (.dup, 1) := by decide +kernel
theorem dX7_room_137 : decode cX7_room 137 = .ok (.ldc 206, 2) := by decide +kernel
theorem dX7_room_139 : decode cX7_room 139 = .ok (.invokespecial 84, 3) := by decide +kernel
theorem dX7_room_142 : decode cX7_room 142 = .ok (.athrow, 1) := by decide +kernel
theorem dX7_latest_0 : decode cX7_latest 0 = .ok (.iload_n 1, 1) := by decide +kernel
theorem dX7_latest_1 : decode cX7_latest 1 = .ok (.ifCond .lt 9, 3) := by decide +kernel
theorem dX7_latest_4 : decode cX7_latest 4 = .ok (.iload_n 1, 1) := by decide +kernel
theorem dX7_latest_5 : decode cX7_latest 5 = .ok (.bipush 6, 2) := by decide +kernel
theorem dX7_latest_7 : decode cX7_latest 7 = .ok (.if_icmp .lt 13, 3) := by decide +kernel
theorem dX7_latest_10 : decode cX7_latest 10 = .ok (.new 80, 3) := by decide +kernel
theorem dX7_latest_13 : decode cX7_latest 13 = .ok (.dup, 1) := by decide +kernel
theorem dX7_latest_14 : decode cX7_latest 14 = .ok (.ldc 206, 2) := by decide +kernel
theorem dX7_latest_16 : decode cX7_latest 16 = .ok (.invokespecial 84, 3) := by decide +kernel
theorem dX7_latest_19 : decode cX7_latest 19 = .ok (.athrow, 1) := by decide +kernel
theorem dX7_latest_20 : decode cX7_latest 20 = .ok (.aload_n 0, 1) := by decide +kernel
theorem dX7_latest_21 : decode cX7_latest 21 = .ok (.getfield 10, 3) := by decide +kernel
theorem dX7_latest_24 : decode cX7_latest 24 = .ok (.getfield 247, 3) := by decide +kernel
theorem dX7_latest_27 : decode cX7_latest 27 = .ok (.iload_n 1, 1) := by decide +kernel
theorem dX7_latest_28 : decode cX7_latest 28 = .ok (.iaload, 1) := by decide +kernel
theorem dX7_latest_29 : decode cX7_latest 29 = .ok (.ireturn, 1) := by decide +kernel
set_option maxRecDepth 20000 in
theorem ggX7_count_X3_messagesWithTune : GoodIn wsX7_count wsX3_messagesWithTune := goodIn_r _ [19, 20, 94, 95, 96, 97, 98, 99, 100, 101, 102, 103, 104, 105, 106, 107, 108, 109] (by decide +kernel) (by decide +kernel)
set_option maxRecDepth 20000 in
theorem gX7_count_X3_messagesWithTune : GoodIn wsX7_count (wsV RX7 250 RX3 yX3_messagesWithTune wsX3_messagesWithTune) := goodIn_app (goodIn_of _ (by decide +kernel)) ggX7_count_X3_messagesWithTune
set_option maxRecDepth 20000 in
theorem ggX7_count_X4_growFrom : GoodIn wsX7_count wsX4_growFrom := goodIn_r _ [25, 26, 27, 28, 29, 30, 31, 32, 33, 34, 35, 36, 24, 37, 38, 39, 40, 18, 41, 42, 43, 44, 45, 46, 47, 48, 49, 50, 110, 111, 112, 94, 95, 96, 97, 98, 99, 100, 101, 102, 103, 104, 105, 106, 107, 108, 109] (by decide +kernel) (by decide +kernel)
set_option maxRecDepth 20000 in
theorem gX7_count_X4_growFrom : GoodIn wsX7_count (wsV RX7 254 RX4 yX4_growFrom wsX4_growFrom) := goodIn_app (goodIn_of _ (by decide +kernel)) ggX7_count_X4_growFrom
set_option maxRecDepth 20000 in
theorem ggX7_count_X3_longestTune : GoodIn wsX7_count wsX3_longestTune := goodIn_r _ [54, 20, 55, 56, 57, 58, 94, 95, 96, 97, 98, 99, 100, 101, 102, 103, 104, 105, 106, 107, 108, 109] (by decide +kernel) (by decide +kernel)
set_option maxRecDepth 20000 in
theorem gX7_count_X3_longestTune : GoodIn wsX7_count (wsV RX7 260 RX3 yX3_longestTune wsX3_longestTune) := goodIn_app (goodIn_of _ (by decide +kernel)) ggX7_count_X3_longestTune
set_option maxRecDepth 20000 in
theorem ggX7_count_J6_bitCount_0f7a4 : GoodIn wsX7_count wsJ6_bitCount_0f7a4 := goodIn_r _ [62, 63, 64, 65] (by decide +kernel) (by decide +kernel)
set_option maxRecDepth 20000 in
theorem gX7_count_J6_bitCount_0f7a4 : GoodIn wsX7_count (va_wsS RX7 134 yJ6_bitCount_0f7a4 wsJ6_bitCount_0f7a4) := goodIn_app (goodIn_of _ (by decide +kernel)) ggX7_count_J6_bitCount_0f7a4
set_option maxRecDepth 20000 in
theorem ggX7_count_X3_silencedRooms : GoodIn wsX7_count wsX3_silencedRooms := goodIn_r _ [69, 70, 71, 72, 18, 73, 74, 75, 94, 95, 96, 97, 98, 99, 100, 101, 102, 103, 104, 105, 106, 107, 108, 109] (by decide +kernel) (by decide +kernel)
set_option maxRecDepth 20000 in
theorem gX7_count_X3_silencedRooms : GoodIn wsX7_count (wsV RX7 263 RX3 yX3_silencedRooms wsX3_silencedRooms) := goodIn_app (goodIn_of _ (by decide +kernel)) ggX7_count_X3_silencedRooms
set_option maxRecDepth 20000 in
theorem ggX7_count_X7_sumOf : GoodIn wsX7_count wsX7_sumOf := goodIn_r _ [79] (by decide +kernel) (by decide +kernel)
set_option maxRecDepth 20000 in
theorem gX7_count_X7_sumOf : GoodIn wsX7_count (va_wsS RX7 266 yX7_sumOf wsX7_sumOf) := goodIn_app (goodIn_of _ (by decide +kernel)) ggX7_count_X7_sumOf
set_option maxRecDepth 20000 in
theorem ggX7_count_X3_roomsOfKey : GoodIn wsX7_count wsX3_roomsOfKey := goodIn_r _ [83, 84, 94, 95, 96, 97, 98, 99, 100, 101, 102, 103, 104, 105, 106, 107, 108, 109] (by decide +kernel) (by decide +kernel)
set_option maxRecDepth 20000 in
theorem gX7_count_X3_roomsOfKey : GoodIn wsX7_count (wsV RX7 270 RX3 yX3_roomsOfKey wsX3_roomsOfKey) := goodIn_app (goodIn_of _ (by decide +kernel)) ggX7_count_X3_roomsOfKey
theorem dX7_count_0 : decode cX7_count 0 = .ok (.iload_n 1, 1) := by decide +kernel
theorem dX7_count_1 : decode cX7_count 1 = .ok (.tableswitch 214 0 13 #[71, 79, 87, 95, 114, 122, 130, 141, 149, 160, 171, 186, 196, 206], 71) := by decide +kernel
theorem dX7_count_72 : decode cX7_count 72 = .ok (.aload_n 0, 1) := by decide +kernel
theorem dX7_count_73 : decode cX7_count 73 = .ok (.getfield 10, 3) := by decide +kernel
theorem dX7_count_76 : decode cX7_count 76 = .ok (.getfield 151, 3) := by decide +kernel
theorem dX7_count_79 : decode cX7_count 79 = .ok (.ireturn, 1) := by decide +kernel
theorem dX7_count_80 : decode cX7_count 80 = .ok (.aload_n 0, 1) := by decide +kernel
theorem dX7_count_81 : decode cX7_count 81 = .ok (.getfield 10, 3) := by decide +kernel
theorem dX7_count_84 : decode cX7_count 84 = .ok (.getfield 118, 3) := by decide +kernel
theorem dX7_count_87 : decode cX7_count 87 = .ok (.ireturn, 1) := by decide +kernel
theorem dX7_count_88 : decode cX7_count 88 = .ok (.aload_n 0, 1) := by decide +kernel
theorem dX7_count_89 : decode cX7_count 89 = .ok (.getfield 10, 3) := by decide +kernel
theorem dX7_count_92 : decode cX7_count 92 = .ok (.invokevirtual 250, 3) := by decide +kernel
theorem dX7_count_95 : decode cX7_count 95 = .ok (.ireturn, 1) := by decide +kernel
theorem dX7_count_96 : decode cX7_count 96 = .ok (.aload_n 0, 1) := by decide +kernel
theorem dX7_count_97 : decode cX7_count 97 = .ok (.getfield 50, 3) := by decide +kernel
theorem dX7_count_100 : decode cX7_count 100 = .ok (.aload_n 0, 1) := by decide +kernel
theorem dX7_count_101 : decode cX7_count 101 = .ok (.getfield 10, 3) := by decide +kernel
theorem dX7_count_104 : decode cX7_count 104 = .ok (.invokevirtual 254, 3) := by decide +kernel
theorem dX7_count_107 : decode cX7_count 107 = .ok (.aload_n 0, 1) := by decide +kernel
theorem dX7_count_108 : decode cX7_count 108 = .ok (.getfield 50, 3) := by decide +kernel
theorem dX7_count_111 : decode cX7_count 111 = .ok (.getfield 257, 3) := by decide +kernel
theorem dX7_count_114 : decode cX7_count 114 = .ok (.ireturn, 1) := by decide +kernel
theorem dX7_count_115 : decode cX7_count 115 = .ok (.aload_n 0, 1) := by decide +kernel
theorem dX7_count_116 : decode cX7_count 116 = .ok (.getfield 10, 3) := by decide +kernel
theorem dX7_count_119 : decode cX7_count 119 = .ok (.invokevirtual 260, 3) := by decide +kernel
theorem dX7_count_122 : decode cX7_count 122 = .ok (.ireturn, 1) := by decide +kernel
theorem dX7_count_123 : decode cX7_count 123 = .ok (.aload_n 0, 1) := by decide +kernel
theorem dX7_count_124 : decode cX7_count 124 = .ok (.getfield 10, 3) := by decide +kernel
theorem dX7_count_127 : decode cX7_count 127 = .ok (.getfield 131, 3) := by decide +kernel
theorem dX7_count_130 : decode cX7_count 130 = .ok (.ireturn, 1) := by decide +kernel
theorem dX7_count_131 : decode cX7_count 131 = .ok (.aload_n 0, 1) := by decide +kernel
theorem dX7_count_132 : decode cX7_count 132 = .ok (.getfield 10, 3) := by decide +kernel
theorem dX7_count_135 : decode cX7_count 135 = .ok (.getfield 235, 3) := by decide +kernel
theorem dX7_count_138 : decode cX7_count 138 = .ok (.invokestatic 134, 3) := by decide +kernel
theorem dX7_count_141 : decode cX7_count 141 = .ok (.ireturn, 1) := by decide +kernel
theorem dX7_count_142 : decode cX7_count 142 = .ok (.aload_n 0, 1) := by decide +kernel
theorem dX7_count_143 : decode cX7_count 143 = .ok (.getfield 10, 3) := by decide +kernel
theorem dX7_count_146 : decode cX7_count 146 = .ok (.invokevirtual 263, 3) := by decide +kernel
theorem dX7_count_149 : decode cX7_count 149 = .ok (.ireturn, 1) := by decide +kernel
theorem dX7_count_150 : decode cX7_count 150 = .ok (.aload_n 0, 1) := by decide +kernel
theorem dX7_count_151 : decode cX7_count 151 = .ok (.getfield 10, 3) := by decide +kernel
theorem dX7_count_154 : decode cX7_count 154 = .ok (.getfield 221, 3) := by decide +kernel
theorem dX7_count_157 : decode cX7_count 157 = .ok (.invokestatic 266, 3) := by decide +kernel
theorem dX7_count_160 : decode cX7_count 160 = .ok (.ireturn, 1) := by decide +kernel
theorem dX7_count_161 : decode cX7_count 161 = .ok (.aload_n 0, 1) := by decide +kernel
theorem dX7_count_162 : decode cX7_count 162 = .ok (.getfield 10, 3) := by decide +kernel
theorem dX7_count_165 : decode cX7_count 165 = .ok (.getfield 232, 3) := by decide +kernel
theorem dX7_count_168 : decode cX7_count 168 = .ok (.invokestatic 266, 3) := by decide +kernel
theorem dX7_count_171 : decode cX7_count 171 = .ok (.ireturn, 1) := by decide +kernel
theorem dX7_count_172 : decode cX7_count 172 = .ok (.aload_n 0, 1) := by decide +kernel
theorem dX7_count_173 : decode cX7_count 173 = .ok (.getfield 10, 3) := by decide +kernel
theorem dX7_count_176 : decode cX7_count 176 = .ok (.aload_n 0, 1) := by decide +kernel
theorem dX7_count_177 : decode cX7_count 177 = .ok (.getfield 10, 3) := by decide +kernel
theorem dX7_count_180 : decode cX7_count 180 = .ok (.getfield 118, 3) := by decide +kernel
theorem dX7_count_183 : decode cX7_count 183 = .ok (.invokevirtual 270, 3) := by decide +kernel
theorem dX7_count_186 : decode cX7_count 186 = .ok (.ireturn, 1) := by decide +kernel
theorem dX7_count_187 : decode cX7_count 187 = .ok (.aload_n 0, 1) := by decide +kernel
theorem dX7_count_188 : decode cX7_count 188 = .ok (.getfield 10, 3) := by decide +kernel
theorem dX7_count_191 : decode cX7_count 191 = .ok (.getfield 161, 3) := by decide +kernel
theorem dX7_count_194 : decode cX7_count 194 = .ok (.iconst 0, 1) := by decide +kernel
theorem dX7_count_195 : decode cX7_count 195 = .ok (.iaload, 1) := by decide +kernel
theorem dX7_count_196 : decode cX7_count 196 = .ok (.ireturn, 1) := by decide +kernel
theorem dX7_count_197 : decode cX7_count 197 = .ok (.aload_n 0, 1) := by decide +kernel
theorem dX7_count_198 : decode cX7_count 198 = .ok (.getfield 10, 3) := by decide +kernel
theorem dX7_count_201 : decode cX7_count 201 = .ok (.getfield 161, 3) := by decide +kernel
theorem dX7_count_204 : decode cX7_count 204 = .ok (.iconst 1, 1) := by decide +kernel
theorem dX7_count_205 : decode cX7_count 205 = .ok (.iaload, 1) := by decide +kernel
theorem dX7_count_206 : decode cX7_count 206 = .ok (.ireturn, 1) := by decide +kernel
theorem dX7_count_207 : decode cX7_count 207 = .ok (.aload_n 0, 1) := by decide +kernel
theorem dX7_count_208 : decode cX7_count 208 = .ok (.getfield 22, 3) := by decide +kernel
theorem dX7_count_211 : decode cX7_count 211 = .ok (.getfield 208, 3) := by decide +kernel
theorem dX7_count_214 : decode cX7_count 214 = .ok (.ireturn, 1) := by decide +kernel
theorem dX7_count_215 : decode cX7_count 215 = .ok (.new 80, 3) := by decide +kernel
theorem dX7_count_218 : decode cX7_count 218 = .ok (.dup, 1) := by decide +kernel
theorem dX7_count_219 : decode cX7_count 219 = .ok (.ldc 206, 2) := by decide +kernel
theorem dX7_count_221 : decode cX7_count 221 = .ok (.invokespecial 84, 3) := by decide +kernel
theorem dX7_count_224 : decode cX7_count 224 = .ok (.athrow, 1) := by decide +kernel
set_option maxRecDepth 20000 in
theorem ggX7_decode_X7_isKey : GoodIn wsX7_decode wsX7_isKey := goodIn_r _ [6] (by decide +kernel) (by decide +kernel)
set_option maxRecDepth 20000 in
theorem gX7_decode_X7_isKey : GoodIn wsX7_decode (va_wsS RX7 113 yX7_isKey wsX7_isKey) := goodIn_app (goodIn_of _ (by decide +kernel)) ggX7_decode_X7_isKey
set_option maxRecDepth 20000 in
theorem ggX7_decode_X7_readTuneOfText : GoodIn wsX7_decode wsX7_readTuneOfText := goodIn_r _ [10, 11, 12, 13, 14, 15, 16, 17, 18, 19, 20, 21, 22, 23, 24, 25, 26, 27, 28, 29, 30, 31, 32, 33, 34, 35, 36, 37, 38, 39, 40, 41, 42, 43, 44, 45, 46, 47, 48, 49, 50, 51, 52, 53, 54, 55, 56, 57, 58, 59, 60, 61, 62, 63, 64, 65, 66, 67, 68, 69, 70, 71, 72, 73, 74, 75, 76, 77, 78, 79, 80, 81, 82, 83, 84, 85, 86, 87, 88, 89, 90, 91, 92, 93, 94, 95, 96, 97, 98, 99, 100, 101, 102, 103, 104, 105, 106, 107, 108, 109, 110, 111, 112, 113, 114, 115, 116, 117, 118, 119, 120, 121, 122, 123, 124, 125, 126, 127, 128, 129, 130, 131, 132, 133, 134, 135, 136, 137, 138, 139, 140, 141, 142, 143, 144, 145, 146, 147, 148, 149, 150, 151, 152, 153, 154, 155, 156, 157, 158, 159, 160, 161, 162, 163, 164, 165, 166, 243, 244, 245, 246, 247, 248, 249, 250, 251, 252, 253, 254, 255, 256, 257, 258, 259] (by decide +kernel) (by decide +kernel)
set_option maxRecDepth 20000 in
theorem gX7_decode_X7_readTuneOfText : GoodIn wsX7_decode (wsV RX7 76 RX7 yX7_readTuneOfText wsX7_readTuneOfText) := goodIn_app (goodIn_of _ (by decide +kernel)) ggX7_decode_X7_readTuneOfText
set_option maxRecDepth 20000 in
theorem ggX7_decode_X7_decodeByTree : GoodIn wsX7_decode wsX7_decodeByTree := goodIn_r _ [170, 171, 172, 173, 5, 174, 14, 175, 176, 177, 178, 179, 152, 180, 154, 181, 182, 183, 184, 185, 186, 187, 188, 189, 190, 191, 192, 193, 194, 195, 196, 197, 198, 199, 200, 201, 202, 203, 204, 205, 206, 207, 208, 209, 210, 211, 212, 213, 214, 215, 216, 217, 218, 219, 220, 162, 221, 222, 223, 224, 225, 226, 227, 228, 229, 230, 231, 232, 243, 244, 245, 246, 247, 248, 249, 250, 251, 257, 258, 259, 260, 261, 262, 263, 264, 265, 266, 267, 268, 269, 270, 271, 272, 273, 274, 275, 276, 277, 278] (by decide +kernel) (by decide +kernel)
set_option maxRecDepth 20000 in
theorem gX7_decode_X7_decodeByTree : GoodIn wsX7_decode (wsV RX7 275 RX7 yX7_decodeByTree wsX7_decodeByTree) := goodIn_app (goodIn_of _ (by decide +kernel)) ggX7_decode_X7_decodeByTree
set_option maxRecDepth 20000 in
theorem ggX7_decode_X7_decodeByMessages : GoodIn wsX7_decode wsX7_decodeByMessages := goodIn_r _ [236, 14, 177, 178, 179, 152, 180, 154, 237, 238, 239, 5, 240, 241, 176, 242, 230, 231, 199, 200, 201, 202, 203, 243, 244, 245, 246, 247, 248, 249, 250, 251, 257, 258, 259, 263, 264, 265, 266, 267, 268, 269, 270, 271, 272, 273, 274, 275, 276, 277, 278] (by decide +kernel) (by decide +kernel)
set_option maxRecDepth 20000 in
theorem gX7_decode_X7_decodeByMessages : GoodIn wsX7_decode (wsV RX7 278 RX7 yX7_decodeByMessages wsX7_decodeByMessages) := goodIn_app (goodIn_of _ (by decide +kernel)) ggX7_decode_X7_decodeByMessages
theorem dX7_decode_0 : decode cX7_decode 0 = .ok (.iload_n 1, 1) := by decide +kernel
theorem dX7_decode_1 : decode cX7_decode 1 = .ok (.invokestatic 113, 3) := by decide +kernel
theorem dX7_decode_4 : decode cX7_decode 4 = .ok (.ifCond .eq 12, 3) := by decide +kernel
theorem dX7_decode_7 : decode cX7_decode 7 = .ok (.iload_n 2, 1) := by decide +kernel
theorem dX7_decode_8 : decode cX7_decode 8 = .ok (.ifCond .lt 8, 3) := by decide +kernel
theorem dX7_decode_11 : decode cX7_decode 11 = .ok (.iload_n 2, 1) := by decide +kernel
theorem dX7_decode_12 : decode cX7_decode 12 = .ok (.iconst 1, 1) := by decide +kernel
theorem dX7_decode_13 : decode cX7_decode 13 = .ok (.if_icmp .le 14, 3) := by decide +kernel
theorem dX7_decode_16 : decode cX7_decode 16 = .ok (.new 80, 3) := by decide +kernel
theorem dX7_decode_19 : decode cX7_decode 19 = .ok (.dup, 1) := by decide +kernel
theorem dX7_decode_20 : decode cX7_decode 20 = .ok (.ldc_w 273, 3) := by decide +kernel
theorem dX7_decode_23 : decode cX7_decode 23 = .ok (.invokespecial 84, 3) := by decide +kernel
theorem dX7_decode_26 : decode cX7_decode 26 = .ok (.athrow, 1) := by decide +kernel
theorem dX7_decode_27 : decode cX7_decode 27 = .ok (.aload_n 0, 1) := by decide +kernel
theorem dX7_decode_28 : decode cX7_decode 28 = .ok (.invokevirtual 76, 3) := by decide +kernel
theorem dX7_decode_31 : decode cX7_decode 31 = .ok (.ifCond .ne 13, 3) := by decide +kernel
theorem dX7_decode_34 : decode cX7_decode 34 = .ok (.new 80, 3) := by decide +kernel
theorem dX7_decode_37 : decode cX7_decode 37 = .ok (.dup, 1) := by decide +kernel
theorem dX7_decode_38 : decode cX7_decode 38 = .ok (.ldc 82, 2) := by decide +kernel
theorem dX7_decode_40 : decode cX7_decode 40 = .ok (.invokespecial 84, 3) := by decide +kernel
theorem dX7_decode_43 : decode cX7_decode 43 = .ok (.athrow, 1) := by decide +kernel
theorem dX7_decode_44 : decode cX7_decode 44 = .ok (.iload_n 2, 1) := by decide +kernel
theorem dX7_decode_45 : decode cX7_decode 45 = .ok (.ifCond .ne 11, 3) := by decide +kernel
theorem dX7_decode_48 : decode cX7_decode 48 = .ok (.aload_n 0, 1) := by decide +kernel
theorem dX7_decode_49 : decode cX7_decode 49 = .ok (.iload_n 1, 1) := by decide +kernel
theorem dX7_decode_50 : decode cX7_decode 50 = .ok (.invokevirtual 275, 3) := by decide +kernel
theorem dX7_decode_53 : decode cX7_decode 53 = .ok (.goto 8, 3) := by decide +kernel
theorem dX7_decode_56 : decode cX7_decode 56 = .ok (.aload_n 0, 1) := by decide +kernel
theorem dX7_decode_57 : decode cX7_decode 57 = .ok (.iload_n 1, 1) := by decide +kernel
theorem dX7_decode_58 : decode cX7_decode 58 = .ok (.invokevirtual 278, 3) := by decide +kernel
theorem dX7_decode_61 : decode cX7_decode 61 = .ok (.ireturn, 1) := by decide +kernel
set_option maxRecDepth 20000 in
theorem ggX7_keyOf_X7_readTuneOfText : GoodIn wsX7_keyOf wsX7_readTuneOfText := goodIn_r _ [7, 8, 9, 10, 11, 12, 13, 14, 15, 16, 17, 18, 19, 20, 21, 22, 23, 24, 25, 26, 27, 28, 29, 30, 31, 32, 33, 34, 35, 36, 37, 38, 39, 40, 41, 42, 43, 44, 45, 46, 47, 48, 49, 50, 51, 52, 53, 54, 55, 56, 57, 58, 59, 60, 61, 62, 63, 64, 65, 66, 67, 68, 69, 70, 71, 72, 73, 74, 75, 76, 77, 78, 79, 80, 81, 82, 83, 84, 85, 86, 87, 88, 89, 90, 91, 92, 93, 94, 95, 96, 97, 98, 99, 100, 101, 102, 103, 104, 105, 106, 107, 108, 109, 110, 111, 112, 113, 114, 115, 116, 117, 118, 119, 120, 121, 122, 123, 124, 125, 126, 127, 128, 129, 130, 131, 132, 133, 134, 135, 136, 137, 138, 139, 140, 141, 142, 143, 144, 145, 146, 147, 148, 149, 150, 151, 152, 153, 154, 155, 156, 157, 158, 159, 160, 161, 162, 163, 226, 227, 228, 229, 230, 231, 232, 233, 234, 235, 236, 237, 238, 239, 240, 241, 242] (by decide +kernel) (by decide +kernel)
set_option maxRecDepth 20000 in
theorem gX7_keyOf_X7_readTuneOfText : GoodIn wsX7_keyOf (wsV RX7 76 RX7 yX7_readTuneOfText wsX7_readTuneOfText) := goodIn_app (goodIn_of _ (by decide +kernel)) ggX7_keyOf_X7_readTuneOfText
set_option maxRecDepth 20000 in
theorem ggX7_keyOf_X7_messageOfShape : GoodIn wsX7_keyOf wsX7_messageOfShape := goodIn_r _ [167, 11, 168, 169, 170, 171, 172, 149, 173, 151, 174, 175, 176, 177, 178, 179, 180, 181, 182, 183, 184, 185, 186, 187, 188, 189, 190, 191, 192, 193, 194, 195, 196, 197, 198, 199, 200, 201, 202, 203, 204, 205, 206, 207, 208, 209, 210, 211, 212, 213, 159, 214, 215, 216, 217, 218, 226, 227, 228, 229, 230, 231, 232, 233, 234, 240, 241, 242, 243, 244, 245, 246, 247, 248, 249, 250, 251, 252, 253, 254, 255, 256, 257, 258, 259, 260, 261] (by decide +kernel) (by decide +kernel)
set_option maxRecDepth 20000 in
theorem gX7_keyOf_X7_messageOfShape : GoodIn wsX7_keyOf (wsV RX7 281 RX7 yX7_messageOfShape wsX7_messageOfShape) := goodIn_app (goodIn_of _ (by decide +kernel)) ggX7_keyOf_X7_messageOfShape
set_option maxRecDepth 20000 in
theorem ggX7_keyOf_X7_keyBetween : GoodIn wsX7_keyOf wsX7_keyBetween := goodIn_r _ [222, 11, 223, 169, 224, 192, 193, 194, 195, 196, 225, 198, 199, 200, 226, 227, 228, 229, 230, 231, 232, 233, 234, 240, 241, 242, 246, 247, 248, 249, 250, 251, 252, 253, 254, 255, 256, 257, 258, 259, 260, 261] (by decide +kernel) (by decide +kernel)
set_option maxRecDepth 20000 in
theorem gX7_keyOf_X7_keyBetween : GoodIn wsX7_keyOf (wsV RX7 284 RX7 yX7_keyBetween wsX7_keyBetween) := goodIn_app (goodIn_of _ (by decide +kernel)) ggX7_keyOf_X7_keyBetween
theorem dX7_keyOf_0 : decode cX7_keyOf 0 = .ok (.aload_n 0, 1) := by decide +kernel
theorem dX7_keyOf_1 : decode cX7_keyOf 1 = .ok (.invokevirtual 76, 3) := by decide +kernel
theorem dX7_keyOf_4 : decode cX7_keyOf 4 = .ok (.ifCond .ne 13, 3) := by decide +kernel
theorem dX7_keyOf_7 : decode cX7_keyOf 7 = .ok (.new 80, 3) := by decide +kernel
theorem dX7_keyOf_10 : decode cX7_keyOf 10 = .ok (.dup, 1) := by decide +kernel
theorem dX7_keyOf_11 : decode cX7_keyOf 11 = .ok (.ldc 82, 2) := by decide +kernel
theorem dX7_keyOf_13 : decode cX7_keyOf 13 = .ok (.invokespecial 84, 3) := by decide +kernel
theorem dX7_keyOf_16 : decode cX7_keyOf 16 = .ok (.athrow, 1) := by decide +kernel
theorem dX7_keyOf_17 : decode cX7_keyOf 17 = .ok (.aload_n 0, 1) := by decide +kernel
theorem dX7_keyOf_18 : decode cX7_keyOf 18 = .ok (.invokevirtual 281, 3) := by decide +kernel
theorem dX7_keyOf_21 : decode cX7_keyOf 21 = .ok (.istore_n 1, 1) := by decide +kernel
theorem dX7_keyOf_22 : decode cX7_keyOf 22 = .ok (.iload_n 1, 1) := by decide +kernel
theorem dX7_keyOf_23 : decode cX7_keyOf 23 = .ok (.iconst (-1), 1) := by decide +kernel
theorem dX7_keyOf_24 : decode cX7_keyOf 24 = .ok (.if_icmp .ne 7, 3) := by decide +kernel
theorem dX7_keyOf_27 : decode cX7_keyOf 27 = .ok (.iconst (-1), 1) := by decide +kernel
theorem dX7_keyOf_28 : decode cX7_keyOf 28 = .ok (.goto 8, 3) := by decide +kernel
theorem dX7_keyOf_31 : decode cX7_keyOf 31 = .ok (.aload_n 0, 1) := by decide +kernel
theorem dX7_keyOf_32 : decode cX7_keyOf 32 = .ok (.iload_n 1, 1) := by decide +kernel
theorem dX7_keyOf_33 : decode cX7_keyOf 33 = .ok (.invokevirtual 284, 3) := by decide +kernel
theorem dX7_keyOf_36 : decode cX7_keyOf 36 = .ok (.ireturn, 1) := by decide +kernel
set_option maxRecDepth 20000 in
theorem ggX7_whyNot_X7_isRoom : GoodIn wsX7_whyNot wsX7_isRoom := goodIn_r _ [7] (by decide +kernel) (by decide +kernel)
set_option maxRecDepth 20000 in
theorem gX7_whyNot_X7_isRoom : GoodIn wsX7_whyNot (va_wsS RX7 121 yX7_isRoom wsX7_isRoom) := goodIn_app (goodIn_of _ (by decide +kernel)) ggX7_whyNot_X7_isRoom
set_option maxRecDepth 20000 in
theorem ggX7_whyNot_X7_isMessage : GoodIn wsX7_whyNot wsX7_isMessage := goodIn_r _ [10] (by decide +kernel) (by decide +kernel)
set_option maxRecDepth 20000 in
theorem gX7_whyNot_X7_isMessage : GoodIn wsX7_whyNot (va_wsS RX7 65 yX7_isMessage wsX7_isMessage) := goodIn_app (goodIn_of _ (by decide +kernel)) ggX7_whyNot_X7_isMessage
set_option maxRecDepth 20000 in
theorem ggX7_whyNot_X3_reasonAgainst : GoodIn wsX7_whyNot wsX3_reasonAgainst := goodIn_r _ [15, 16, 17, 18, 19, 14, 20, 21, 22, 32, 33, 34, 35, 36, 37, 38, 39, 40, 41, 42, 43, 44, 45, 46, 47] (by decide +kernel) (by decide +kernel)
set_option maxRecDepth 20000 in
theorem gX7_whyNot_X3_reasonAgainst : GoodIn wsX7_whyNot (wsV RX7 166 RX3 yX3_reasonAgainst wsX3_reasonAgainst) := goodIn_app (goodIn_of _ (by decide +kernel)) ggX7_whyNot_X3_reasonAgainst
theorem dX7_whyNot_0 : decode cX7_whyNot 0 = .ok (.iload_n 1, 1) := by decide +kernel
theorem dX7_whyNot_1 : decode cX7_whyNot 1 = .ok (.invokestatic 121, 3) := by decide +kernel
theorem dX7_whyNot_4 : decode cX7_whyNot 4 = .ok (.ifCond .eq 10, 3) := by decide +kernel
theorem dX7_whyNot_7 : decode cX7_whyNot 7 = .ok (.iload_n 2, 1) := by decide +kernel
theorem dX7_whyNot_8 : decode cX7_whyNot 8 = .ok (.invokestatic 65, 3) := by decide +kernel
theorem dX7_whyNot_11 : decode cX7_whyNot 11 = .ok (.ifCond .ne 13, 3) := by decide +kernel
theorem dX7_whyNot_14 : decode cX7_whyNot 14 = .ok (.new 69, 3) := by decide +kernel
theorem dX7_whyNot_17 : decode cX7_whyNot 17 = .ok (.dup, 1) := by decide +kernel
theorem dX7_whyNot_18 : decode cX7_whyNot 18 = .ok (.ldc 164, 2) := by decide +kernel
theorem dX7_whyNot_20 : decode cX7_whyNot 20 = .ok (.invokespecial 73, 3) := by decide +kernel
theorem dX7_whyNot_23 : decode cX7_whyNot 23 = .ok (.athrow, 1) := by decide +kernel
theorem dX7_whyNot_24 : decode cX7_whyNot 24 = .ok (.aload_n 0, 1) := by decide +kernel
theorem dX7_whyNot_25 : decode cX7_whyNot 25 = .ok (.getfield 10, 3) := by decide +kernel
theorem dX7_whyNot_28 : decode cX7_whyNot 28 = .ok (.iload_n 1, 1) := by decide +kernel
theorem dX7_whyNot_29 : decode cX7_whyNot 29 = .ok (.iload_n 2, 1) := by decide +kernel
theorem dX7_whyNot_30 : decode cX7_whyNot 30 = .ok (.invokevirtual 166, 3) := by decide +kernel
theorem dX7_whyNot_33 : decode cX7_whyNot 33 = .ok (.ireturn, 1) := by decide +kernel
set_option maxRecDepth 20000 in
theorem ggX7_ifWhistled_X7_isRoom : GoodIn wsX7_ifWhistled wsX7_isRoom := goodIn_r _ [14] (by decide +kernel) (by decide +kernel)
set_option maxRecDepth 20000 in
theorem gX7_ifWhistled_X7_isRoom : GoodIn wsX7_ifWhistled (va_wsS RX7 121 yX7_isRoom wsX7_isRoom) := goodIn_app (goodIn_of _ (by decide +kernel)) ggX7_ifWhistled_X7_isRoom
set_option maxRecDepth 20000 in
theorem ggX7_ifWhistled_X7_isMessage : GoodIn wsX7_ifWhistled wsX7_isMessage := goodIn_r _ [17] (by decide +kernel) (by decide +kernel)
set_option maxRecDepth 20000 in
theorem gX7_ifWhistled_X7_isMessage : GoodIn wsX7_ifWhistled (va_wsS RX7 65 yX7_isMessage wsX7_isMessage) := goodIn_app (goodIn_of _ (by decide +kernel)) ggX7_ifWhistled_X7_isMessage
set_option maxRecDepth 20000 in
theorem ggX7_ifWhistled_X3_reasonAgainst : GoodIn wsX7_ifWhistled wsX3_reasonAgainst := goodIn_r _ [22, 23, 24, 25, 26, 21, 27, 28, 29, 82, 83, 84, 85, 86, 87, 88, 89, 90, 91, 92, 93, 94, 95, 96, 97] (by decide +kernel) (by decide +kernel)
set_option maxRecDepth 20000 in
theorem gX7_ifWhistled_X3_reasonAgainst : GoodIn wsX7_ifWhistled (wsV RX7 166 RX3 yX3_reasonAgainst wsX3_reasonAgainst) := goodIn_app (goodIn_of _ (by decide +kernel)) ggX7_ifWhistled_X3_reasonAgainst
set_option maxRecDepth 20000 in
theorem ggX7_ifWhistled_X2_foresee : GoodIn wsX7_ifWhistled wsX2_foresee := goodIn_r _ [34, 35, 36, 37, 38, 39, 40, 41, 42, 43, 44, 45, 21, 46, 47, 48, 49, 50, 51, 29, 52, 13, 53, 54, 55, 56, 57, 58, 59, 60, 61, 62, 63, 64, 65, 66, 67, 82, 83, 84, 85, 86, 87, 88, 89, 90, 91, 92, 93, 94, 95, 96, 97, 77, 78, 79, 80, 81] (by decide +kernel) (by decide +kernel)
set_option maxRecDepth 20000 in
theorem gX7_ifWhistled_X2_foresee : GoodIn wsX7_ifWhistled (wsV RX7 289 RX2 yX2_foresee wsX2_foresee) := goodIn_app (goodIn_of _ (by decide +kernel)) ggX7_ifWhistled_X2_foresee
theorem dX7_ifWhistled_0 : decode cX7_ifWhistled 0 = .ok (.iload_n 1, 1) := by decide +kernel
theorem dX7_ifWhistled_1 : decode cX7_ifWhistled 1 = .ok (.invokestatic 121, 3) := by decide +kernel
theorem dX7_ifWhistled_4 : decode cX7_ifWhistled 4 = .ok (.ifCond .eq 10, 3) := by decide +kernel
theorem dX7_ifWhistled_7 : decode cX7_ifWhistled 7 = .ok (.iload_n 2, 1) := by decide +kernel
theorem dX7_ifWhistled_8 : decode cX7_ifWhistled 8 = .ok (.invokestatic 65, 3) := by decide +kernel
theorem dX7_ifWhistled_11 : decode cX7_ifWhistled 11 = .ok (.ifCond .ne 13, 3) := by decide +kernel
theorem dX7_ifWhistled_14 : decode cX7_ifWhistled 14 = .ok (.new 69, 3) := by decide +kernel
theorem dX7_ifWhistled_17 : decode cX7_ifWhistled 17 = .ok (.dup, 1) := by decide +kernel
theorem dX7_ifWhistled_18 : decode cX7_ifWhistled 18 = .ok (.ldc 164, 2) := by decide +kernel
theorem dX7_ifWhistled_20 : decode cX7_ifWhistled 20 = .ok (.invokespecial 73, 3) := by decide +kernel
theorem dX7_ifWhistled_23 : decode cX7_ifWhistled 23 = .ok (.athrow, 1) := by decide +kernel
theorem dX7_ifWhistled_24 : decode cX7_ifWhistled 24 = .ok (.iload_n 3, 1) := by decide +kernel
theorem dX7_ifWhistled_25 : decode cX7_ifWhistled 25 = .ok (.ifCond .lt 8, 3) := by decide +kernel
theorem dX7_ifWhistled_28 : decode cX7_ifWhistled 28 = .ok (.iload_n 3, 1) := by decide +kernel
theorem dX7_ifWhistled_29 : decode cX7_ifWhistled 29 = .ok (.iconst 4, 1) := by decide +kernel
theorem dX7_ifWhistled_30 : decode cX7_ifWhistled 30 = .ok (.if_icmp .lt 14, 3) := by decide +kernel
theorem dX7_ifWhistled_33 : decode cX7_ifWhistled 33 = .ok (.new 80, 3) := by decide +kernel
theorem dX7_ifWhistled_36 : decode cX7_ifWhistled 36 = .ok (.dup, 1) := by decide +kernel
theorem dX7_ifWhistled_37 : decode cX7_ifWhistled 37 = .ok (.ldc_w 287, 3) := by decide +kernel
theorem dX7_ifWhistled_40 : decode cX7_ifWhistled 40 = .ok (.invokespecial 84, 3) := by decide +kernel
theorem dX7_ifWhistled_43 : decode cX7_ifWhistled 43 = .ok (.athrow, 1) := by decide +kernel
theorem dX7_ifWhistled_44 : decode cX7_ifWhistled 44 = .ok (.aload_n 0, 1) := by decide +kernel
theorem dX7_ifWhistled_45 : decode cX7_ifWhistled 45 = .ok (.getfield 10, 3) := by decide +kernel
theorem dX7_ifWhistled_48 : decode cX7_ifWhistled 48 = .ok (.iload_n 1, 1) := by decide +kernel
theorem dX7_ifWhistled_49 : decode cX7_ifWhistled 49 = .ok (.iload_n 2, 1) := by decide +kernel
theorem dX7_ifWhistled_50 : decode cX7_ifWhistled 50 = .ok (.invokevirtual 166, 3) := by decide +kernel
theorem dX7_ifWhistled_53 : decode cX7_ifWhistled 53 = .ok (.ifCond .eq 5, 3) := by decide +kernel
theorem dX7_ifWhistled_56 : decode cX7_ifWhistled 56 = .ok (.iconst (-1), 1) := by decide +kernel
theorem dX7_ifWhistled_57 : decode cX7_ifWhistled 57 = .ok (.ireturn, 1) := by decide +kernel
theorem dX7_ifWhistled_58 : decode cX7_ifWhistled 58 = .ok (.aload_n 0, 1) := by decide +kernel
theorem dX7_ifWhistled_59 : decode cX7_ifWhistled 59 = .ok (.getfield 57, 3) := by decide +kernel
theorem dX7_ifWhistled_62 : decode cX7_ifWhistled 62 = .ok (.aload_n 0, 1) := by decide +kernel
theorem dX7_ifWhistled_63 : decode cX7_ifWhistled 63 = .ok (.getfield 10, 3) := by decide +kernel
theorem dX7_ifWhistled_66 : decode cX7_ifWhistled 66 = .ok (.iload_n 1, 1) := by decide +kernel
theorem dX7_ifWhistled_67 : decode cX7_ifWhistled 67 = .ok (.iload_n 2, 1) := by decide +kernel
theorem dX7_ifWhistled_68 : decode cX7_ifWhistled 68 = .ok (.invokevirtual 289, 3) := by decide +kernel
theorem dX7_ifWhistled_71 : decode cX7_ifWhistled 71 = .ok (.iload_n 3, 1) := by decide +kernel
theorem dX7_ifWhistled_72 : decode cX7_ifWhistled 72 = .ok (.tableswitch 52 0 2 #[28, 36, 44], 28) := by decide +kernel
theorem dX7_ifWhistled_100 : decode cX7_ifWhistled 100 = .ok (.aload_n 0, 1) := by decide +kernel
theorem dX7_ifWhistled_101 : decode cX7_ifWhistled 101 = .ok (.getfield 57, 3) := by decide +kernel
theorem dX7_ifWhistled_104 : decode cX7_ifWhistled 104 = .ok (.getfield 293, 3) := by decide +kernel
theorem dX7_ifWhistled_107 : decode cX7_ifWhistled 107 = .ok (.ireturn, 1) := by decide +kernel
theorem dX7_ifWhistled_108 : decode cX7_ifWhistled 108 = .ok (.aload_n 0, 1) := by decide +kernel
theorem dX7_ifWhistled_109 : decode cX7_ifWhistled 109 = .ok (.getfield 57, 3) := by decide +kernel
theorem dX7_ifWhistled_112 : decode cX7_ifWhistled 112 = .ok (.getfield 296, 3) := by decide +kernel
theorem dX7_ifWhistled_115 : decode cX7_ifWhistled 115 = .ok (.ireturn, 1) := by decide +kernel
theorem dX7_ifWhistled_116 : decode cX7_ifWhistled 116 = .ok (.aload_n 0, 1) := by decide +kernel
theorem dX7_ifWhistled_117 : decode cX7_ifWhistled 117 = .ok (.getfield 57, 3) := by decide +kernel
theorem dX7_ifWhistled_120 : decode cX7_ifWhistled 120 = .ok (.getfield 299, 3) := by decide +kernel
theorem dX7_ifWhistled_123 : decode cX7_ifWhistled 123 = .ok (.ireturn, 1) := by decide +kernel
theorem dX7_ifWhistled_124 : decode cX7_ifWhistled 124 = .ok (.aload_n 0, 1) := by decide +kernel
theorem dX7_ifWhistled_125 : decode cX7_ifWhistled 125 = .ok (.getfield 57, 3) := by decide +kernel
theorem dX7_ifWhistled_128 : decode cX7_ifWhistled 128 = .ok (.getfield 302, 3) := by decide +kernel
theorem dX7_ifWhistled_131 : decode cX7_ifWhistled 131 = .ok (.ireturn, 1) := by decide +kernel
set_option maxRecDepth 20000 in
theorem ggX7_bestRoom_X7_isMessage : GoodIn wsX7_bestRoom wsX7_isMessage := goodIn_r _ [10] (by decide +kernel) (by decide +kernel)
set_option maxRecDepth 20000 in
theorem gX7_bestRoom_X7_isMessage : GoodIn wsX7_bestRoom (va_wsS RX7 65 yX7_isMessage wsX7_isMessage) := goodIn_app (goodIn_of _ (by decide +kernel)) ggX7_bestRoom_X7_isMessage
set_option maxRecDepth 20000 in
theorem ggX7_bestRoom_X2_foresee : GoodIn wsX7_bestRoom wsX2_foresee := goodIn_r _ [15, 16, 17, 18, 19, 20, 21, 22, 23, 24, 25, 26, 27, 28, 29, 30, 31, 32, 33, 34, 35, 9, 36, 37, 38, 39, 40, 41, 42, 43, 44, 45, 46, 47, 48, 49, 50, 82, 83, 84, 85, 86, 87, 88, 89, 90, 91, 92, 93, 94, 95, 96, 97, 77, 78, 79, 80, 81] (by decide +kernel) (by decide +kernel)
set_option maxRecDepth 20000 in
theorem gX7_bestRoom_X2_foresee : GoodIn wsX7_bestRoom (wsV RX7 289 RX2 yX2_foresee wsX2_foresee) := goodIn_app (goodIn_of _ (by decide +kernel)) ggX7_bestRoom_X2_foresee
set_option maxRecDepth 20000 in
theorem ggX7_bestRoom_J6_bitCount_0f7a4 : GoodIn wsX7_bestRoom wsJ6_bitCount_0f7a4 := goodIn_r _ [54, 55, 56, 57] (by decide +kernel) (by decide +kernel)
set_option maxRecDepth 20000 in
theorem gX7_bestRoom_J6_bitCount_0f7a4 : GoodIn wsX7_bestRoom (va_wsS RX7 134 yJ6_bitCount_0f7a4 wsJ6_bitCount_0f7a4) := goodIn_app (goodIn_of _ (by decide +kernel)) ggX7_bestRoom_J6_bitCount_0f7a4
set_option maxRecDepth 20000 in
theorem ggX7_bestRoom_X3_reasonAgainst : GoodIn wsX7_bestRoom wsX3_reasonAgainst := goodIn_r _ [61, 62, 63, 64, 65, 27, 66, 67, 34, 82, 83, 84, 85, 86, 87, 88, 89, 90, 91, 92, 93, 94, 95, 96, 97] (by decide +kernel) (by decide +kernel)
set_option maxRecDepth 20000 in
theorem gX7_bestRoom_X3_reasonAgainst : GoodIn wsX7_bestRoom (wsV RX7 166 RX3 yX3_reasonAgainst wsX3_reasonAgainst) := goodIn_app (goodIn_of _ (by decide +kernel)) ggX7_bestRoom_X3_reasonAgainst
theorem dX7_bestRoom_0 : decode cX7_bestRoom 0 = .ok (.iload_n 1, 1) := by decide +kernel
theorem dX7_bestRoom_1 : decode cX7_bestRoom 1 = .ok (.invokestatic 65, 3) := by decide +kernel
theorem dX7_bestRoom_4 : decode cX7_bestRoom 4 = .ok (.ifCond .ne 13, 3) := by decide +kernel
theorem dX7_bestRoom_7 : decode cX7_bestRoom 7 = .ok (.new 69, 3) := by decide +kernel
theorem dX7_bestRoom_10 : decode cX7_bestRoom 10 = .ok (.dup, 1) := by decide +kernel
theorem dX7_bestRoom_11 : decode cX7_bestRoom 11 = .ok (.ldc 71, 2) := by decide +kernel
theorem dX7_bestRoom_13 : decode cX7_bestRoom 13 = .ok (.invokespecial 73, 3) := by decide +kernel
theorem dX7_bestRoom_16 : decode cX7_bestRoom 16 = .ok (.athrow, 1) := by decide +kernel
theorem dX7_bestRoom_17 : decode cX7_bestRoom 17 = .ok (.iconst (-1), 1) := by decide +kernel
theorem dX7_bestRoom_18 : decode cX7_bestRoom 18 = .ok (.istore_n 2, 1) := by decide +kernel
theorem dX7_bestRoom_19 : decode cX7_bestRoom 19 = .ok (.iconst (-1), 1) := by decide +kernel
theorem dX7_bestRoom_20 : decode cX7_bestRoom 20 = .ok (.istore_n 3, 1) := by decide +kernel
theorem dX7_bestRoom_21 : decode cX7_bestRoom 21 = .ok (.iconst 0, 1) := by decide +kernel
theorem dX7_bestRoom_22 : decode cX7_bestRoom 22 = .ok (.istore 4, 2) := by decide +kernel
theorem dX7_bestRoom_24 : decode cX7_bestRoom 24 = .ok (.iload 4, 2) := by decide +kernel
theorem dX7_bestRoom_26 : decode cX7_bestRoom 26 = .ok (.bipush 6, 2) := by decide +kernel
theorem dX7_bestRoom_28 : decode cX7_bestRoom 28 = .ok (.if_icmp .ge 82, 3) := by decide +kernel
theorem dX7_bestRoom_31 : decode cX7_bestRoom 31 = .ok (.aload_n 0, 1) := by decide +kernel
theorem dX7_bestRoom_32 : decode cX7_bestRoom 32 = .ok (.getfield 57, 3) := by decide +kernel
theorem dX7_bestRoom_35 : decode cX7_bestRoom 35 = .ok (.aload_n 0, 1) := by decide +kernel
theorem dX7_bestRoom_36 : decode cX7_bestRoom 36 = .ok (.getfield 10, 3) := by decide +kernel
theorem dX7_bestRoom_39 : decode cX7_bestRoom 39 = .ok (.iload 4, 2) := by decide +kernel
theorem dX7_bestRoom_41 : decode cX7_bestRoom 41 = .ok (.iload_n 1, 1) := by decide +kernel
theorem dX7_bestRoom_42 : decode cX7_bestRoom 42 = .ok (.invokevirtual 289, 3) := by decide +kernel
theorem dX7_bestRoom_45 : decode cX7_bestRoom 45 = .ok (.aload_n 0, 1) := by decide +kernel
theorem dX7_bestRoom_46 : decode cX7_bestRoom 46 = .ok (.getfield 57, 3) := by decide +kernel
theorem dX7_bestRoom_49 : decode cX7_bestRoom 49 = .ok (.getfield 296, 3) := by decide +kernel
theorem dX7_bestRoom_52 : decode cX7_bestRoom 52 = .ok (.invokestatic 134, 3) := by decide +kernel
theorem dX7_bestRoom_55 : decode cX7_bestRoom 55 = .ok (.istore 5, 2) := by decide +kernel
theorem dX7_bestRoom_57 : decode cX7_bestRoom 57 = .ok (.aload_n 0, 1) := by decide +kernel
theorem dX7_bestRoom_58 : decode cX7_bestRoom 58 = .ok (.getfield 57, 3) := by decide +kernel
theorem dX7_bestRoom_61 : decode cX7_bestRoom 61 = .ok (.getfield 299, 3) := by decide +kernel
theorem dX7_bestRoom_64 : decode cX7_bestRoom 64 = .ok (.ifCond .ne 20, 3) := by decide +kernel
theorem dX7_bestRoom_67 : decode cX7_bestRoom 67 = .ok (.aload_n 0, 1) := by decide +kernel
theorem dX7_bestRoom_68 : decode cX7_bestRoom 68 = .ok (.getfield 10, 3) := by decide +kernel
theorem dX7_bestRoom_71 : decode cX7_bestRoom 71 = .ok (.iload 4, 2) := by decide +kernel
theorem dX7_bestRoom_73 : decode cX7_bestRoom 73 = .ok (.iload_n 1, 1) := by decide +kernel
theorem dX7_bestRoom_74 : decode cX7_bestRoom 74 = .ok (.invokevirtual 166, 3) := by decide +kernel
theorem dX7_bestRoom_77 : decode cX7_bestRoom 77 = .ok (.ifCond .ne 7, 3) := by decide +kernel
theorem dX7_bestRoom_80 : decode cX7_bestRoom 80 = .ok (.iconst 1, 1) := by decide +kernel
theorem dX7_bestRoom_81 : decode cX7_bestRoom 81 = .ok (.goto 4, 3) := by decide +kernel
theorem dX7_bestRoom_84 : decode cX7_bestRoom 84 = .ok (.iconst 0, 1) := by decide +kernel
theorem dX7_bestRoom_85 : decode cX7_bestRoom 85 = .ok (.istore 6, 2) := by decide +kernel
theorem dX7_bestRoom_87 : decode cX7_bestRoom 87 = .ok (.iload 6, 2) := by decide +kernel
theorem dX7_bestRoom_89 : decode cX7_bestRoom 89 = .ok (.ifCond .eq 15, 3) := by decide +kernel
theorem dX7_bestRoom_92 : decode cX7_bestRoom 92 = .ok (.iload 5, 2) := by decide +kernel
theorem dX7_bestRoom_94 : decode cX7_bestRoom 94 = .ok (.iload_n 3, 1) := by decide +kernel
theorem dX7_bestRoom_95 : decode cX7_bestRoom 95 = .ok (.if_icmp .le 9, 3) := by decide +kernel
theorem dX7_bestRoom_98 : decode cX7_bestRoom 98 = .ok (.iload 5, 2) := by decide +kernel
theorem dX7_bestRoom_100 : decode cX7_bestRoom 100 = .ok (.istore_n 3, 1) := by decide +kernel
theorem dX7_bestRoom_101 : decode cX7_bestRoom 101 = .ok (.iload 4, 2) := by decide +kernel
theorem dX7_bestRoom_103 : decode cX7_bestRoom 103 = .ok (.istore_n 2, 1) := by decide +kernel
theorem dX7_bestRoom_104 : decode cX7_bestRoom 104 = .ok (.iinc 4 1, 3) := by decide +kernel
theorem dX7_bestRoom_107 : decode cX7_bestRoom 107 = .ok (.goto (-83), 3) := by decide +kernel
theorem dX7_bestRoom_110 : decode cX7_bestRoom 110 = .ok (.iload_n 2, 1) := by decide +kernel
theorem dX7_bestRoom_111 : decode cX7_bestRoom 111 = .ok (.ireturn, 1) := by decide +kernel
set_option maxRecDepth 20000 in
theorem ggX7_understoodShare_X7_sumOf : GoodIn wsX7_understoodShare wsX7_sumOf := goodIn_r _ [7] (by decide +kernel) (by decide +kernel)
set_option maxRecDepth 20000 in
theorem gX7_understoodShare_X7_sumOf : GoodIn wsX7_understoodShare (va_wsS RX7 266 yX7_sumOf wsX7_sumOf) := goodIn_app (goodIn_of _ (by decide +kernel)) ggX7_understoodShare_X7_sumOf
theorem dX7_understoodShare_0 : decode cX7_understoodShare 0 = .ok (.aload_n 0, 1) := by decide +kernel
theorem dX7_understoodShare_1 : decode cX7_understoodShare 1 = .ok (.getfield 10, 3) := by decide +kernel
theorem dX7_understoodShare_4 : decode cX7_understoodShare 4 = .ok (.getfield 241, 3) := by decide +kernel
theorem dX7_understoodShare_7 : decode cX7_understoodShare 7 = .ok (.invokestatic 266, 3) := by decide +kernel
theorem dX7_understoodShare_10 : decode cX7_understoodShare 10 = .ok (.istore_n 1, 1) := by decide +kernel
theorem dX7_understoodShare_11 : decode cX7_understoodShare 11 = .ok (.iload_n 1, 1) := by decide +kernel
theorem dX7_understoodShare_12 : decode cX7_understoodShare 12 = .ok (.aload_n 0, 1) := by decide +kernel
theorem dX7_understoodShare_13 : decode cX7_understoodShare 13 = .ok (.getfield 10, 3) := by decide +kernel
theorem dX7_understoodShare_16 : decode cX7_understoodShare 16 = .ok (.getfield 244, 3) := by decide +kernel
theorem dX7_understoodShare_19 : decode cX7_understoodShare 19 = .ok (.invokestatic 266, 3) := by decide +kernel
theorem dX7_understoodShare_22 : decode cX7_understoodShare 22 = .ok (.iadd, 1) := by decide +kernel
theorem dX7_understoodShare_23 : decode cX7_understoodShare 23 = .ok (.istore_n 2, 1) := by decide +kernel
theorem dX7_understoodShare_24 : decode cX7_understoodShare 24 = .ok (.iload_n 2, 1) := by decide +kernel
theorem dX7_understoodShare_25 : decode cX7_understoodShare 25 = .ok (.ifCond .gt 7, 3) := by decide +kernel
theorem dX7_understoodShare_28 : decode cX7_understoodShare 28 = .ok (.dconst 1, 1) := by decide +kernel
theorem dX7_understoodShare_29 : decode cX7_understoodShare 29 = .ok (.goto 8, 3) := by decide +kernel
theorem dX7_understoodShare_32 : decode cX7_understoodShare 32 = .ok (.iload_n 1, 1) := by decide +kernel
theorem dX7_understoodShare_33 : decode cX7_understoodShare 33 = .ok (.i2d, 1) := by decide +kernel
theorem dX7_understoodShare_34 : decode cX7_understoodShare 34 = .ok (.iload_n 2, 1) := by decide +kernel
theorem dX7_understoodShare_35 : decode cX7_understoodShare 35 = .ok (.i2d, 1) := by decide +kernel
theorem dX7_understoodShare_36 : decode cX7_understoodShare 36 = .ok (.ddiv, 1) := by decide +kernel
theorem dX7_understoodShare_37 : decode cX7_understoodShare 37 = .ok (.dreturn, 1) := by decide +kernel
set_option maxRecDepth 20000 in
theorem ggX7_digest_X7_count : GoodIn wsX7_digest wsX7_count := goodIn_ca (goodIn_r _ [7, 8, 9, 10, 11, 12, 13, 14, 15, 16, 17, 18, 19, 20, 21, 22, 23, 24, 25, 26, 27, 28, 29, 30, 31, 32, 33, 34, 35, 36, 37, 38, 39, 40, 41, 42, 43, 44, 45, 46, 47, 48, 49, 50, 51, 52, 53, 54, 55, 56, 57, 58, 59, 60, 61, 62, 63, 64, 65, 66, 67, 68, 69, 70, 71, 72, 73, 74, 75, 76, 77, 78, 79, 80, 81, 82, 83, 84, 6, 85, 86, 87, 88, 89, 90, 216, 217, 218, 219, 220, 221, 222, 223, 224, 225, 226, 227, 228, 229, 230, 231, 232, 233, 234, 235, 236, 237, 238, 239, 240, 241, 242, 243, 244, 245, 246] (by decide +kernel) (by decide +kernel)) (goodIn_sub (fun _ h => List.mem_cons_of_mem _ (List.mem_append_left _ (List.mem_append_right _ h))) (by decide +kernel))
set_option maxRecDepth 20000 in
theorem gX7_digest_X7_count : GoodIn wsX7_digest (wsV RX7 309 RX7 yX7_count wsX7_count) := goodIn_app (goodIn_of _ (by decide +kernel)) ggX7_digest_X7_count
set_option maxRecDepth 20000 in
theorem ggX7_digest_X7_withMessage : GoodIn wsX7_digest wsX7_withMessage := goodIn_ca (goodIn_ca (goodIn_r _ [94, 2, 95, 96, 97, 6, 98, 99, 100, 8, 9, 10, 101, 102, 17, 103, 104, 105, 106, 107, 108, 109, 110, 111, 46, 47, 25, 48, 49, 112, 113, 114, 115, 116, 117, 118, 119, 120, 121, 122, 123, 124, 125, 126, 127, 128, 129, 130, 131, 132, 133, 134, 135, 136, 137, 138, 139, 140, 82, 141, 142, 143, 144, 145, 146, 147, 87, 88, 89, 90, 148, 149, 150, 151, 152, 66, 67, 68, 69, 70, 71, 72, 153, 154, 155, 156, 27, 77, 78, 79, 80, 81, 216, 217, 218, 219, 220, 221, 222, 223, 224, 225, 226, 227, 228, 229, 230, 231, 232, 233, 234, 235, 236, 237, 238, 239, 240, 247, 248, 249, 250, 251] (by decide +kernel) (by decide +kernel)) (goodIn_sub (fun _ h => List.mem_cons_of_mem _ (List.mem_append_right _ h)) (by decide +kernel))) (goodIn_sub (fun _ h => List.mem_cons_of_mem _ (List.mem_append_left _ (List.mem_append_right _ h))) (by decide +kernel))
set_option maxRecDepth 20000 in
theorem gX7_digest_X7_withMessage : GoodIn wsX7_digest (wsV RX7 312 RX7 yX7_withMessage wsX7_withMessage) := goodIn_app (goodIn_of _ (by decide +kernel)) ggX7_digest_X7_withMessage
set_option maxRecDepth 20000 in
theorem ggX7_digest_X7_withRoom : GoodIn wsX7_digest wsX7_withRoom := goodIn_ca (goodIn_ca (goodIn_r _ [160, 2, 161, 162, 163, 6, 164, 99, 100, 8, 9, 10, 165, 18, 16, 166, 167, 168, 169, 170, 171, 141, 142, 172, 78, 79, 25, 80, 81, 82, 173, 174, 175, 176, 104, 105, 106, 153, 154, 155, 156, 27, 77, 177, 178, 179, 180, 116, 181, 117, 118, 182, 119, 120, 121, 122, 123, 124, 125, 126, 127, 128, 129, 130, 131, 132, 133, 134, 135, 136, 137, 138, 139, 140, 143, 144, 145, 146, 147, 87, 88, 89, 90, 148, 149, 150, 151, 152, 216, 217, 218, 219, 220, 221, 222, 223, 224, 225, 226, 227, 228, 229, 230, 231, 232, 233, 234, 235, 236, 237, 238, 239, 240, 247, 248, 249, 250, 251] (by decide +kernel) (by decide +kernel)) (goodIn_sub (fun _ h => List.mem_cons_of_mem _ (List.mem_append_right _ h)) (by decide +kernel))) (goodIn_sub (fun _ h => List.mem_cons_of_mem _ (List.mem_append_left _ (List.mem_append_right _ h))) (by decide +kernel))
set_option maxRecDepth 20000 in
theorem gX7_digest_X7_withRoom : GoodIn wsX7_digest (wsV RX7 316 RX7 yX7_withRoom wsX7_withRoom) := goodIn_app (goodIn_of _ (by decide +kernel)) ggX7_digest_X7_withRoom
set_option maxRecDepth 20000 in
theorem ggX7_digest_X7_latest : GoodIn wsX7_digest wsX7_latest := goodIn_ca (goodIn_r _ [186, 8, 9, 10, 187, 216, 217, 218, 219, 220, 221, 222, 223, 224, 225, 226, 227, 228, 229, 230, 231, 232, 233, 234, 235, 236, 237, 238, 239, 240] (by decide +kernel) (by decide +kernel)) (goodIn_sub (fun _ h => List.mem_cons_of_mem _ (List.mem_append_left _ (List.mem_append_right _ h))) (by decide +kernel))
set_option maxRecDepth 20000 in
theorem gX7_digest_X7_latest : GoodIn wsX7_digest (wsV RX7 319 RX7 yX7_latest wsX7_latest) := goodIn_app (goodIn_of _ (by decide +kernel)) ggX7_digest_X7_latest
set_option maxRecDepth 20000 in
theorem ggX7_digest_X7_stopped : GoodIn wsX7_digest wsX7_stopped := goodIn_ca (goodIn_r _ [191, 8, 9, 10, 192, 216, 217, 218, 219, 220, 221, 222, 223, 224, 225, 226, 227, 228, 229, 230, 231, 232, 233, 234, 235, 236, 237, 238, 239, 240] (by decide +kernel) (by decide +kernel)) (goodIn_sub (fun _ h => List.mem_cons_of_mem _ (List.mem_append_left _ (List.mem_append_right _ h))) (by decide +kernel))
set_option maxRecDepth 20000 in
theorem gX7_digest_X7_stopped : GoodIn wsX7_digest (wsV RX7 322 RX7 yX7_stopped wsX7_stopped) := goodIn_app (goodIn_of _ (by decide +kernel)) ggX7_digest_X7_stopped
set_option maxRecDepth 20000 in
theorem ggX7_digest_X7_understoodShare : GoodIn wsX7_digest wsX7_understoodShare := goodIn_r _ [196, 10, 166, 167, 83, 84, 6, 85, 216, 217, 218, 219, 220, 221, 222, 223, 224, 225, 226, 227, 228, 229, 230, 231, 232, 233, 234, 235, 236, 237, 238, 239, 240] (by decide +kernel) (by decide +kernel)
set_option maxRecDepth 20000 in
theorem gX7_digest_X7_understoodShare : GoodIn wsX7_digest (wsV RX7 325 RX7 yX7_understoodShare wsX7_understoodShare) := goodIn_app (goodIn_of _ (by decide +kernel)) ggX7_digest_X7_understoodShare
set_option maxRecDepth 20000 in
theorem ggX7_digest_X7_bitsOfShare : GoodIn wsX7_digest wsX7_bitsOfShare := goodIn_r _ [199, 200, 201, 202] (by decide +kernel) (by decide +kernel)
set_option maxRecDepth 20000 in
theorem gX7_digest_X7_bitsOfShare : GoodIn wsX7_digest (va_wsS RX7 329 yX7_bitsOfShare wsX7_bitsOfShare) := goodIn_app (goodIn_of _ (by decide +kernel)) ggX7_digest_X7_bitsOfShare
set_option maxRecDepth 20000 in
theorem ggX7_digest_X7_withText : GoodIn wsX7_digest wsX7_withText := goodIn_r _ [206, 2, 207, 208, 209, 210, 211, 212, 213, 214, 215, 216, 217, 218, 219, 220, 221, 222, 223, 224, 252, 253] (by decide +kernel) (by decide +kernel)
set_option maxRecDepth 20000 in
theorem gX7_digest_X7_withText : GoodIn wsX7_digest (wsV RX7 333 RX7 yX7_withText wsX7_withText) := goodIn_app (goodIn_of _ (by decide +kernel)) ggX7_digest_X7_withText
theorem dX7_digest_0 : decode cX7_digest 0 = .ok (.ldc2_w 305, 3) := by decide +kernel
theorem dX7_digest_3 : decode cX7_digest 3 = .ok (.lstore_n 1, 1) := by decide +kernel
theorem dX7_digest_4 : decode cX7_digest 4 = .ok (.iconst 0, 1) := by decide +kernel
theorem dX7_digest_5 : decode cX7_digest 5 = .ok (.istore_n 3, 1) := by decide +kernel
theorem dX7_digest_6 : decode cX7_digest 6 = .ok (.iload_n 3, 1) := by decide +kernel
theorem dX7_digest_7 : decode cX7_digest 7 = .ok (.bipush 14, 2) := by decide +kernel
theorem dX7_digest_9 : decode cX7_digest 9 = .ok (.if_icmp .ge 22, 3) := by decide +kernel
theorem dX7_digest_12 : decode cX7_digest 12 = .ok (.ldc2_w 307, 3) := by decide +kernel
theorem dX7_digest_15 : decode cX7_digest 15 = .ok (.lload_n 1, 1) := by decide +kernel
theorem dX7_digest_16 : decode cX7_digest 16 = .ok (.lmul, 1) := by decide +kernel
theorem dX7_digest_17 : decode cX7_digest 17 = .ok (.aload_n 0, 1) := by decide +kernel
theorem dX7_digest_18 : decode cX7_digest 18 = .ok (.iload_n 3, 1) := by decide +kernel
theorem dX7_digest_19 : decode cX7_digest 19 = .ok (.invokevirtual 309, 3) := by decide +kernel
theorem dX7_digest_22 : decode cX7_digest 22 = .ok (.i2l, 1) := by decide +kernel
theorem dX7_digest_23 : decode cX7_digest 23 = .ok (.ladd, 1) := by decide +kernel
theorem dX7_digest_24 : decode cX7_digest 24 = .ok (.lstore_n 1, 1) := by decide +kernel
theorem dX7_digest_25 : decode cX7_digest 25 = .ok (.iinc 3 1, 3) := by decide +kernel
theorem dX7_digest_28 : decode cX7_digest 28 = .ok (.goto (-22), 3) := by decide +kernel
theorem dX7_digest_31 : decode cX7_digest 31 = .ok (.iconst 0, 1) := by decide +kernel
theorem dX7_digest_32 : decode cX7_digest 32 = .ok (.istore_n 3, 1) := by decide +kernel
theorem dX7_digest_33 : decode cX7_digest 33 = .ok (.iload_n 3, 1) := by decide +kernel
theorem dX7_digest_34 : decode cX7_digest 34 = .ok (.bipush 20, 2) := by decide +kernel
theorem dX7_digest_36 : decode cX7_digest 36 = .ok (.if_icmp .ge 16, 3) := by decide +kernel
theorem dX7_digest_39 : decode cX7_digest 39 = .ok (.aload_n 0, 1) := by decide +kernel
theorem dX7_digest_40 : decode cX7_digest 40 = .ok (.lload_n 1, 1) := by decide +kernel
theorem dX7_digest_41 : decode cX7_digest 41 = .ok (.iload_n 3, 1) := by decide +kernel
theorem dX7_digest_42 : decode cX7_digest 42 = .ok (.invokevirtual 312, 3) := by decide +kernel
theorem dX7_digest_45 : decode cX7_digest 45 = .ok (.lstore_n 1, 1) := by decide +kernel
theorem dX7_digest_46 : decode cX7_digest 46 = .ok (.iinc 3 1, 3) := by decide +kernel
theorem dX7_digest_49 : decode cX7_digest 49 = .ok (.goto (-16), 3) := by decide +kernel
theorem dX7_digest_52 : decode cX7_digest 52 = .ok (.iconst 0, 1) := by decide +kernel
theorem dX7_digest_53 : decode cX7_digest 53 = .ok (.istore_n 3, 1) := by decide +kernel
theorem dX7_digest_54 : decode cX7_digest 54 = .ok (.iload_n 3, 1) := by decide +kernel
theorem dX7_digest_55 : decode cX7_digest 55 = .ok (.bipush 6, 2) := by decide +kernel
theorem dX7_digest_57 : decode cX7_digest 57 = .ok (.if_icmp .ge 16, 3) := by decide +kernel
theorem dX7_digest_60 : decode cX7_digest 60 = .ok (.aload_n 0, 1) := by decide +kernel
theorem dX7_digest_61 : decode cX7_digest 61 = .ok (.lload_n 1, 1) := by decide +kernel
theorem dX7_digest_62 : decode cX7_digest 62 = .ok (.iload_n 3, 1) := by decide +kernel
theorem dX7_digest_63 : decode cX7_digest 63 = .ok (.invokevirtual 316, 3) := by decide +kernel
theorem dX7_digest_66 : decode cX7_digest 66 = .ok (.lstore_n 1, 1) := by decide +kernel
theorem dX7_digest_67 : decode cX7_digest 67 = .ok (.iinc 3 1, 3) := by decide +kernel
theorem dX7_digest_70 : decode cX7_digest 70 = .ok (.goto (-16), 3) := by decide +kernel
theorem dX7_digest_73 : decode cX7_digest 73 = .ok (.iconst 0, 1) := by decide +kernel
theorem dX7_digest_74 : decode cX7_digest 74 = .ok (.istore_n 3, 1) := by decide +kernel
theorem dX7_digest_75 : decode cX7_digest 75 = .ok (.iload_n 3, 1) := by decide +kernel
theorem dX7_digest_76 : decode cX7_digest 76 = .ok (.bipush 6, 2) := by decide +kernel
theorem dX7_digest_78 : decode cX7_digest 78 = .ok (.if_icmp .ge 22, 3) := by decide +kernel
theorem dX7_digest_81 : decode cX7_digest 81 = .ok (.ldc2_w 307, 3) := by decide +kernel
theorem dX7_digest_84 : decode cX7_digest 84 = .ok (.lload_n 1, 1) := by decide +kernel
theorem dX7_digest_85 : decode cX7_digest 85 = .ok (.lmul, 1) := by decide +kernel
theorem dX7_digest_86 : decode cX7_digest 86 = .ok (.aload_n 0, 1) := by decide +kernel
theorem dX7_digest_87 : decode cX7_digest 87 = .ok (.iload_n 3, 1) := by decide +kernel
theorem dX7_digest_88 : decode cX7_digest 88 = .ok (.invokevirtual 319, 3) := by decide +kernel
theorem dX7_digest_91 : decode cX7_digest 91 = .ok (.i2l, 1) := by decide +kernel
theorem dX7_digest_92 : decode cX7_digest 92 = .ok (.ladd, 1) := by decide +kernel
theorem dX7_digest_93 : decode cX7_digest 93 = .ok (.lstore_n 1, 1) := by decide +kernel
theorem dX7_digest_94 : decode cX7_digest 94 = .ok (.iinc 3 1, 3) := by decide +kernel
theorem dX7_digest_97 : decode cX7_digest 97 = .ok (.goto (-22), 3) := by decide +kernel
theorem dX7_digest_100 : decode cX7_digest 100 = .ok (.iconst 0, 1) := by decide +kernel
theorem dX7_digest_101 : decode cX7_digest 101 = .ok (.istore_n 3, 1) := by decide +kernel
theorem dX7_digest_102 : decode cX7_digest 102 = .ok (.iload_n 3, 1) := by decide +kernel
theorem dX7_digest_103 : decode cX7_digest 103 = .ok (.iconst 2, 1) := by decide +kernel
theorem dX7_digest_104 : decode cX7_digest 104 = .ok (.if_icmp .ge 22, 3) := by decide +kernel
theorem dX7_digest_107 : decode cX7_digest 107 = .ok (.ldc2_w 307, 3) := by decide +kernel
theorem dX7_digest_110 : decode cX7_digest 110 = .ok (.lload_n 1, 1) := by decide +kernel
theorem dX7_digest_111 : decode cX7_digest 111 = .ok (.lmul, 1) := by decide +kernel
theorem dX7_digest_112 : decode cX7_digest 112 = .ok (.aload_n 0, 1) := by decide +kernel
theorem dX7_digest_113 : decode cX7_digest 113 = .ok (.iload_n 3, 1) := by decide +kernel
theorem dX7_digest_114 : decode cX7_digest 114 = .ok (.invokevirtual 322, 3) := by decide +kernel
theorem dX7_digest_117 : decode cX7_digest 117 = .ok (.i2l, 1) := by decide +kernel
theorem dX7_digest_118 : decode cX7_digest 118 = .ok (.ladd, 1) := by decide +kernel
theorem dX7_digest_119 : decode cX7_digest 119 = .ok (.lstore_n 1, 1) := by decide +kernel
theorem dX7_digest_120 : decode cX7_digest 120 = .ok (.iinc 3 1, 3) := by decide +kernel
theorem dX7_digest_123 : decode cX7_digest 123 = .ok (.goto (-21), 3) := by decide +kernel
theorem dX7_digest_126 : decode cX7_digest 126 = .ok (.ldc2_w 307, 3) := by decide +kernel
theorem dX7_digest_129 : decode cX7_digest 129 = .ok (.lload_n 1, 1) := by decide +kernel
theorem dX7_digest_130 : decode cX7_digest 130 = .ok (.lmul, 1) := by decide +kernel
theorem dX7_digest_131 : decode cX7_digest 131 = .ok (.aload_n 0, 1) := by decide +kernel
theorem dX7_digest_132 : decode cX7_digest 132 = .ok (.invokevirtual 325, 3) := by decide +kernel
theorem dX7_digest_135 : decode cX7_digest 135 = .ok (.invokestatic 329, 3) := by decide +kernel
theorem dX7_digest_138 : decode cX7_digest 138 = .ok (.ladd, 1) := by decide +kernel
theorem dX7_digest_139 : decode cX7_digest 139 = .ok (.lstore_n 1, 1) := by decide +kernel
theorem dX7_digest_140 : decode cX7_digest 140 = .ok (.aload_n 0, 1) := by decide +kernel
theorem dX7_digest_141 : decode cX7_digest 141 = .ok (.lload_n 1, 1) := by decide +kernel
theorem dX7_digest_142 : decode cX7_digest 142 = .ok (.invokevirtual 333, 3) := by decide +kernel
theorem dX7_digest_145 : decode cX7_digest 145 = .ok (.lreturn, 1) := by decide +kernel
set_option maxRecDepth 20000 in
theorem ggX7_withMessage_X7_message : GoodIn wsX7_withMessage wsX7_message := goodIn_ca (goodIn_ca (goodIn_r _ [6, 7, 8, 9, 10, 11, 12, 13, 14, 15, 16, 17, 5, 18, 92, 93, 94, 95, 96, 97, 98, 99, 100, 101, 102, 103, 104, 105, 106, 107, 108, 109, 110, 111, 112, 113, 114, 115, 116] (by decide +kernel) (by decide +kernel)) (goodIn_sub (fun _ h => List.mem_cons_of_mem _ (List.mem_append_left _ (List.mem_append_right _ h))) (by decide +kernel))) (goodIn_sub (fun _ h => List.mem_cons_of_mem _ (List.mem_append_right _ h)) (by decide +kernel))
set_option maxRecDepth 20000 in
theorem gX7_withMessage_X7_message : GoodIn wsX7_withMessage (wsV RX7 337 RX7 yX7_message wsX7_message) := goodIn_app (goodIn_of _ (by decide +kernel)) ggX7_withMessage_X7_message
set_option maxRecDepth 20000 in
theorem ggX7_withMessage_X7_note : GoodIn wsX7_withMessage wsX7_note := goodIn_ca (goodIn_ca (goodIn_r _ [22, 7, 8, 9, 10, 11, 12, 16, 17, 5, 18, 23, 24, 25, 26, 27, 28, 92, 93, 94, 95, 96, 97, 98, 99, 100, 101, 102, 103, 104, 105, 106, 107, 108, 109, 110, 111, 112, 113, 114, 115, 116] (by decide +kernel) (by decide +kernel)) (goodIn_sub (fun _ h => List.mem_cons_of_mem _ (List.mem_append_left _ (List.mem_append_right _ h))) (by decide +kernel))) (goodIn_sub (fun _ h => List.mem_cons_of_mem _ (List.mem_append_right _ h)) (by decide +kernel))
set_option maxRecDepth 20000 in
theorem gX7_withMessage_X7_note : GoodIn wsX7_withMessage (wsV RX7 340 RX7 yX7_note wsX7_note) := goodIn_app (goodIn_of _ (by decide +kernel)) ggX7_withMessage_X7_note
set_option maxRecDepth 20000 in
theorem ggX7_withMessage_X7_bestRoom : GoodIn wsX7_withMessage wsX7_bestRoom := goodIn_ca (goodIn_r _ [32, 7, 8, 33, 11, 34, 35, 16, 17, 5, 18, 36, 37, 38, 39, 40, 41, 42, 43, 44, 45, 46, 47, 48, 49, 50, 51, 26, 52, 53, 54, 55, 56, 57, 58, 59, 60, 61, 62, 63, 64, 65, 66, 67, 68, 69, 70, 71, 72, 73, 74, 75, 76, 77, 78, 79, 80, 81, 82, 83, 84, 85, 86, 87, 88, 89, 90, 91, 92, 93, 94, 95, 96, 97, 98, 99, 100, 117, 118, 119, 120, 121, 101, 102, 103, 104, 105, 106, 107, 108, 109, 110, 111, 112, 113, 114, 115, 116] (by decide +kernel) (by decide +kernel)) (goodIn_sub (fun _ h => List.mem_cons_of_mem _ (List.mem_append_left _ (List.mem_append_right _ h))) (by decide +kernel))
set_option maxRecDepth 20000 in
theorem gX7_withMessage_X7_bestRoom : GoodIn wsX7_withMessage (wsV RX7 343 RX7 yX7_bestRoom wsX7_bestRoom) := goodIn_app (goodIn_of _ (by decide +kernel)) ggX7_withMessage_X7_bestRoom
theorem dX7_withMessage_0 : decode cX7_withMessage 0 = .ok (.lload_n 1, 1) := by decide +kernel
theorem dX7_withMessage_1 : decode cX7_withMessage 1 = .ok (.lstore 4, 2) := by decide +kernel
theorem dX7_withMessage_3 : decode cX7_withMessage 3 = .ok (.iconst 0, 1) := by decide +kernel
theorem dX7_withMessage_4 : decode cX7_withMessage 4 = .ok (.istore 6, 2) := by decide +kernel
theorem dX7_withMessage_6 : decode cX7_withMessage 6 = .ok (.iload 6, 2) := by decide +kernel
theorem dX7_withMessage_8 : decode cX7_withMessage 8 = .ok (.iconst 4, 1) := by decide +kernel
theorem dX7_withMessage_9 : decode cX7_withMessage 9 = .ok (.if_icmp .ge 26, 3) := by decide +kernel
theorem dX7_withMessage_12 : decode cX7_withMessage 12 = .ok (.ldc2_w 307, 3) := by decide +kernel
theorem dX7_withMessage_15 : decode cX7_withMessage 15 = .ok (.lload 4, 2) := by decide +kernel
theorem dX7_withMessage_17 : decode cX7_withMessage 17 = .ok (.lmul, 1) := by decide +kernel
theorem dX7_withMessage_18 : decode cX7_withMessage 18 = .ok (.aload_n 0, 1) := by decide +kernel
theorem dX7_withMessage_19 : decode cX7_withMessage 19 = .ok (.iload_n 3, 1) := by decide +kernel
theorem dX7_withMessage_20 : decode cX7_withMessage 20 = .ok (.iload 6, 2) := by decide +kernel
theorem dX7_withMessage_22 : decode cX7_withMessage 22 = .ok (.invokevirtual 337, 3) := by decide +kernel
theorem dX7_withMessage_25 : decode cX7_withMessage 25 = .ok (.i2l, 1) := by decide +kernel
theorem dX7_withMessage_26 : decode cX7_withMessage 26 = .ok (.ladd, 1) := by decide +kernel
theorem dX7_withMessage_27 : decode cX7_withMessage 27 = .ok (.lstore 4, 2) := by decide +kernel
theorem dX7_withMessage_29 : decode cX7_withMessage 29 = .ok (.iinc 6 1, 3) := by decide +kernel
theorem dX7_withMessage_32 : decode cX7_withMessage 32 = .ok (.goto (-26), 3) := by decide +kernel
theorem dX7_withMessage_35 : decode cX7_withMessage 35 = .ok (.iconst 0, 1) := by decide +kernel
theorem dX7_withMessage_36 : decode cX7_withMessage 36 = .ok (.istore 6, 2) := by decide +kernel
theorem dX7_withMessage_38 : decode cX7_withMessage 38 = .ok (.iload 6, 2) := by decide +kernel
theorem dX7_withMessage_40 : decode cX7_withMessage 40 = .ok (.bipush 8, 2) := by decide +kernel
theorem dX7_withMessage_42 : decode cX7_withMessage 42 = .ok (.if_icmp .ge 26, 3) := by decide +kernel
theorem dX7_withMessage_45 : decode cX7_withMessage 45 = .ok (.ldc2_w 307, 3) := by decide +kernel
theorem dX7_withMessage_48 : decode cX7_withMessage 48 = .ok (.lload 4, 2) := by decide +kernel
theorem dX7_withMessage_50 : decode cX7_withMessage 50 = .ok (.lmul, 1) := by decide +kernel
theorem dX7_withMessage_51 : decode cX7_withMessage 51 = .ok (.aload_n 0, 1) := by decide +kernel
theorem dX7_withMessage_52 : decode cX7_withMessage 52 = .ok (.iload_n 3, 1) := by decide +kernel
theorem dX7_withMessage_53 : decode cX7_withMessage 53 = .ok (.iload 6, 2) := by decide +kernel
theorem dX7_withMessage_55 : decode cX7_withMessage 55 = .ok (.invokevirtual 340, 3) := by decide +kernel
theorem dX7_withMessage_58 : decode cX7_withMessage 58 = .ok (.i2l, 1) := by decide +kernel
theorem dX7_withMessage_59 : decode cX7_withMessage 59 = .ok (.ladd, 1) := by decide +kernel
theorem dX7_withMessage_60 : decode cX7_withMessage 60 = .ok (.lstore 4, 2) := by decide +kernel
theorem dX7_withMessage_62 : decode cX7_withMessage 62 = .ok (.iinc 6 1, 3) := by decide +kernel
theorem dX7_withMessage_65 : decode cX7_withMessage 65 = .ok (.goto (-27), 3) := by decide +kernel
theorem dX7_withMessage_68 : decode cX7_withMessage 68 = .ok (.ldc2_w 307, 3) := by decide +kernel
theorem dX7_withMessage_71 : decode cX7_withMessage 71 = .ok (.lload 4, 2) := by decide +kernel
theorem dX7_withMessage_73 : decode cX7_withMessage 73 = .ok (.lmul, 1) := by decide +kernel
theorem dX7_withMessage_74 : decode cX7_withMessage 74 = .ok (.aload_n 0, 1) := by decide +kernel
theorem dX7_withMessage_75 : decode cX7_withMessage 75 = .ok (.iload_n 3, 1) := by decide +kernel
theorem dX7_withMessage_76 : decode cX7_withMessage 76 = .ok (.invokevirtual 343, 3) := by decide +kernel
theorem dX7_withMessage_79 : decode cX7_withMessage 79 = .ok (.i2l, 1) := by decide +kernel
theorem dX7_withMessage_80 : decode cX7_withMessage 80 = .ok (.ladd, 1) := by decide +kernel
theorem dX7_withMessage_81 : decode cX7_withMessage 81 = .ok (.lreturn, 1) := by decide +kernel
set_option maxRecDepth 20000 in
theorem ggX7_withRoom_X7_room : GoodIn wsX7_withRoom wsX7_room := goodIn_ca (goodIn_ca (goodIn_r _ [6, 7, 8, 9, 10, 11, 12, 13, 14, 15, 16, 17, 18, 5, 19, 20, 21, 22, 23, 24, 25, 26, 27, 28, 29, 88, 89, 90, 91, 92, 93, 94, 95, 96, 97, 98, 99, 100, 101, 102, 103, 104, 105, 106, 107, 108, 109, 110, 111, 112] (by decide +kernel) (by decide +kernel)) (goodIn_sub (fun _ h => List.mem_cons_of_mem _ (List.mem_append_left _ (List.mem_append_right _ h))) (by decide +kernel))) (goodIn_sub (fun _ h => List.mem_cons_of_mem _ (List.mem_append_right _ h)) (by decide +kernel))
set_option maxRecDepth 20000 in
theorem gX7_withRoom_X7_room : GoodIn wsX7_withRoom (wsV RX7 346 RX7 yX7_room wsX7_room) := goodIn_app (goodIn_of _ (by decide +kernel)) ggX7_withRoom_X7_room
set_option maxRecDepth 20000 in
theorem ggX7_withRoom_X7_whyNot : GoodIn wsX7_withRoom wsX7_whyNot := goodIn_ca (goodIn_r _ [33, 7, 8, 11, 17, 18, 5, 19, 34, 35, 36, 37, 38, 39, 26, 40, 41, 42, 24, 25, 27, 28, 29, 88, 89, 90, 91, 92, 93, 94, 95, 96, 97, 98, 99, 100, 101, 102, 103, 104, 105, 106, 107, 108, 109, 110, 111, 112] (by decide +kernel) (by decide +kernel)) (goodIn_sub (fun _ h => List.mem_cons_of_mem _ (List.mem_append_left _ (List.mem_append_right _ h))) (by decide +kernel))
set_option maxRecDepth 20000 in
theorem gX7_withRoom_X7_whyNot : GoodIn wsX7_withRoom (wsV RX7 349 RX7 yX7_whyNot wsX7_whyNot) := goodIn_app (goodIn_of _ (by decide +kernel)) ggX7_withRoom_X7_whyNot
set_option maxRecDepth 20000 in
theorem ggX7_withRoom_X7_ifWhistled : GoodIn wsX7_withRoom wsX7_ifWhistled := goodIn_ca (goodIn_ca (goodIn_r _ [46, 7, 8, 9, 10, 11, 47, 48, 49, 50, 51, 17, 18, 5, 19, 34, 35, 36, 37, 38, 39, 26, 40, 41, 42, 24, 25, 27, 28, 29, 52, 53, 54, 55, 56, 57, 58, 59, 60, 61, 62, 63, 64, 65, 66, 67, 68, 69, 70, 71, 72, 73, 21, 22, 74, 75, 76, 77, 78, 79, 80, 81, 82, 83, 84, 85, 86, 87, 88, 89, 90, 91, 92, 93, 94, 95, 96, 113, 114, 115, 116, 117, 97, 98, 99, 100, 101, 102, 103, 104, 105, 106, 107, 108, 109, 110, 111, 112] (by decide +kernel) (by decide +kernel)) (goodIn_sub (fun _ h => List.mem_cons_of_mem _ (List.mem_append_left _ (List.mem_append_right _ h))) (by decide +kernel))) (goodIn_sub (fun _ h => List.mem_cons_of_mem _ (List.mem_append_right _ h)) (by decide +kernel))
set_option maxRecDepth 20000 in
theorem gX7_withRoom_X7_ifWhistled : GoodIn wsX7_withRoom (wsV RX7 352 RX7 yX7_ifWhistled wsX7_ifWhistled) := goodIn_app (goodIn_of _ (by decide +kernel)) ggX7_withRoom_X7_ifWhistled
theorem dX7_withRoom_0 : decode cX7_withRoom 0 = .ok (.lload_n 1, 1) := by decide +kernel
theorem dX7_withRoom_1 : decode cX7_withRoom 1 = .ok (.lstore 4, 2) := by decide +kernel
theorem dX7_withRoom_3 : decode cX7_withRoom 3 = .ok (.iconst 0, 1) := by decide +kernel
theorem dX7_withRoom_4 : decode cX7_withRoom 4 = .ok (.istore 6, 2) := by decide +kernel
theorem dX7_withRoom_6 : decode cX7_withRoom 6 = .ok (.iload 6, 2) := by decide +kernel
theorem dX7_withRoom_8 : decode cX7_withRoom 8 = .ok (.bipush 6, 2) := by decide +kernel
theorem dX7_withRoom_10 : decode cX7_withRoom 10 = .ok (.if_icmp .ge 26, 3) := by decide +kernel
theorem dX7_withRoom_13 : decode cX7_withRoom 13 = .ok (.ldc2_w 307, 3) := by decide +kernel
theorem dX7_withRoom_16 : decode cX7_withRoom 16 = .ok (.lload 4, 2) := by decide +kernel
theorem dX7_withRoom_18 : decode cX7_withRoom 18 = .ok (.lmul, 1) := by decide +kernel
theorem dX7_withRoom_19 : decode cX7_withRoom 19 = .ok (.aload_n 0, 1) := by decide +kernel
theorem dX7_withRoom_20 : decode cX7_withRoom 20 = .ok (.iload_n 3, 1) := by decide +kernel
theorem dX7_withRoom_21 : decode cX7_withRoom 21 = .ok (.iload 6, 2) := by decide +kernel
theorem dX7_withRoom_23 : decode cX7_withRoom 23 = .ok (.invokevirtual 346, 3) := by decide +kernel
theorem dX7_withRoom_26 : decode cX7_withRoom 26 = .ok (.i2l, 1) := by decide +kernel
theorem dX7_withRoom_27 : decode cX7_withRoom 27 = .ok (.ladd, 1) := by decide +kernel
theorem dX7_withRoom_28 : decode cX7_withRoom 28 = .ok (.lstore 4, 2) := by decide +kernel
theorem dX7_withRoom_30 : decode cX7_withRoom 30 = .ok (.iinc 6 1, 3) := by decide +kernel
theorem dX7_withRoom_33 : decode cX7_withRoom 33 = .ok (.goto (-27), 3) := by decide +kernel
theorem dX7_withRoom_36 : decode cX7_withRoom 36 = .ok (.ldc2_w 307, 3) := by decide +kernel
theorem dX7_withRoom_39 : decode cX7_withRoom 39 = .ok (.lload 4, 2) := by decide +kernel
theorem dX7_withRoom_41 : decode cX7_withRoom 41 = .ok (.lmul, 1) := by decide +kernel
theorem dX7_withRoom_42 : decode cX7_withRoom 42 = .ok (.aload_n 0, 1) := by decide +kernel
theorem dX7_withRoom_43 : decode cX7_withRoom 43 = .ok (.iload_n 3, 1) := by decide +kernel
theorem dX7_withRoom_44 : decode cX7_withRoom 44 = .ok (.iconst 0, 1) := by decide +kernel
theorem dX7_withRoom_45 : decode cX7_withRoom 45 = .ok (.invokevirtual 349, 3) := by decide +kernel
theorem dX7_withRoom_48 : decode cX7_withRoom 48 = .ok (.i2l, 1) := by decide +kernel
theorem dX7_withRoom_49 : decode cX7_withRoom 49 = .ok (.ladd, 1) := by decide +kernel
theorem dX7_withRoom_50 : decode cX7_withRoom 50 = .ok (.lstore 4, 2) := by decide +kernel
theorem dX7_withRoom_52 : decode cX7_withRoom 52 = .ok (.iconst 0, 1) := by decide +kernel
theorem dX7_withRoom_53 : decode cX7_withRoom 53 = .ok (.istore 6, 2) := by decide +kernel
theorem dX7_withRoom_55 : decode cX7_withRoom 55 = .ok (.iload 6, 2) := by decide +kernel
theorem dX7_withRoom_57 : decode cX7_withRoom 57 = .ok (.iconst 4, 1) := by decide +kernel
theorem dX7_withRoom_58 : decode cX7_withRoom 58 = .ok (.if_icmp .ge 28, 3) := by decide +kernel
theorem dX7_withRoom_61 : decode cX7_withRoom 61 = .ok (.ldc2_w 307, 3) := by decide +kernel
theorem dX7_withRoom_64 : decode cX7_withRoom 64 = .ok (.lload 4, 2) := by decide +kernel
theorem dX7_withRoom_66 : decode cX7_withRoom 66 = .ok (.lmul, 1) := by decide +kernel
theorem dX7_withRoom_67 : decode cX7_withRoom 67 = .ok (.aload_n 0, 1) := by decide +kernel
theorem dX7_withRoom_68 : decode cX7_withRoom 68 = .ok (.iload_n 3, 1) := by decide +kernel
theorem dX7_withRoom_69 : decode cX7_withRoom 69 = .ok (.bipush 12, 2) := by decide +kernel
theorem dX7_withRoom_71 : decode cX7_withRoom 71 = .ok (.iload 6, 2) := by decide +kernel
theorem dX7_withRoom_73 : decode cX7_withRoom 73 = .ok (.invokevirtual 352, 3) := by decide +kernel
theorem dX7_withRoom_76 : decode cX7_withRoom 76 = .ok (.i2l, 1) := by decide +kernel
theorem dX7_withRoom_77 : decode cX7_withRoom 77 = .ok (.ladd, 1) := by decide +kernel
theorem dX7_withRoom_78 : decode cX7_withRoom 78 = .ok (.lstore 4, 2) := by decide +kernel
theorem dX7_withRoom_80 : decode cX7_withRoom 80 = .ok (.iinc 6 1, 3) := by decide +kernel
theorem dX7_withRoom_83 : decode cX7_withRoom 83 = .ok (.goto (-28), 3) := by decide +kernel
theorem dX7_withRoom_86 : decode cX7_withRoom 86 = .ok (.lload 4, 2) := by decide +kernel
theorem dX7_withRoom_88 : decode cX7_withRoom 88 = .ok (.lreturn, 1) := by decide +kernel
set_option maxRecDepth 20000 in
theorem ggX7_withText_X5_at : GoodIn wsX7_withText wsX5_at := goodIn_r _ [8, 9, 10, 20, 21] (by decide +kernel) (by decide +kernel)
set_option maxRecDepth 20000 in
theorem gX7_withText_X5_at : GoodIn wsX7_withText (wsV RX7 196 RX5 yX5_at wsX5_at) := goodIn_app (goodIn_of _ (by decide +kernel)) ggX7_withText_X5_at
theorem dX7_withText_0 : decode cX7_withText 0 = .ok (.ldc2_w 307, 3) := by decide +kernel
theorem dX7_withText_3 : decode cX7_withText 3 = .ok (.lload_n 1, 1) := by decide +kernel
theorem dX7_withText_4 : decode cX7_withText 4 = .ok (.lmul, 1) := by decide +kernel
theorem dX7_withText_5 : decode cX7_withText 5 = .ok (.aload_n 0, 1) := by decide +kernel
theorem dX7_withText_6 : decode cX7_withText 6 = .ok (.getfield 29, 3) := by decide +kernel
theorem dX7_withText_9 : decode cX7_withText 9 = .ok (.getfield 177, 3) := by decide +kernel
theorem dX7_withText_12 : decode cX7_withText 12 = .ok (.i2l, 1) := by decide +kernel
theorem dX7_withText_13 : decode cX7_withText 13 = .ok (.ladd, 1) := by decide +kernel
theorem dX7_withText_14 : decode cX7_withText 14 = .ok (.lstore_n 3, 1) := by decide +kernel
theorem dX7_withText_15 : decode cX7_withText 15 = .ok (.iconst 0, 1) := by decide +kernel
theorem dX7_withText_16 : decode cX7_withText 16 = .ok (.istore 5, 2) := by decide +kernel
theorem dX7_withText_18 : decode cX7_withText 18 = .ok (.iload 5, 2) := by decide +kernel
theorem dX7_withText_20 : decode cX7_withText 20 = .ok (.aload_n 0, 1) := by decide +kernel
theorem dX7_withText_21 : decode cX7_withText 21 = .ok (.getfield 29, 3) := by decide +kernel
theorem dX7_withText_24 : decode cX7_withText 24 = .ok (.getfield 177, 3) := by decide +kernel
theorem dX7_withText_27 : decode cX7_withText 27 = .ok (.if_icmp .ge 26, 3) := by decide +kernel
theorem dX7_withText_30 : decode cX7_withText 30 = .ok (.ldc2_w 307, 3) := by decide +kernel
theorem dX7_withText_33 : decode cX7_withText 33 = .ok (.lload_n 3, 1) := by decide +kernel
theorem dX7_withText_34 : decode cX7_withText 34 = .ok (.lmul, 1) := by decide +kernel
theorem dX7_withText_35 : decode cX7_withText 35 = .ok (.aload_n 0, 1) := by decide +kernel
theorem dX7_withText_36 : decode cX7_withText 36 = .ok (.getfield 29, 3) := by decide +kernel
theorem dX7_withText_39 : decode cX7_withText 39 = .ok (.iload 5, 2) := by decide +kernel
theorem dX7_withText_41 : decode cX7_withText 41 = .ok (.invokevirtual 196, 3) := by decide +kernel
theorem dX7_withText_44 : decode cX7_withText 44 = .ok (.i2l, 1) := by decide +kernel
theorem dX7_withText_45 : decode cX7_withText 45 = .ok (.ladd, 1) := by decide +kernel
theorem dX7_withText_46 : decode cX7_withText 46 = .ok (.lstore_n 3, 1) := by decide +kernel
theorem dX7_withText_47 : decode cX7_withText 47 = .ok (.iinc 5 1, 3) := by decide +kernel
theorem dX7_withText_50 : decode cX7_withText 50 = .ok (.goto (-32), 3) := by decide +kernel
theorem dX7_withText_53 : decode cX7_withText 53 = .ok (.lload_n 3, 1) := by decide +kernel
theorem dX7_withText_54 : decode cX7_withText 54 = .ok (.lreturn, 1) := by decide +kernel
theorem dX7_bitsOfShare_0 : decode cX7_bitsOfShare 0 = .ok (.dload_n 0, 1) := by decide +kernel
theorem dX7_bitsOfShare_1 : decode cX7_bitsOfShare 1 = .ok (.dconst 0, 1) := by decide +kernel
theorem dX7_bitsOfShare_2 : decode cX7_bitsOfShare 2 = .ok (.dcmp .l, 1) := by decide +kernel
theorem dX7_bitsOfShare_3 : decode cX7_bitsOfShare 3 = .ok (.ifCond .gt 5, 3) := by decide +kernel
theorem dX7_bitsOfShare_6 : decode cX7_bitsOfShare 6 = .ok (.lconst 0, 1) := by decide +kernel
theorem dX7_bitsOfShare_7 : decode cX7_bitsOfShare 7 = .ok (.lreturn, 1) := by decide +kernel
theorem dX7_bitsOfShare_8 : decode cX7_bitsOfShare 8 = .ok (.dload_n 0, 1) := by decide +kernel
theorem dX7_bitsOfShare_9 : decode cX7_bitsOfShare 9 = .ok (.dstore_n 2, 1) := by decide +kernel
theorem dX7_bitsOfShare_10 : decode cX7_bitsOfShare 10 = .ok (.ldc2_w 356, 3) := by decide +kernel
theorem dX7_bitsOfShare_13 : decode cX7_bitsOfShare 13 = .ok (.lstore 4, 2) := by decide +kernel
theorem dX7_bitsOfShare_15 : decode cX7_bitsOfShare 15 = .ok (.iconst 0, 1) := by decide +kernel
theorem dX7_bitsOfShare_16 : decode cX7_bitsOfShare 16 = .ok (.istore 6, 2) := by decide +kernel
theorem dX7_bitsOfShare_18 : decode cX7_bitsOfShare 18 = .ok (.iload 6, 2) := by decide +kernel
theorem dX7_bitsOfShare_20 : decode cX7_bitsOfShare 20 = .ok (.bipush 64, 2) := by decide +kernel
theorem dX7_bitsOfShare_22 : decode cX7_bitsOfShare 22 = .ok (.if_icmp .ge 27, 3) := by decide +kernel
theorem dX7_bitsOfShare_25 : decode cX7_bitsOfShare 25 = .ok (.dload_n 2, 1) := by decide +kernel
theorem dX7_bitsOfShare_26 : decode cX7_bitsOfShare 26 = .ok (.dconst 1, 1) := by decide +kernel
theorem dX7_bitsOfShare_27 : decode cX7_bitsOfShare 27 = .ok (.dcmp .g, 1) := by decide +kernel
theorem dX7_bitsOfShare_28 : decode cX7_bitsOfShare 28 = .ok (.ifCond .ge 21, 3) := by decide +kernel
theorem dX7_bitsOfShare_31 : decode cX7_bitsOfShare 31 = .ok (.dload_n 2, 1) := by decide +kernel
theorem dX7_bitsOfShare_32 : decode cX7_bitsOfShare 32 = .ok (.ldc2_w 358, 3) := by decide +kernel
theorem dX7_bitsOfShare_35 : decode cX7_bitsOfShare 35 = .ok (.dmul, 1) := by decide +kernel
theorem dX7_bitsOfShare_36 : decode cX7_bitsOfShare 36 = .ok (.dstore_n 2, 1) := by decide +kernel
theorem dX7_bitsOfShare_37 : decode cX7_bitsOfShare 37 = .ok (.lload 4, 2) := by decide +kernel
theorem dX7_bitsOfShare_39 : decode cX7_bitsOfShare 39 = .ok (.lconst 1, 1) := by decide +kernel
theorem dX7_bitsOfShare_40 : decode cX7_bitsOfShare 40 = .ok (.lsub, 1) := by decide +kernel
theorem dX7_bitsOfShare_41 : decode cX7_bitsOfShare 41 = .ok (.lstore 4, 2) := by decide +kernel
theorem dX7_bitsOfShare_43 : decode cX7_bitsOfShare 43 = .ok (.iinc 6 1, 3) := by decide +kernel
theorem dX7_bitsOfShare_46 : decode cX7_bitsOfShare 46 = .ok (.goto (-28), 3) := by decide +kernel
theorem dX7_bitsOfShare_49 : decode cX7_bitsOfShare 49 = .ok (.lload 4, 2) := by decide +kernel
theorem dX7_bitsOfShare_51 : decode cX7_bitsOfShare 51 = .ok (.bipush 52, 2) := by decide +kernel
theorem dX7_bitsOfShare_53 : decode cX7_bitsOfShare 53 = .ok (.lshl, 1) := by decide +kernel
theorem dX7_bitsOfShare_54 : decode cX7_bitsOfShare 54 = .ok (.dload_n 2, 1) := by decide +kernel
theorem dX7_bitsOfShare_55 : decode cX7_bitsOfShare 55 = .ok (.dconst 1, 1) := by decide +kernel
theorem dX7_bitsOfShare_56 : decode cX7_bitsOfShare 56 = .ok (.dsub, 1) := by decide +kernel
theorem dX7_bitsOfShare_57 : decode cX7_bitsOfShare 57 = .ok (.ldc2_w 360, 3) := by decide +kernel
theorem dX7_bitsOfShare_60 : decode cX7_bitsOfShare 60 = .ok (.dmul, 1) := by decide +kernel
theorem dX7_bitsOfShare_61 : decode cX7_bitsOfShare 61 = .ok (.d2l, 1) := by decide +kernel
theorem dX7_bitsOfShare_62 : decode cX7_bitsOfShare 62 = .ok (.ladd, 1) := by decide +kernel
theorem dX7_bitsOfShare_63 : decode cX7_bitsOfShare 63 = .ok (.lreturn, 1) := by decide +kernel
theorem dX7_isMessage_0 : decode cX7_isMessage 0 = .ok (.iload_n 0, 1) := by decide +kernel
theorem dX7_isMessage_1 : decode cX7_isMessage 1 = .ok (.ifCond .lt 13, 3) := by decide +kernel
theorem dX7_isMessage_4 : decode cX7_isMessage 4 = .ok (.iload_n 0, 1) := by decide +kernel
theorem dX7_isMessage_5 : decode cX7_isMessage 5 = .ok (.bipush 20, 2) := by decide +kernel
theorem dX7_isMessage_7 : decode cX7_isMessage 7 = .ok (.if_icmp .ge 7, 3) := by decide +kernel
theorem dX7_isMessage_10 : decode cX7_isMessage 10 = .ok (.iconst 1, 1) := by decide +kernel
theorem dX7_isMessage_11 : decode cX7_isMessage 11 = .ok (.goto 4, 3) := by decide +kernel
theorem dX7_isMessage_14 : decode cX7_isMessage 14 = .ok (.iconst 0, 1) := by decide +kernel
theorem dX7_isMessage_15 : decode cX7_isMessage 15 = .ok (.ireturn, 1) := by decide +kernel
theorem dX7_isRoom_0 : decode cX7_isRoom 0 = .ok (.iload_n 0, 1) := by decide +kernel
theorem dX7_isRoom_1 : decode cX7_isRoom 1 = .ok (.ifCond .lt 13, 3) := by decide +kernel
theorem dX7_isRoom_4 : decode cX7_isRoom 4 = .ok (.iload_n 0, 1) := by decide +kernel
theorem dX7_isRoom_5 : decode cX7_isRoom 5 = .ok (.bipush 6, 2) := by decide +kernel
theorem dX7_isRoom_7 : decode cX7_isRoom 7 = .ok (.if_icmp .ge 7, 3) := by decide +kernel
theorem dX7_isRoom_10 : decode cX7_isRoom 10 = .ok (.iconst 1, 1) := by decide +kernel
theorem dX7_isRoom_11 : decode cX7_isRoom 11 = .ok (.goto 4, 3) := by decide +kernel
theorem dX7_isRoom_14 : decode cX7_isRoom 14 = .ok (.iconst 0, 1) := by decide +kernel
theorem dX7_isRoom_15 : decode cX7_isRoom 15 = .ok (.ireturn, 1) := by decide +kernel
theorem dX7_isKey_0 : decode cX7_isKey 0 = .ok (.iload_n 0, 1) := by decide +kernel
theorem dX7_isKey_1 : decode cX7_isKey 1 = .ok (.ifCond .lt 13, 3) := by decide +kernel
theorem dX7_isKey_4 : decode cX7_isKey 4 = .ok (.iload_n 0, 1) := by decide +kernel
theorem dX7_isKey_5 : decode cX7_isKey 5 = .ok (.bipush 7, 2) := by decide +kernel
theorem dX7_isKey_7 : decode cX7_isKey 7 = .ok (.if_icmp .ge 7, 3) := by decide +kernel
theorem dX7_isKey_10 : decode cX7_isKey 10 = .ok (.iconst 1, 1) := by decide +kernel
theorem dX7_isKey_11 : decode cX7_isKey 11 = .ok (.goto 4, 3) := by decide +kernel
theorem dX7_isKey_14 : decode cX7_isKey 14 = .ok (.iconst 0, 1) := by decide +kernel
theorem dX7_isKey_15 : decode cX7_isKey 15 = .ok (.ireturn, 1) := by decide +kernel
theorem dX7_isValueOf_0 : decode cX7_isValueOf 0 = .ok (.iload_n 0, 1) := by decide +kernel
theorem dX7_isValueOf_1 : decode cX7_isValueOf 1 = .ok (.ifCond .ne 20, 3) := by decide +kernel
theorem dX7_isValueOf_4 : decode cX7_isValueOf 4 = .ok (.iload_n 1, 1) := by decide +kernel
theorem dX7_isValueOf_5 : decode cX7_isValueOf 5 = .ok (.ifCond .lt 12, 3) := by decide +kernel
theorem dX7_isValueOf_8 : decode cX7_isValueOf 8 = .ok (.iload_n 1, 1) := by decide +kernel
theorem dX7_isValueOf_9 : decode cX7_isValueOf 9 = .ok (.iconst 2, 1) := by decide +kernel
theorem dX7_isValueOf_10 : decode cX7_isValueOf 10 = .ok (.if_icmp .gt 7, 3) := by decide +kernel
theorem dX7_isValueOf_13 : decode cX7_isValueOf 13 = .ok (.iconst 1, 1) := by decide +kernel
theorem dX7_isValueOf_14 : decode cX7_isValueOf 14 = .ok (.goto 23, 3) := by decide +kernel
theorem dX7_isValueOf_17 : decode cX7_isValueOf 17 = .ok (.iconst 0, 1) := by decide +kernel
theorem dX7_isValueOf_18 : decode cX7_isValueOf 18 = .ok (.goto 19, 3) := by decide +kernel
theorem dX7_isValueOf_21 : decode cX7_isValueOf 21 = .ok (.iload_n 1, 1) := by decide +kernel
theorem dX7_isValueOf_22 : decode cX7_isValueOf 22 = .ok (.iconst 1, 1) := by decide +kernel
theorem dX7_isValueOf_23 : decode cX7_isValueOf 23 = .ok (.if_icmp .lt 13, 3) := by decide +kernel
theorem dX7_isValueOf_26 : decode cX7_isValueOf 26 = .ok (.iload_n 1, 1) := by decide +kernel
theorem dX7_isValueOf_27 : decode cX7_isValueOf 27 = .ok (.bipush 9, 2) := by decide +kernel
theorem dX7_isValueOf_29 : decode cX7_isValueOf 29 = .ok (.if_icmp .gt 7, 3) := by decide +kernel
theorem dX7_isValueOf_32 : decode cX7_isValueOf 32 = .ok (.iconst 1, 1) := by decide +kernel
theorem dX7_isValueOf_33 : decode cX7_isValueOf 33 = .ok (.goto 4, 3) := by decide +kernel
theorem dX7_isValueOf_36 : decode cX7_isValueOf 36 = .ok (.iconst 0, 1) := by decide +kernel
theorem dX7_isValueOf_37 : decode cX7_isValueOf 37 = .ok (.ireturn, 1) := by decide +kernel
theorem dX7_hasBit_0 : decode cX7_hasBit 0 = .ok (.iload_n 0, 1) := by decide +kernel
theorem dX7_hasBit_1 : decode cX7_hasBit 1 = .ok (.iload_n 1, 1) := by decide +kernel
theorem dX7_hasBit_2 : decode cX7_hasBit 2 = .ok (.ishr, 1) := by decide +kernel
theorem dX7_hasBit_3 : decode cX7_hasBit 3 = .ok (.iconst 1, 1) := by decide +kernel
theorem dX7_hasBit_4 : decode cX7_hasBit 4 = .ok (.iand, 1) := by decide +kernel
theorem dX7_hasBit_5 : decode cX7_hasBit 5 = .ok (.iconst 1, 1) := by decide +kernel
theorem dX7_hasBit_6 : decode cX7_hasBit 6 = .ok (.if_icmp .ne 7, 3) := by decide +kernel
theorem dX7_hasBit_9 : decode cX7_hasBit 9 = .ok (.iconst 1, 1) := by decide +kernel
theorem dX7_hasBit_10 : decode cX7_hasBit 10 = .ok (.goto 4, 3) := by decide +kernel
theorem dX7_hasBit_13 : decode cX7_hasBit 13 = .ok (.iconst 0, 1) := by decide +kernel
theorem dX7_hasBit_14 : decode cX7_hasBit 14 = .ok (.ireturn, 1) := by decide +kernel
theorem dX7_sumOf_0 : decode cX7_sumOf 0 = .ok (.iconst 0, 1) := by decide +kernel
theorem dX7_sumOf_1 : decode cX7_sumOf 1 = .ok (.istore_n 1, 1) := by decide +kernel
theorem dX7_sumOf_2 : decode cX7_sumOf 2 = .ok (.aload_n 0, 1) := by decide +kernel
theorem dX7_sumOf_3 : decode cX7_sumOf 3 = .ok (.astore_n 2, 1) := by decide +kernel
theorem dX7_sumOf_4 : decode cX7_sumOf 4 = .ok (.aload_n 2, 1) := by decide +kernel
theorem dX7_sumOf_5 : decode cX7_sumOf 5 = .ok (.arraylength, 1) := by decide +kernel
theorem dX7_sumOf_6 : decode cX7_sumOf 6 = .ok (.istore_n 3, 1) := by decide +kernel
theorem dX7_sumOf_7 : decode cX7_sumOf 7 = .ok (.iconst 0, 1) := by decide +kernel
theorem dX7_sumOf_8 : decode cX7_sumOf 8 = .ok (.istore 4, 2) := by decide +kernel
theorem dX7_sumOf_10 : decode cX7_sumOf 10 = .ok (.iload 4, 2) := by decide +kernel
theorem dX7_sumOf_12 : decode cX7_sumOf 12 = .ok (.iload_n 3, 1) := by decide +kernel
theorem dX7_sumOf_13 : decode cX7_sumOf 13 = .ok (.if_icmp .ge 20, 3) := by decide +kernel
theorem dX7_sumOf_16 : decode cX7_sumOf 16 = .ok (.aload_n 2, 1) := by decide +kernel
theorem dX7_sumOf_17 : decode cX7_sumOf 17 = .ok (.iload 4, 2) := by decide +kernel
theorem dX7_sumOf_19 : decode cX7_sumOf 19 = .ok (.iaload, 1) := by decide +kernel
theorem dX7_sumOf_20 : decode cX7_sumOf 20 = .ok (.istore 5, 2) := by decide +kernel
theorem dX7_sumOf_22 : decode cX7_sumOf 22 = .ok (.iload_n 1, 1) := by decide +kernel
theorem dX7_sumOf_23 : decode cX7_sumOf 23 = .ok (.iload 5, 2) := by decide +kernel
theorem dX7_sumOf_25 : decode cX7_sumOf 25 = .ok (.iadd, 1) := by decide +kernel
theorem dX7_sumOf_26 : decode cX7_sumOf 26 = .ok (.istore_n 1, 1) := by decide +kernel
theorem dX7_sumOf_27 : decode cX7_sumOf 27 = .ok (.iinc 4 1, 3) := by decide +kernel
theorem dX7_sumOf_30 : decode cX7_sumOf 30 = .ok (.goto (-20), 3) := by decide +kernel
theorem dX7_sumOf_33 : decode cX7_sumOf 33 = .ok (.iload_n 1, 1) := by decide +kernel
theorem dX7_sumOf_34 : decode cX7_sumOf 34 = .ok (.ireturn, 1) := by decide +kernel
set_option maxRecDepth 20000 in
theorem ggX7_readTuneOfText_X0_readTune : GoodIn wsX7_readTuneOfText wsX0_readTune := goodIn_r _ [9, 10, 11, 12, 13, 8, 14, 15, 16, 17, 18, 19, 20, 21, 22, 23, 24, 25, 26, 27, 28, 29, 30, 31, 32, 33, 34, 35, 36, 37, 38, 39, 40, 41, 42, 43, 44, 45, 46, 47, 48, 49, 50, 51, 52, 53, 54, 55, 56, 57, 58, 59, 60, 61, 62, 63, 64, 65, 66, 67, 68, 69, 70, 71, 72, 73, 74, 75, 76, 77, 78, 79, 80, 81, 82, 83, 84, 85, 86, 87, 88, 89, 90, 91, 92, 93, 94, 95, 96, 97, 98, 99, 100, 101, 102, 103, 104, 105, 106, 107, 108, 109, 110, 111, 112, 113, 114, 115, 116, 117, 118, 119, 120, 121, 122, 123, 124, 125, 126, 127, 128, 129, 130, 131, 132, 133, 134, 168, 169, 170, 166, 167] (by decide +kernel) (by decide +kernel)
set_option maxRecDepth 20000 in
theorem gX7_readTuneOfText_X0_readTune : GoodIn wsX7_readTuneOfText (wsV RX7 188 RX0 yX0_readTune wsX0_readTune) := goodIn_app (goodIn_of _ (by decide +kernel)) ggX7_readTuneOfText_X0_readTune
set_option maxRecDepth 20000 in
theorem ggX7_readTuneOfText_X0_mayEnd : GoodIn wsX7_readTuneOfText wsX0_mayEnd := goodIn_r _ [138, 15, 16, 168, 169, 170] (by decide +kernel) (by decide +kernel)
set_option maxRecDepth 20000 in
theorem gX7_readTuneOfText_X0_mayEnd : GoodIn wsX7_readTuneOfText (wsV RX7 191 RX0 yX0_mayEnd wsX0_mayEnd) := goodIn_app (goodIn_of _ (by decide +kernel)) ggX7_readTuneOfText_X0_mayEnd
set_option maxRecDepth 20000 in
theorem ggX7_readTuneOfText_X6_read : GoodIn wsX7_readTuneOfText wsX6_read := goodIn_r _ [143, 144, 145, 146, 19, 20, 21, 22, 23, 24, 147, 43, 44, 45, 46, 47, 48, 49, 50, 51, 52, 53, 54, 55, 56, 57, 58, 59, 60, 61, 62, 63, 64, 65, 66, 67, 68, 69, 70, 71, 72, 73, 74, 75, 76, 77, 78, 79, 80, 81, 82, 83, 84, 85, 86, 87, 88, 89, 90, 91, 92, 93, 94, 95, 96, 97, 98, 99, 100, 101, 102, 103, 104, 105, 106, 107, 108, 109, 110, 111, 112, 113, 114, 115, 116, 117, 118, 119, 120, 121, 122, 123, 124, 125, 126, 127, 128, 129, 130, 148, 149, 150, 142, 151, 152, 153, 154, 155, 156, 171, 172, 173, 166, 167] (by decide +kernel) (by decide +kernel)
set_option maxRecDepth 20000 in
theorem gX7_readTuneOfText_X6_read : GoodIn wsX7_readTuneOfText (wsV RX7 362 RX6 yX6_read wsX6_read) := goodIn_app (goodIn_of _ (by decide +kernel)) ggX7_readTuneOfText_X6_read
theorem dX7_readTuneOfText_0 : decode cX7_readTuneOfText 0 = .ok (.aload_n 0, 1) := by decide +kernel
theorem dX7_readTuneOfText_1 : decode cX7_readTuneOfText 1 = .ok (.getfield 36, 3) := by decide +kernel
theorem dX7_readTuneOfText_4 : decode cX7_readTuneOfText 4 = .ok (.aload_n 0, 1) := by decide +kernel
theorem dX7_readTuneOfText_5 : decode cX7_readTuneOfText 5 = .ok (.getfield 29, 3) := by decide +kernel
theorem dX7_readTuneOfText_8 : decode cX7_readTuneOfText 8 = .ok (.invokevirtual 188, 3) := by decide +kernel
theorem dX7_readTuneOfText_11 : decode cX7_readTuneOfText 11 = .ok (.aload_n 0, 1) := by decide +kernel
theorem dX7_readTuneOfText_12 : decode cX7_readTuneOfText 12 = .ok (.getfield 29, 3) := by decide +kernel
theorem dX7_readTuneOfText_15 : decode cX7_readTuneOfText 15 = .ok (.getfield 177, 3) := by decide +kernel
theorem dX7_readTuneOfText_18 : decode cX7_readTuneOfText 18 = .ok (.if_icmp .lt 13, 3) := by decide +kernel
theorem dX7_readTuneOfText_21 : decode cX7_readTuneOfText 21 = .ok (.aload_n 0, 1) := by decide +kernel
theorem dX7_readTuneOfText_22 : decode cX7_readTuneOfText 22 = .ok (.getfield 36, 3) := by decide +kernel
theorem dX7_readTuneOfText_25 : decode cX7_readTuneOfText 25 = .ok (.invokevirtual 191, 3) := by decide +kernel
theorem dX7_readTuneOfText_28 : decode cX7_readTuneOfText 28 = .ok (.ifCond .ne 5, 3) := by decide +kernel
theorem dX7_readTuneOfText_31 : decode cX7_readTuneOfText 31 = .ok (.iconst 0, 1) := by decide +kernel
theorem dX7_readTuneOfText_32 : decode cX7_readTuneOfText 32 = .ok (.ireturn, 1) := by decide +kernel
theorem dX7_readTuneOfText_33 : decode cX7_readTuneOfText 33 = .ok (.aload_n 0, 1) := by decide +kernel
theorem dX7_readTuneOfText_34 : decode cX7_readTuneOfText 34 = .ok (.getfield 43, 3) := by decide +kernel
theorem dX7_readTuneOfText_37 : decode cX7_readTuneOfText 37 = .ok (.aload_n 0, 1) := by decide +kernel
theorem dX7_readTuneOfText_38 : decode cX7_readTuneOfText 38 = .ok (.getfield 29, 3) := by decide +kernel
theorem dX7_readTuneOfText_41 : decode cX7_readTuneOfText 41 = .ok (.iconst 0, 1) := by decide +kernel
theorem dX7_readTuneOfText_42 : decode cX7_readTuneOfText 42 = .ok (.aload_n 0, 1) := by decide +kernel
theorem dX7_readTuneOfText_43 : decode cX7_readTuneOfText 43 = .ok (.getfield 29, 3) := by decide +kernel
theorem dX7_readTuneOfText_46 : decode cX7_readTuneOfText 46 = .ok (.getfield 177, 3) := by decide +kernel
theorem dX7_readTuneOfText_49 : decode cX7_readTuneOfText 49 = .ok (.invokevirtual 362, 3) := by decide +kernel
theorem dX7_readTuneOfText_52 : decode cX7_readTuneOfText 52 = .ok (.iconst 1, 1) := by decide +kernel
theorem dX7_readTuneOfText_53 : decode cX7_readTuneOfText 53 = .ok (.ireturn, 1) := by decide +kernel
set_option maxRecDepth 20000 in
theorem ggX7_reasonAgainstTune_X6_isOfTuneLength : GoodIn wsX7_reasonAgainstTune wsX6_isOfTuneLength := goodIn_r _ [8, 9, 65, 66, 67] (by decide +kernel) (by decide +kernel)
set_option maxRecDepth 20000 in
theorem gX7_reasonAgainstTune_X6_isOfTuneLength : GoodIn wsX7_reasonAgainstTune (wsV RX7 366 RX6 yX6_isOfTuneLength wsX6_isOfTuneLength) := goodIn_app (goodIn_of _ (by decide +kernel)) ggX7_reasonAgainstTune_X6_isOfTuneLength
set_option maxRecDepth 20000 in
theorem ggX7_reasonAgainstTune_X4_growFrom : GoodIn wsX7_reasonAgainstTune wsX4_growFrom := goodIn_r _ [14, 15, 16, 17, 18, 19, 20, 21, 22, 23, 24, 25, 13, 26, 27, 28, 29, 30, 31, 32, 33, 34, 35, 36, 37, 38, 39, 40, 68, 69, 70, 71, 72, 73, 74, 75, 76, 77, 78, 79, 80, 81, 82, 83, 84, 85, 86] (by decide +kernel) (by decide +kernel)
set_option maxRecDepth 20000 in
theorem gX7_reasonAgainstTune_X4_growFrom : GoodIn wsX7_reasonAgainstTune (wsV RX7 254 RX4 yX4_growFrom wsX4_growFrom) := goodIn_app (goodIn_of _ (by decide +kernel)) ggX7_reasonAgainstTune_X4_growFrom
set_option maxRecDepth 20000 in
theorem ggX7_reasonAgainstTune_X4_messageOf : GoodIn wsX7_reasonAgainstTune wsX4_messageOf := goodIn_r _ [44, 45, 16, 46, 47, 48, 7, 49, 50, 51, 34, 35, 36, 52, 53, 54, 13, 55, 15, 65, 66, 67, 68, 69, 70] (by decide +kernel) (by decide +kernel)
set_option maxRecDepth 20000 in
theorem gX7_reasonAgainstTune_X4_messageOf : GoodIn wsX7_reasonAgainstTune (wsV RX7 369 RX4 yX4_messageOf wsX4_messageOf) := goodIn_app (goodIn_of _ (by decide +kernel)) ggX7_reasonAgainstTune_X4_messageOf
theorem dX7_reasonAgainstTune_0 : decode cX7_reasonAgainstTune 0 = .ok (.aload_n 0, 1) := by decide +kernel
theorem dX7_reasonAgainstTune_1 : decode cX7_reasonAgainstTune 1 = .ok (.getfield 43, 3) := by decide +kernel
theorem dX7_reasonAgainstTune_4 : decode cX7_reasonAgainstTune 4 = .ok (.invokevirtual 366, 3) := by decide +kernel
theorem dX7_reasonAgainstTune_7 : decode cX7_reasonAgainstTune 7 = .ok (.ifCond .ne 5, 3) := by decide +kernel
theorem dX7_reasonAgainstTune_10 : decode cX7_reasonAgainstTune 10 = .ok (.iconst 3, 1) := by decide +kernel
theorem dX7_reasonAgainstTune_11 : decode cX7_reasonAgainstTune 11 = .ok (.ireturn, 1) := by decide +kernel
theorem dX7_reasonAgainstTune_12 : decode cX7_reasonAgainstTune 12 = .ok (.aload_n 0, 1) := by decide +kernel
theorem dX7_reasonAgainstTune_13 : decode cX7_reasonAgainstTune 13 = .ok (.getfield 50, 3) := by decide +kernel
theorem dX7_reasonAgainstTune_16 : decode cX7_reasonAgainstTune 16 = .ok (.aload_n 0, 1) := by decide +kernel
theorem dX7_reasonAgainstTune_17 : decode cX7_reasonAgainstTune 17 = .ok (.getfield 10, 3) := by decide +kernel
theorem dX7_reasonAgainstTune_20 : decode cX7_reasonAgainstTune 20 = .ok (.invokevirtual 254, 3) := by decide +kernel
theorem dX7_reasonAgainstTune_23 : decode cX7_reasonAgainstTune 23 = .ok (.aload_n 0, 1) := by decide +kernel
theorem dX7_reasonAgainstTune_24 : decode cX7_reasonAgainstTune 24 = .ok (.getfield 50, 3) := by decide +kernel
theorem dX7_reasonAgainstTune_27 : decode cX7_reasonAgainstTune 27 = .ok (.aload_n 0, 1) := by decide +kernel
theorem dX7_reasonAgainstTune_28 : decode cX7_reasonAgainstTune 28 = .ok (.getfield 43, 3) := by decide +kernel
theorem dX7_reasonAgainstTune_31 : decode cX7_reasonAgainstTune 31 = .ok (.invokevirtual 369, 3) := by decide +kernel
theorem dX7_reasonAgainstTune_34 : decode cX7_reasonAgainstTune 34 = .ok (.istore_n 2, 1) := by decide +kernel
theorem dX7_reasonAgainstTune_35 : decode cX7_reasonAgainstTune 35 = .ok (.iload_n 2, 1) := by decide +kernel
theorem dX7_reasonAgainstTune_36 : decode cX7_reasonAgainstTune 36 = .ok (.iconst (-1), 1) := by decide +kernel
theorem dX7_reasonAgainstTune_37 : decode cX7_reasonAgainstTune 37 = .ok (.if_icmp .eq 8, 3) := by decide +kernel
theorem dX7_reasonAgainstTune_40 : decode cX7_reasonAgainstTune 40 = .ok (.iload_n 2, 1) := by decide +kernel
theorem dX7_reasonAgainstTune_41 : decode cX7_reasonAgainstTune 41 = .ok (.iload_n 1, 1) := by decide +kernel
theorem dX7_reasonAgainstTune_42 : decode cX7_reasonAgainstTune 42 = .ok (.if_icmp .ne 7, 3) := by decide +kernel
theorem dX7_reasonAgainstTune_45 : decode cX7_reasonAgainstTune 45 = .ok (.iconst 0, 1) := by decide +kernel
theorem dX7_reasonAgainstTune_46 : decode cX7_reasonAgainstTune 46 = .ok (.goto 4, 3) := by decide +kernel
theorem dX7_reasonAgainstTune_49 : decode cX7_reasonAgainstTune 49 = .ok (.iconst 4, 1) := by decide +kernel
theorem dX7_reasonAgainstTune_50 : decode cX7_reasonAgainstTune 50 = .ok (.ireturn, 1) := by decide +kernel
set_option maxRecDepth 20000 in
theorem ggX7_messageOfShape_X6_isOfTuneLength : GoodIn wsX7_messageOfShape wsX6_isOfTuneLength := goodIn_r _ [8, 9, 65, 66, 67] (by decide +kernel) (by decide +kernel)
set_option maxRecDepth 20000 in
theorem gX7_messageOfShape_X6_isOfTuneLength : GoodIn wsX7_messageOfShape (wsV RX7 366 RX6 yX6_isOfTuneLength wsX6_isOfTuneLength) := goodIn_app (goodIn_of _ (by decide +kernel)) ggX7_messageOfShape_X6_isOfTuneLength
set_option maxRecDepth 20000 in
theorem ggX7_messageOfShape_X4_growFrom : GoodIn wsX7_messageOfShape wsX4_growFrom := goodIn_r _ [14, 15, 16, 17, 18, 19, 20, 21, 22, 23, 24, 25, 13, 26, 27, 28, 29, 30, 31, 32, 33, 34, 35, 36, 37, 38, 39, 40, 68, 69, 70, 71, 72, 73, 74, 75, 76, 77, 78, 79, 80, 81, 82, 83, 84, 85, 86] (by decide +kernel) (by decide +kernel)
set_option maxRecDepth 20000 in
theorem gX7_messageOfShape_X4_growFrom : GoodIn wsX7_messageOfShape (wsV RX7 254 RX4 yX4_growFrom wsX4_growFrom) := goodIn_app (goodIn_of _ (by decide +kernel)) ggX7_messageOfShape_X4_growFrom
set_option maxRecDepth 20000 in
theorem ggX7_messageOfShape_X4_messageOf : GoodIn wsX7_messageOfShape wsX4_messageOf := goodIn_r _ [44, 45, 16, 46, 47, 48, 7, 49, 50, 51, 34, 35, 36, 52, 53, 54, 13, 55, 15, 65, 66, 67, 68, 69, 70] (by decide +kernel) (by decide +kernel)
set_option maxRecDepth 20000 in
theorem gX7_messageOfShape_X4_messageOf : GoodIn wsX7_messageOfShape (wsV RX7 369 RX4 yX4_messageOf wsX4_messageOf) := goodIn_app (goodIn_of _ (by decide +kernel)) ggX7_messageOfShape_X4_messageOf
theorem dX7_messageOfShape_0 : decode cX7_messageOfShape 0 = .ok (.aload_n 0, 1) := by decide +kernel
theorem dX7_messageOfShape_1 : decode cX7_messageOfShape 1 = .ok (.getfield 43, 3) := by decide +kernel
theorem dX7_messageOfShape_4 : decode cX7_messageOfShape 4 = .ok (.invokevirtual 366, 3) := by decide +kernel
theorem dX7_messageOfShape_7 : decode cX7_messageOfShape 7 = .ok (.ifCond .ne 5, 3) := by decide +kernel
theorem dX7_messageOfShape_10 : decode cX7_messageOfShape 10 = .ok (.iconst (-1), 1) := by decide +kernel
theorem dX7_messageOfShape_11 : decode cX7_messageOfShape 11 = .ok (.ireturn, 1) := by decide +kernel
theorem dX7_messageOfShape_12 : decode cX7_messageOfShape 12 = .ok (.aload_n 0, 1) := by decide +kernel
theorem dX7_messageOfShape_13 : decode cX7_messageOfShape 13 = .ok (.getfield 50, 3) := by decide +kernel
theorem dX7_messageOfShape_16 : decode cX7_messageOfShape 16 = .ok (.aload_n 0, 1) := by decide +kernel
theorem dX7_messageOfShape_17 : decode cX7_messageOfShape 17 = .ok (.getfield 10, 3) := by decide +kernel
theorem dX7_messageOfShape_20 : decode cX7_messageOfShape 20 = .ok (.invokevirtual 254, 3) := by decide +kernel
theorem dX7_messageOfShape_23 : decode cX7_messageOfShape 23 = .ok (.aload_n 0, 1) := by decide +kernel
theorem dX7_messageOfShape_24 : decode cX7_messageOfShape 24 = .ok (.getfield 50, 3) := by decide +kernel
theorem dX7_messageOfShape_27 : decode cX7_messageOfShape 27 = .ok (.aload_n 0, 1) := by decide +kernel
theorem dX7_messageOfShape_28 : decode cX7_messageOfShape 28 = .ok (.getfield 43, 3) := by decide +kernel
theorem dX7_messageOfShape_31 : decode cX7_messageOfShape 31 = .ok (.invokevirtual 369, 3) := by decide +kernel
theorem dX7_messageOfShape_34 : decode cX7_messageOfShape 34 = .ok (.ireturn, 1) := by decide +kernel
set_option maxRecDepth 20000 in
theorem ggX7_keyBetween_X3_noteAt : GoodIn wsX7_keyBetween wsX3_noteAt := goodIn_r _ [8, 9, 26, 27, 28, 29, 30, 31, 32, 33, 34, 35, 36, 37, 38, 39, 40, 41] (by decide +kernel) (by decide +kernel)
set_option maxRecDepth 20000 in
theorem gX7_keyBetween_X3_noteAt : GoodIn wsX7_keyBetween (wsV RX7 229 RX3 yX3_noteAt wsX3_noteAt) := goodIn_app (goodIn_of _ (by decide +kernel)) ggX7_keyBetween_X3_noteAt
set_option maxRecDepth 20000 in
theorem ggX7_keyBetween_J9_floorMod_7cf53 : GoodIn wsX7_keyBetween wsJ9_floorMod_7cf53 := goodIn_r _ [13] (by decide +kernel) (by decide +kernel)
set_option maxRecDepth 20000 in
theorem gX7_keyBetween_J9_floorMod_7cf53 : GoodIn wsX7_keyBetween (va_wsS RX7 376 yJ9_floorMod_7cf53 wsJ9_floorMod_7cf53) := goodIn_app (goodIn_of _ (by decide +kernel)) ggX7_keyBetween_J9_floorMod_7cf53
theorem dX7_keyBetween_0 : decode cX7_keyBetween 0 = .ok (.aload_n 0, 1) := by decide +kernel
theorem dX7_keyBetween_1 : decode cX7_keyBetween 1 = .ok (.getfield 43, 3) := by decide +kernel
theorem dX7_keyBetween_4 : decode cX7_keyBetween 4 = .ok (.getfield 373, 3) := by decide +kernel
theorem dX7_keyBetween_7 : decode cX7_keyBetween 7 = .ok (.iconst 0, 1) := by decide +kernel
theorem dX7_keyBetween_8 : decode cX7_keyBetween 8 = .ok (.iaload, 1) := by decide +kernel
theorem dX7_keyBetween_9 : decode cX7_keyBetween 9 = .ok (.aload_n 0, 1) := by decide +kernel
theorem dX7_keyBetween_10 : decode cX7_keyBetween 10 = .ok (.getfield 10, 3) := by decide +kernel
theorem dX7_keyBetween_13 : decode cX7_keyBetween 13 = .ok (.iload_n 1, 1) := by decide +kernel
theorem dX7_keyBetween_14 : decode cX7_keyBetween 14 = .ok (.iconst 0, 1) := by decide +kernel
theorem dX7_keyBetween_15 : decode cX7_keyBetween 15 = .ok (.invokevirtual 229, 3) := by decide +kernel
theorem dX7_keyBetween_18 : decode cX7_keyBetween 18 = .ok (.isub, 1) := by decide +kernel
theorem dX7_keyBetween_19 : decode cX7_keyBetween 19 = .ok (.bipush 7, 2) := by decide +kernel
theorem dX7_keyBetween_21 : decode cX7_keyBetween 21 = .ok (.invokestatic 376, 3) := by decide +kernel
theorem dX7_keyBetween_24 : decode cX7_keyBetween 24 = .ok (.ireturn, 1) := by decide +kernel
set_option maxRecDepth 20000 in
theorem ggX7_decodeByTree_X7_messageOfShape : GoodIn wsX7_decodeByTree wsX7_messageOfShape := goodIn_r _ [5, 6, 7, 8, 9, 10, 11, 12, 13, 14, 15, 16, 17, 18, 19, 20, 21, 22, 23, 24, 25, 26, 27, 28, 29, 30, 31, 32, 33, 34, 35, 36, 37, 38, 39, 40, 41, 42, 43, 44, 45, 46, 47, 48, 49, 50, 51, 52, 53, 54, 55, 56, 57, 58, 59, 60, 68, 69, 70, 71, 72, 73, 74, 75, 76, 77, 78, 79, 80, 81, 82, 83, 84, 85, 86, 87, 88, 89, 90, 91, 92, 93, 94, 95, 96, 97, 98] (by decide +kernel) (by decide +kernel)
set_option maxRecDepth 20000 in
theorem gX7_decodeByTree_X7_messageOfShape : GoodIn wsX7_decodeByTree (wsV RX7 281 RX7 yX7_messageOfShape wsX7_messageOfShape) := goodIn_app (goodIn_of _ (by decide +kernel)) ggX7_decodeByTree_X7_messageOfShape
set_option maxRecDepth 20000 in
theorem ggX7_decodeByTree_X7_keyBetween : GoodIn wsX7_decodeByTree wsX7_keyBetween := goodIn_r _ [64, 6, 65, 8, 66, 33, 34, 35, 36, 37, 67, 39, 40, 41, 68, 69, 70, 71, 72, 73, 74, 75, 76, 77, 78, 79, 83, 84, 85, 86, 87, 88, 89, 90, 91, 92, 93, 94, 95, 96, 97, 98] (by decide +kernel) (by decide +kernel)
set_option maxRecDepth 20000 in
theorem gX7_decodeByTree_X7_keyBetween : GoodIn wsX7_decodeByTree (wsV RX7 284 RX7 yX7_keyBetween wsX7_keyBetween) := goodIn_app (goodIn_of _ (by decide +kernel)) ggX7_decodeByTree_X7_keyBetween
theorem dX7_decodeByTree_0 : decode cX7_decodeByTree 0 = .ok (.aload_n 0, 1) := by decide +kernel
theorem dX7_decodeByTree_1 : decode cX7_decodeByTree 1 = .ok (.invokevirtual 281, 3) := by decide +kernel
theorem dX7_decodeByTree_4 : decode cX7_decodeByTree 4 = .ok (.istore_n 2, 1) := by decide +kernel
theorem dX7_decodeByTree_5 : decode cX7_decodeByTree 5 = .ok (.iload_n 2, 1) := by decide +kernel
theorem dX7_decodeByTree_6 : decode cX7_decodeByTree 6 = .ok (.iconst (-1), 1) := by decide +kernel
theorem dX7_decodeByTree_7 : decode cX7_decodeByTree 7 = .ok (.if_icmp .eq 16, 3) := by decide +kernel
theorem dX7_decodeByTree_10 : decode cX7_decodeByTree 10 = .ok (.aload_n 0, 1) := by decide +kernel
theorem dX7_decodeByTree_11 : decode cX7_decodeByTree 11 = .ok (.iload_n 2, 1) := by decide +kernel
theorem dX7_decodeByTree_12 : decode cX7_decodeByTree 12 = .ok (.invokevirtual 284, 3) := by decide +kernel
theorem dX7_decodeByTree_15 : decode cX7_decodeByTree 15 = .ok (.iload_n 1, 1) := by decide +kernel
theorem dX7_decodeByTree_16 : decode cX7_decodeByTree 16 = .ok (.if_icmp .ne 7, 3) := by decide +kernel
theorem dX7_decodeByTree_19 : decode cX7_decodeByTree 19 = .ok (.iload_n 2, 1) := by decide +kernel
theorem dX7_decodeByTree_20 : decode cX7_decodeByTree 20 = .ok (.goto 4, 3) := by decide +kernel
theorem dX7_decodeByTree_23 : decode cX7_decodeByTree 23 = .ok (.iconst (-1), 1) := by decide +kernel
theorem dX7_decodeByTree_24 : decode cX7_decodeByTree 24 = .ok (.ireturn, 1) := by decide +kernel
set_option maxRecDepth 20000 in
theorem ggX7_decodeByMessages_X6_isOfTuneLength : GoodIn wsX7_decodeByMessages wsX6_isOfTuneLength := goodIn_r _ [6, 7, 32, 33, 34] (by decide +kernel) (by decide +kernel)
set_option maxRecDepth 20000 in
theorem gX7_decodeByMessages_X6_isOfTuneLength : GoodIn wsX7_decodeByMessages (wsV RX7 366 RX6 yX6_isOfTuneLength wsX6_isOfTuneLength) := goodIn_app (goodIn_of _ (by decide +kernel)) ggX7_decodeByMessages_X6_isOfTuneLength
set_option maxRecDepth 20000 in
theorem ggX7_decodeByMessages_X7_isWhistledAs : GoodIn wsX7_decodeByMessages wsX7_isWhistledAs := goodIn_r _ [12, 1, 13, 14, 15, 16, 17, 18, 19, 20, 21, 22, 23, 24, 25, 26, 27, 28, 29, 30, 31, 32, 33, 34, 35, 36, 37, 38, 39, 40, 41, 42, 43, 44, 45, 46, 47, 48, 49, 50] (by decide +kernel) (by decide +kernel)
set_option maxRecDepth 20000 in
theorem gX7_decodeByMessages_X7_isWhistledAs : GoodIn wsX7_decodeByMessages (wsV RX7 381 RX7 yX7_isWhistledAs wsX7_isWhistledAs) := goodIn_app (goodIn_of _ (by decide +kernel)) ggX7_decodeByMessages_X7_isWhistledAs
theorem dX7_decodeByMessages_0 : decode cX7_decodeByMessages 0 = .ok (.aload_n 0, 1) := by decide +kernel
theorem dX7_decodeByMessages_1 : decode cX7_decodeByMessages 1 = .ok (.getfield 43, 3) := by decide +kernel
theorem dX7_decodeByMessages_4 : decode cX7_decodeByMessages 4 = .ok (.invokevirtual 366, 3) := by decide +kernel
theorem dX7_decodeByMessages_7 : decode cX7_decodeByMessages 7 = .ok (.ifCond .ne 5, 3) := by decide +kernel
theorem dX7_decodeByMessages_10 : decode cX7_decodeByMessages 10 = .ok (.iconst (-1), 1) := by decide +kernel
theorem dX7_decodeByMessages_11 : decode cX7_decodeByMessages 11 = .ok (.ireturn, 1) := by decide +kernel
theorem dX7_decodeByMessages_12 : decode cX7_decodeByMessages 12 = .ok (.iconst 0, 1) := by decide +kernel
theorem dX7_decodeByMessages_13 : decode cX7_decodeByMessages 13 = .ok (.istore_n 2, 1) := by decide +kernel
theorem dX7_decodeByMessages_14 : decode cX7_decodeByMessages 14 = .ok (.iload_n 2, 1) := by decide +kernel
theorem dX7_decodeByMessages_15 : decode cX7_decodeByMessages 15 = .ok (.bipush 20, 2) := by decide +kernel
theorem dX7_decodeByMessages_17 : decode cX7_decodeByMessages 17 = .ok (.if_icmp .ge 20, 3) := by decide +kernel
theorem dX7_decodeByMessages_20 : decode cX7_decodeByMessages 20 = .ok (.aload_n 0, 1) := by decide +kernel
theorem dX7_decodeByMessages_21 : decode cX7_decodeByMessages 21 = .ok (.iload_n 2, 1) := by decide +kernel
theorem dX7_decodeByMessages_22 : decode cX7_decodeByMessages 22 = .ok (.iload_n 1, 1) := by decide +kernel
theorem dX7_decodeByMessages_23 : decode cX7_decodeByMessages 23 = .ok (.invokevirtual 381, 3) := by decide +kernel
theorem dX7_decodeByMessages_26 : decode cX7_decodeByMessages 26 = .ok (.ifCond .eq 5, 3) := by decide +kernel
theorem dX7_decodeByMessages_29 : decode cX7_decodeByMessages 29 = .ok (.iload_n 2, 1) := by decide +kernel
theorem dX7_decodeByMessages_30 : decode cX7_decodeByMessages 30 = .ok (.ireturn, 1) := by decide +kernel
theorem dX7_decodeByMessages_31 : decode cX7_decodeByMessages 31 = .ok (.iinc 2 1, 3) := by decide +kernel
theorem dX7_decodeByMessages_34 : decode cX7_decodeByMessages 34 = .ok (.goto (-20), 3) := by decide +kernel
theorem dX7_decodeByMessages_37 : decode cX7_decodeByMessages 37 = .ok (.iconst (-1), 1) := by decide +kernel
theorem dX7_decodeByMessages_38 : decode cX7_decodeByMessages 38 = .ok (.ireturn, 1) := by decide +kernel
set_option maxRecDepth 20000 in
theorem ggX7_isWhistledAs_X3_noteAt : GoodIn wsX7_isWhistledAs wsX3_noteAt := goodIn_r _ [10, 11, 24, 25, 26, 27, 28, 29, 30, 31, 32, 33, 34, 35, 36, 37, 38, 39] (by decide +kernel) (by decide +kernel)
set_option maxRecDepth 20000 in
theorem gX7_isWhistledAs_X3_noteAt : GoodIn wsX7_isWhistledAs (wsV RX7 229 RX3 yX3_noteAt wsX3_noteAt) := goodIn_app (goodIn_of _ (by decide +kernel)) ggX7_isWhistledAs_X3_noteAt
theorem dX7_isWhistledAs_0 : decode cX7_isWhistledAs 0 = .ok (.aload_n 0, 1) := by decide +kernel
theorem dX7_isWhistledAs_1 : decode cX7_isWhistledAs 1 = .ok (.getfield 43, 3) := by decide +kernel
theorem dX7_isWhistledAs_4 : decode cX7_isWhistledAs 4 = .ok (.getfield 105, 3) := by decide +kernel
theorem dX7_isWhistledAs_7 : decode cX7_isWhistledAs 7 = .ok (.aload_n 0, 1) := by decide +kernel
theorem dX7_isWhistledAs_8 : decode cX7_isWhistledAs 8 = .ok (.getfield 10, 3) := by decide +kernel
theorem dX7_isWhistledAs_11 : decode cX7_isWhistledAs 11 = .ok (.getfield 109, 3) := by decide +kernel
theorem dX7_isWhistledAs_14 : decode cX7_isWhistledAs 14 = .ok (.iload_n 1, 1) := by decide +kernel
theorem dX7_isWhistledAs_15 : decode cX7_isWhistledAs 15 = .ok (.iaload, 1) := by decide +kernel
theorem dX7_isWhistledAs_16 : decode cX7_isWhistledAs 16 = .ok (.if_icmp .eq 5, 3) := by decide +kernel
theorem dX7_isWhistledAs_19 : decode cX7_isWhistledAs 19 = .ok (.iconst 0, 1) := by decide +kernel
theorem dX7_isWhistledAs_20 : decode cX7_isWhistledAs 20 = .ok (.ireturn, 1) := by decide +kernel
theorem dX7_isWhistledAs_21 : decode cX7_isWhistledAs 21 = .ok (.iconst 0, 1) := by decide +kernel
theorem dX7_isWhistledAs_22 : decode cX7_isWhistledAs 22 = .ok (.istore_n 3, 1) := by decide +kernel
theorem dX7_isWhistledAs_23 : decode cX7_isWhistledAs 23 = .ok (.iload_n 3, 1) := by decide +kernel
theorem dX7_isWhistledAs_24 : decode cX7_isWhistledAs 24 = .ok (.aload_n 0, 1) := by decide +kernel
theorem dX7_isWhistledAs_25 : decode cX7_isWhistledAs 25 = .ok (.getfield 43, 3) := by decide +kernel
theorem dX7_isWhistledAs_28 : decode cX7_isWhistledAs 28 = .ok (.getfield 105, 3) := by decide +kernel
theorem dX7_isWhistledAs_31 : decode cX7_isWhistledAs 31 = .ok (.if_icmp .ge 37, 3) := by decide +kernel
theorem dX7_isWhistledAs_34 : decode cX7_isWhistledAs 34 = .ok (.aload_n 0, 1) := by decide +kernel
theorem dX7_isWhistledAs_35 : decode cX7_isWhistledAs 35 = .ok (.getfield 43, 3) := by decide +kernel
theorem dX7_isWhistledAs_38 : decode cX7_isWhistledAs 38 = .ok (.getfield 373, 3) := by decide +kernel
theorem dX7_isWhistledAs_41 : decode cX7_isWhistledAs 41 = .ok (.iload_n 3, 1) := by decide +kernel
theorem dX7_isWhistledAs_42 : decode cX7_isWhistledAs 42 = .ok (.iaload, 1) := by decide +kernel
theorem dX7_isWhistledAs_43 : decode cX7_isWhistledAs 43 = .ok (.aload_n 0, 1) := by decide +kernel
theorem dX7_isWhistledAs_44 : decode cX7_isWhistledAs 44 = .ok (.getfield 10, 3) := by decide +kernel
theorem dX7_isWhistledAs_47 : decode cX7_isWhistledAs 47 = .ok (.iload_n 1, 1) := by decide +kernel
theorem dX7_isWhistledAs_48 : decode cX7_isWhistledAs 48 = .ok (.iload_n 3, 1) := by decide +kernel
theorem dX7_isWhistledAs_49 : decode cX7_isWhistledAs 49 = .ok (.invokevirtual 229, 3) := by decide +kernel
theorem dX7_isWhistledAs_52 : decode cX7_isWhistledAs 52 = .ok (.iload_n 2, 1) := by decide +kernel
theorem dX7_isWhistledAs_53 : decode cX7_isWhistledAs 53 = .ok (.iadd, 1) := by decide +kernel
theorem dX7_isWhistledAs_54 : decode cX7_isWhistledAs 54 = .ok (.bipush 7, 2) := by decide +kernel
theorem dX7_isWhistledAs_56 : decode cX7_isWhistledAs 56 = .ok (.irem, 1) := by decide +kernel
theorem dX7_isWhistledAs_57 : decode cX7_isWhistledAs 57 = .ok (.if_icmp .eq 5, 3) := by decide +kernel
theorem dX7_isWhistledAs_60 : decode cX7_isWhistledAs 60 = .ok (.iconst 0, 1) := by decide +kernel
theorem dX7_isWhistledAs_61 : decode cX7_isWhistledAs 61 = .ok (.ireturn, 1) := by decide +kernel
theorem dX7_isWhistledAs_62 : decode cX7_isWhistledAs 62 = .ok (.iinc 3 1, 3) := by decide +kernel
theorem dX7_isWhistledAs_65 : decode cX7_isWhistledAs 65 = .ok (.goto (-42), 3) := by decide +kernel
theorem dX7_isWhistledAs_68 : decode cX7_isWhistledAs 68 = .ok (.iconst 1, 1) := by decide +kernel
theorem dX7_isWhistledAs_69 : decode cX7_isWhistledAs 69 = .ok (.ireturn, 1) := by decide +kernel
set_option maxRecDepth 20000 in
theorem ggX7_playPart_X5_at : GoodIn wsX7_playPart wsX5_at := goodIn_r _ [8, 9, 10, 319, 320] (by decide +kernel) (by decide +kernel)
set_option maxRecDepth 20000 in
theorem gX7_playPart_X5_at : GoodIn wsX7_playPart (wsV RX7 196 RX5 yX5_at wsX5_at) := goodIn_app (goodIn_of _ (by decide +kernel)) ggX7_playPart_X5_at
set_option maxRecDepth 20000 in
theorem ggX7_playPart_X5_numberIn : GoodIn wsX7_playPart wsX5_numberIn := goodIn_r _ [14, 15, 5, 6, 7, 8, 9, 10, 319, 320] (by decide +kernel) (by decide +kernel)
set_option maxRecDepth 20000 in
theorem gX7_playPart_X5_numberIn : GoodIn wsX7_playPart (wsV RX7 384 RX5 yX5_numberIn wsX5_numberIn) := goodIn_app (goodIn_of _ (by decide +kernel)) ggX7_playPart_X5_numberIn
set_option maxRecDepth 20000 in
theorem ggX7_playPart_X7_playWhistle : GoodIn wsX7_playPart wsX7_playWhistle := goodIn_r _ [20, 2, 21, 22, 19, 23, 24, 25, 26, 27, 28, 29, 30, 31, 32, 33, 34, 35, 36, 37, 38, 39, 40, 41, 42, 43, 44, 45, 46, 47, 48, 49, 50, 51, 52, 53, 54, 55, 56, 57, 58, 59, 60, 61, 62, 63, 64, 65, 66, 67, 68, 69, 70, 71, 72, 73, 74, 75, 76, 77, 78, 79, 80, 81, 82, 83, 84, 85, 86, 87, 88, 89, 90, 91, 92, 93, 94, 95, 96, 97, 98, 99, 100, 101, 102, 103, 104, 105, 106, 107, 108, 109, 294, 295, 296, 297, 298, 299, 300, 301, 302, 303, 304, 305, 306, 307, 308, 309, 310, 311, 312, 313, 314, 315, 316, 317, 318, 321, 322, 323, 324, 325] (by decide +kernel) (by decide +kernel)
set_option maxRecDepth 20000 in
theorem gX7_playPart_X7_playWhistle : GoodIn wsX7_playPart (wsV RX7 387 RX7 yX7_playWhistle wsX7_playWhistle) := goodIn_app (goodIn_of _ (by decide +kernel)) ggX7_playPart_X7_playWhistle
set_option maxRecDepth 20000 in
theorem ggX7_playPart_X7_playTeaching : GoodIn wsX7_playPart wsX7_playTeaching := goodIn_r _ [113, 1, 114, 2, 4, 5, 6, 7, 8, 9, 10, 11, 12, 13, 14, 15, 24, 25, 19, 26, 115, 116, 117, 118, 119, 120, 121, 122, 123, 124, 125, 126, 127, 128, 129, 130, 131, 132, 133, 134, 135, 136, 137, 138, 139, 140, 141, 142, 143, 144, 145, 146, 147, 148, 149, 150, 151, 152, 153, 154, 155, 156, 157, 158, 159, 160, 161, 162, 163, 164, 165, 166, 167, 168, 169, 170, 171, 172, 173, 174, 175, 176, 177, 178, 179, 180, 181, 182, 183, 184, 185, 186, 187, 188, 189, 190, 191, 192, 193, 194, 195, 196, 197, 198, 199, 200, 201, 202, 203, 204, 205, 206, 207, 208, 209, 210, 211, 212, 213, 214, 215, 216, 217, 218, 219, 220, 221, 222, 223, 224, 225, 226, 227, 228, 229, 230, 231, 232, 233, 234, 235, 236, 237, 238, 239, 240, 241, 242, 243, 244, 245, 246, 247, 248, 249, 30, 250, 251, 252, 253, 254, 255, 256, 257, 258, 259, 260, 261, 262, 263, 264, 265, 266, 267, 268, 269, 270, 271, 272, 273, 274, 275, 276, 277, 32, 278, 279, 280, 281, 282, 283, 284, 294, 295, 296, 297, 298, 299, 300, 301, 302, 319, 320, 326, 327, 328, 329, 330, 331, 303, 304, 305, 306, 307, 308, 309, 310, 311, 312, 313, 314, 315, 316, 317, 318] (by decide +kernel) (by decide +kernel)
set_option maxRecDepth 20000 in
theorem gX7_playPart_X7_playTeaching : GoodIn wsX7_playPart (wsV RX7 390 RX7 yX7_playTeaching wsX7_playTeaching) := goodIn_app (goodIn_of _ (by decide +kernel)) ggX7_playPart_X7_playTeaching
set_option maxRecDepth 20000 in
theorem ggX7_playPart_X3_beginNight : GoodIn wsX7_playPart wsX3_beginNight := goodIn_r _ [288, 82, 95, 37, 303, 304, 305, 306, 307, 308, 309, 310, 311, 312, 313, 314, 315, 316, 317, 318] (by decide +kernel) (by decide +kernel)
set_option maxRecDepth 20000 in
theorem gX7_playPart_X3_beginNight : GoodIn wsX7_playPart (wsV RX7 148 RX3 yX3_beginNight wsX3_beginNight) := goodIn_app (goodIn_of _ (by decide +kernel)) ggX7_playPart_X3_beginNight
set_option maxRecDepth 20000 in
theorem ggX7_playPart_X7_playTelling : GoodIn wsX7_playPart wsX7_playTelling := goodIn_r _ [292, 2, 293, 3, 21, 22, 19, 23, 294, 295, 296, 297, 298, 299, 300, 301, 302, 303, 304, 305, 306, 307, 308, 309, 310, 311, 312, 313, 314, 315, 316, 317, 318] (by decide +kernel) (by decide +kernel)
set_option maxRecDepth 20000 in
theorem gX7_playPart_X7_playTelling : GoodIn wsX7_playPart (wsV RX7 393 RX7 yX7_playTelling wsX7_playTelling) := goodIn_app (goodIn_of _ (by decide +kernel)) ggX7_playPart_X7_playTelling
theorem dX7_playPart_0 : decode cX7_playPart 0 = .ok (.aload_n 0, 1) := by decide +kernel
theorem dX7_playPart_1 : decode cX7_playPart 1 = .ok (.getfield 29, 3) := by decide +kernel
theorem dX7_playPart_4 : decode cX7_playPart 4 = .ok (.iload_n 1, 1) := by decide +kernel
theorem dX7_playPart_5 : decode cX7_playPart 5 = .ok (.invokevirtual 196, 3) := by decide +kernel
theorem dX7_playPart_8 : decode cX7_playPart 8 = .ok (.istore_n 3, 1) := by decide +kernel
theorem dX7_playPart_9 : decode cX7_playPart 9 = .ok (.iload_n 3, 1) := by decide +kernel
theorem dX7_playPart_10 : decode cX7_playPart 10 = .ok (.bipush 119, 2) := by decide +kernel
theorem dX7_playPart_12 : decode cX7_playPart 12 = .ok (.if_icmp .ne 32, 3) := by decide +kernel
theorem dX7_playPart_15 : decode cX7_playPart 15 = .ok (.aload_n 0, 1) := by decide +kernel
theorem dX7_playPart_16 : decode cX7_playPart 16 = .ok (.aload_n 0, 1) := by decide +kernel
theorem dX7_playPart_17 : decode cX7_playPart 17 = .ok (.getfield 29, 3) := by decide +kernel
theorem dX7_playPart_20 : decode cX7_playPart 20 = .ok (.iload_n 1, 1) := by decide +kernel
theorem dX7_playPart_21 : decode cX7_playPart 21 = .ok (.iconst 1, 1) := by decide +kernel
theorem dX7_playPart_22 : decode cX7_playPart 22 = .ok (.iadd, 1) := by decide +kernel
theorem dX7_playPart_23 : decode cX7_playPart 23 = .ok (.iload_n 1, 1) := by decide +kernel
theorem dX7_playPart_24 : decode cX7_playPart 24 = .ok (.iconst 2, 1) := by decide +kernel
theorem dX7_playPart_25 : decode cX7_playPart 25 = .ok (.iadd, 1) := by decide +kernel
theorem dX7_playPart_26 : decode cX7_playPart 26 = .ok (.invokevirtual 384, 3) := by decide +kernel
theorem dX7_playPart_29 : decode cX7_playPart 29 = .ok (.aload_n 0, 1) := by decide +kernel
theorem dX7_playPart_30 : decode cX7_playPart 30 = .ok (.getfield 29, 3) := by decide +kernel
theorem dX7_playPart_33 : decode cX7_playPart 33 = .ok (.iload_n 1, 1) := by decide +kernel
theorem dX7_playPart_34 : decode cX7_playPart 34 = .ok (.iconst 3, 1) := by decide +kernel
theorem dX7_playPart_35 : decode cX7_playPart 35 = .ok (.iadd, 1) := by decide +kernel
theorem dX7_playPart_36 : decode cX7_playPart 36 = .ok (.iload_n 2, 1) := by decide +kernel
theorem dX7_playPart_37 : decode cX7_playPart 37 = .ok (.invokevirtual 384, 3) := by decide +kernel
theorem dX7_playPart_40 : decode cX7_playPart 40 = .ok (.invokevirtual 387, 3) := by decide +kernel
theorem dX7_playPart_43 : decode cX7_playPart 43 = .ok (.ireturn, 1) := by decide +kernel
theorem dX7_playPart_44 : decode cX7_playPart 44 = .ok (.iload_n 3, 1) := by decide +kernel
theorem dX7_playPart_45 : decode cX7_playPart 45 = .ok (.bipush 33, 2) := by decide +kernel
theorem dX7_playPart_47 : decode cX7_playPart 47 = .ok (.if_icmp .eq 22, 3) := by decide +kernel
theorem dX7_playPart_50 : decode cX7_playPart 50 = .ok (.iload_n 3, 1) := by decide +kernel
theorem dX7_playPart_51 : decode cX7_playPart 51 = .ok (.bipush 107, 2) := by decide +kernel
theorem dX7_playPart_53 : decode cX7_playPart 53 = .ok (.if_icmp .eq 16, 3) := by decide +kernel
theorem dX7_playPart_56 : decode cX7_playPart 56 = .ok (.iload_n 3, 1) := by decide +kernel
theorem dX7_playPart_57 : decode cX7_playPart 57 = .ok (.bipush 116, 2) := by decide +kernel
theorem dX7_playPart_59 : decode cX7_playPart 59 = .ok (.if_icmp .eq 10, 3) := by decide +kernel
theorem dX7_playPart_62 : decode cX7_playPart 62 = .ok (.aload_n 0, 1) := by decide +kernel
theorem dX7_playPart_63 : decode cX7_playPart 63 = .ok (.iload_n 1, 1) := by decide +kernel
theorem dX7_playPart_64 : decode cX7_playPart 64 = .ok (.iload_n 2, 1) := by decide +kernel
theorem dX7_playPart_65 : decode cX7_playPart 65 = .ok (.invokevirtual 390, 3) := by decide +kernel
theorem dX7_playPart_68 : decode cX7_playPart 68 = .ok (.ireturn, 1) := by decide +kernel
theorem dX7_playPart_69 : decode cX7_playPart 69 = .ok (.iload_n 3, 1) := by decide +kernel
theorem dX7_playPart_70 : decode cX7_playPart 70 = .ok (.bipush 33, 2) := by decide +kernel
theorem dX7_playPart_72 : decode cX7_playPart 72 = .ok (.if_icmp .ne 13, 3) := by decide +kernel
theorem dX7_playPart_75 : decode cX7_playPart 75 = .ok (.aload_n 0, 1) := by decide +kernel
theorem dX7_playPart_76 : decode cX7_playPart 76 = .ok (.getfield 10, 3) := by decide +kernel
theorem dX7_playPart_79 : decode cX7_playPart 79 = .ok (.invokevirtual 148, 3) := by decide +kernel
theorem dX7_playPart_82 : decode cX7_playPart 82 = .ok (.goto 45, 3) := by decide +kernel
theorem dX7_playPart_85 : decode cX7_playPart 85 = .ok (.iload_n 3, 1) := by decide +kernel
theorem dX7_playPart_86 : decode cX7_playPart 86 = .ok (.bipush 107, 2) := by decide +kernel
theorem dX7_playPart_88 : decode cX7_playPart 88 = .ok (.if_icmp .ne 24, 3) := by decide +kernel
theorem dX7_playPart_91 : decode cX7_playPart 91 = .ok (.aload_n 0, 1) := by decide +kernel
theorem dX7_playPart_92 : decode cX7_playPart 92 = .ok (.getfield 10, 3) := by decide +kernel
theorem dX7_playPart_95 : decode cX7_playPart 95 = .ok (.aload_n 0, 1) := by decide +kernel
theorem dX7_playPart_96 : decode cX7_playPart 96 = .ok (.getfield 29, 3) := by decide +kernel
theorem dX7_playPart_99 : decode cX7_playPart 99 = .ok (.iload_n 1, 1) := by decide +kernel
theorem dX7_playPart_100 : decode cX7_playPart 100 = .ok (.iconst 1, 1) := by decide +kernel
theorem dX7_playPart_101 : decode cX7_playPart 101 = .ok (.iadd, 1) := by decide +kernel
theorem dX7_playPart_102 : decode cX7_playPart 102 = .ok (.iload_n 2, 1) := by decide +kernel
theorem dX7_playPart_103 : decode cX7_playPart 103 = .ok (.invokevirtual 384, 3) := by decide +kernel
theorem dX7_playPart_106 : decode cX7_playPart 106 = .ok (.putfield 118, 3) := by decide +kernel
theorem dX7_playPart_109 : decode cX7_playPart 109 = .ok (.goto 18, 3) := by decide +kernel
theorem dX7_playPart_112 : decode cX7_playPart 112 = .ok (.aload_n 0, 1) := by decide +kernel
theorem dX7_playPart_113 : decode cX7_playPart 113 = .ok (.aload_n 0, 1) := by decide +kernel
theorem dX7_playPart_114 : decode cX7_playPart 114 = .ok (.getfield 29, 3) := by decide +kernel
theorem dX7_playPart_117 : decode cX7_playPart 117 = .ok (.iload_n 1, 1) := by decide +kernel
theorem dX7_playPart_118 : decode cX7_playPart 118 = .ok (.iconst 1, 1) := by decide +kernel
theorem dX7_playPart_119 : decode cX7_playPart 119 = .ok (.iadd, 1) := by decide +kernel
theorem dX7_playPart_120 : decode cX7_playPart 120 = .ok (.iload_n 2, 1) := by decide +kernel
theorem dX7_playPart_121 : decode cX7_playPart 121 = .ok (.invokevirtual 384, 3) := by decide +kernel
theorem dX7_playPart_124 : decode cX7_playPart 124 = .ok (.invokevirtual 393, 3) := by decide +kernel
theorem dX7_playPart_127 : decode cX7_playPart 127 = .ok (.iconst 0, 1) := by decide +kernel
theorem dX7_playPart_128 : decode cX7_playPart 128 = .ok (.ireturn, 1) := by decide +kernel
set_option maxRecDepth 20000 in
theorem ggX7_playTelling_X7_isRoom : GoodIn wsX7_playTelling wsX7_isRoom := goodIn_r _ [7] (by decide +kernel) (by decide +kernel)
set_option maxRecDepth 20000 in
theorem gX7_playTelling_X7_isRoom : GoodIn wsX7_playTelling (va_wsS RX7 121 yX7_isRoom wsX7_isRoom) := goodIn_app (goodIn_of _ (by decide +kernel)) ggX7_playTelling_X7_isRoom
theorem dX7_playTelling_0 : decode cX7_playTelling 0 = .ok (.iload_n 1, 1) := by decide +kernel
theorem dX7_playTelling_1 : decode cX7_playTelling 1 = .ok (.invokestatic 121, 3) := by decide +kernel
theorem dX7_playTelling_4 : decode cX7_playTelling 4 = .ok (.ifCond .eq 19, 3) := by decide +kernel
theorem dX7_playTelling_7 : decode cX7_playTelling 7 = .ok (.aload_n 0, 1) := by decide +kernel
theorem dX7_playTelling_8 : decode cX7_playTelling 8 = .ok (.getfield 10, 3) := by decide +kernel
theorem dX7_playTelling_11 : decode cX7_playTelling 11 = .ok (.getfield 126, 3) := by decide +kernel
theorem dX7_playTelling_14 : decode cX7_playTelling 14 = .ok (.iload_n 1, 1) := by decide +kernel
theorem dX7_playTelling_15 : decode cX7_playTelling 15 = .ok (.aload_n 0, 1) := by decide +kernel
theorem dX7_playTelling_16 : decode cX7_playTelling 16 = .ok (.getfield 10, 3) := by decide +kernel
theorem dX7_playTelling_19 : decode cX7_playTelling 19 = .ok (.getfield 118, 3) := by decide +kernel
theorem dX7_playTelling_22 : decode cX7_playTelling 22 = .ok (.iastore, 1) := by decide +kernel
theorem dX7_playTelling_23 : decode cX7_playTelling 23 = .ok (.return_, 1) := by decide +kernel
set_option maxRecDepth 20000 in
theorem ggX7_playWhistle_X7_isRoom : GoodIn wsX7_playWhistle wsX7_isRoom := goodIn_r _ [5] (by decide +kernel) (by decide +kernel)
set_option maxRecDepth 20000 in
theorem gX7_playWhistle_X7_isRoom : GoodIn wsX7_playWhistle (va_wsS RX7 121 yX7_isRoom wsX7_isRoom) := goodIn_app (goodIn_of _ (by decide +kernel)) ggX7_playWhistle_X7_isRoom
set_option maxRecDepth 20000 in
theorem ggX7_playWhistle_X7_isMessage : GoodIn wsX7_playWhistle wsX7_isMessage := goodIn_r _ [8] (by decide +kernel) (by decide +kernel)
set_option maxRecDepth 20000 in
theorem gX7_playWhistle_X7_isMessage : GoodIn wsX7_playWhistle (va_wsS RX7 65 yX7_isMessage wsX7_isMessage) := goodIn_app (goodIn_of _ (by decide +kernel)) ggX7_playWhistle_X7_isMessage
set_option maxRecDepth 20000 in
theorem ggX7_playWhistle_X3_reasonAgainst : GoodIn wsX7_playWhistle wsX3_reasonAgainst := goodIn_r _ [13, 14, 15, 16, 17, 12, 18, 19, 20, 101, 102, 103, 104, 105, 106, 107, 108, 109, 110, 111, 112, 113, 114, 115, 116] (by decide +kernel) (by decide +kernel)
set_option maxRecDepth 20000 in
theorem gX7_playWhistle_X3_reasonAgainst : GoodIn wsX7_playWhistle (wsV RX7 166 RX3 yX3_reasonAgainst wsX3_reasonAgainst) := goodIn_app (goodIn_of _ (by decide +kernel)) ggX7_playWhistle_X3_reasonAgainst
set_option maxRecDepth 20000 in
theorem ggX7_playWhistle_X7_soundWhistle : GoodIn wsX7_playWhistle wsX7_soundWhistle := goodIn_r _ [24, 25, 1, 26, 27, 28, 29, 30, 31, 32, 33, 34, 35, 36, 37, 38, 39, 40, 41, 42, 12, 43, 44, 45, 46, 47, 48, 20, 49, 4, 50, 51, 52, 53, 54, 55, 56, 57, 58, 59, 60, 61, 62, 63, 64, 65, 66, 67, 68, 69, 70, 71, 72, 73, 74, 75, 76, 19, 77, 78, 79, 80, 81, 82, 83, 84, 85, 86, 87, 88, 89, 90, 91, 92, 93, 94, 95, 96, 97, 98, 99, 100, 117, 118, 119, 120, 121, 101, 102, 103, 104, 105, 106, 107, 108, 109, 110, 111, 112, 113, 114, 115, 116] (by decide +kernel) (by decide +kernel)
set_option maxRecDepth 20000 in
theorem gX7_playWhistle_X7_soundWhistle : GoodIn wsX7_playWhistle (wsV RX7 172 RX7 yX7_soundWhistle wsX7_soundWhistle) := goodIn_app (goodIn_of _ (by decide +kernel)) ggX7_playWhistle_X7_soundWhistle
theorem dX7_playWhistle_0 : decode cX7_playWhistle 0 = .ok (.iload_n 1, 1) := by decide +kernel
theorem dX7_playWhistle_1 : decode cX7_playWhistle 1 = .ok (.invokestatic 121, 3) := by decide +kernel
theorem dX7_playWhistle_4 : decode cX7_playWhistle 4 = .ok (.ifCond .eq 10, 3) := by decide +kernel
theorem dX7_playWhistle_7 : decode cX7_playWhistle 7 = .ok (.iload_n 2, 1) := by decide +kernel
theorem dX7_playWhistle_8 : decode cX7_playWhistle 8 = .ok (.invokestatic 65, 3) := by decide +kernel
theorem dX7_playWhistle_11 : decode cX7_playWhistle 11 = .ok (.ifCond .ne 5, 3) := by decide +kernel
theorem dX7_playWhistle_14 : decode cX7_playWhistle 14 = .ok (.iconst 2, 1) := by decide +kernel
theorem dX7_playWhistle_15 : decode cX7_playWhistle 15 = .ok (.ireturn, 1) := by decide +kernel
theorem dX7_playWhistle_16 : decode cX7_playWhistle 16 = .ok (.aload_n 0, 1) := by decide +kernel
theorem dX7_playWhistle_17 : decode cX7_playWhistle 17 = .ok (.getfield 10, 3) := by decide +kernel
theorem dX7_playWhistle_20 : decode cX7_playWhistle 20 = .ok (.iload_n 1, 1) := by decide +kernel
theorem dX7_playWhistle_21 : decode cX7_playWhistle 21 = .ok (.iload_n 2, 1) := by decide +kernel
theorem dX7_playWhistle_22 : decode cX7_playWhistle 22 = .ok (.invokevirtual 166, 3) := by decide +kernel
theorem dX7_playWhistle_25 : decode cX7_playWhistle 25 = .ok (.istore_n 3, 1) := by decide +kernel
theorem dX7_playWhistle_26 : decode cX7_playWhistle 26 = .ok (.iload_n 3, 1) := by decide +kernel
theorem dX7_playWhistle_27 : decode cX7_playWhistle 27 = .ok (.ifCond .ne 10, 3) := by decide +kernel
theorem dX7_playWhistle_30 : decode cX7_playWhistle 30 = .ok (.aload_n 0, 1) := by decide +kernel
theorem dX7_playWhistle_31 : decode cX7_playWhistle 31 = .ok (.iload_n 1, 1) := by decide +kernel
theorem dX7_playWhistle_32 : decode cX7_playWhistle 32 = .ok (.iload_n 2, 1) := by decide +kernel
theorem dX7_playWhistle_33 : decode cX7_playWhistle 33 = .ok (.invokevirtual 172, 3) := by decide +kernel
theorem dX7_playWhistle_36 : decode cX7_playWhistle 36 = .ok (.pop, 1) := by decide +kernel
theorem dX7_playWhistle_37 : decode cX7_playWhistle 37 = .ok (.iload_n 3, 1) := by decide +kernel
theorem dX7_playWhistle_38 : decode cX7_playWhistle 38 = .ok (.ireturn, 1) := by decide +kernel
set_option maxRecDepth 20000 in
theorem ggX7_soundWhistle_X2_foresee : GoodIn wsX7_soundWhistle wsX2_foresee := goodIn_r _ [8, 9, 10, 11, 12, 13, 14, 15, 16, 17, 18, 19, 20, 21, 22, 23, 24, 25, 26, 27, 28, 29, 30, 31, 32, 33, 34, 35, 36, 37, 38, 39, 40, 41, 42, 43, 44, 87, 88, 89, 90, 91, 92, 93, 94, 95, 96, 97, 98, 99, 100, 101, 102, 82, 83, 84, 85, 86] (by decide +kernel) (by decide +kernel)
set_option maxRecDepth 20000 in
theorem gX7_soundWhistle_X2_foresee : GoodIn wsX7_soundWhistle (wsV RX7 289 RX2 yX2_foresee wsX2_foresee) := goodIn_app (goodIn_of _ (by decide +kernel)) ggX7_soundWhistle_X2_foresee
set_option maxRecDepth 20000 in
theorem ggX7_soundWhistle_X3_remember : GoodIn wsX7_soundWhistle wsX3_remember := goodIn_r _ [48, 49, 50, 51, 52, 53, 54, 55, 56, 57, 58, 59, 60, 61, 62, 63, 64, 65, 66, 67, 68, 20, 69, 70, 71, 28, 29, 30, 87, 88, 89, 90, 91, 92, 93, 94, 95, 96, 97, 98, 99, 100, 101, 102, 82, 83, 84, 85, 86] (by decide +kernel) (by decide +kernel)
set_option maxRecDepth 20000 in
theorem gX7_soundWhistle_X3_remember : GoodIn wsX7_soundWhistle (wsV RX7 397 RX3 yX3_remember wsX3_remember) := goodIn_app (goodIn_of _ (by decide +kernel)) ggX7_soundWhistle_X3_remember
set_option maxRecDepth 20000 in
theorem ggX7_soundWhistle_J6_bitCount_0f7a4 : GoodIn wsX7_soundWhistle wsJ6_bitCount_0f7a4 := goodIn_r _ [62, 63, 64, 65] (by decide +kernel) (by decide +kernel)
set_option maxRecDepth 20000 in
theorem gX7_soundWhistle_J6_bitCount_0f7a4 : GoodIn wsX7_soundWhistle (va_wsS RX7 134 yJ6_bitCount_0f7a4 wsJ6_bitCount_0f7a4) := goodIn_app (goodIn_of _ (by decide +kernel)) ggX7_soundWhistle_J6_bitCount_0f7a4
theorem dX7_soundWhistle_0 : decode cX7_soundWhistle 0 = .ok (.aload_n 0, 1) := by decide +kernel
theorem dX7_soundWhistle_1 : decode cX7_soundWhistle 1 = .ok (.getfield 57, 3) := by decide +kernel
theorem dX7_soundWhistle_4 : decode cX7_soundWhistle 4 = .ok (.aload_n 0, 1) := by decide +kernel
theorem dX7_soundWhistle_5 : decode cX7_soundWhistle 5 = .ok (.getfield 10, 3) := by decide +kernel
theorem dX7_soundWhistle_8 : decode cX7_soundWhistle 8 = .ok (.iload_n 1, 1) := by decide +kernel
theorem dX7_soundWhistle_9 : decode cX7_soundWhistle 9 = .ok (.iload_n 2, 1) := by decide +kernel
theorem dX7_soundWhistle_10 : decode cX7_soundWhistle 10 = .ok (.invokevirtual 289, 3) := by decide +kernel
theorem dX7_soundWhistle_13 : decode cX7_soundWhistle 13 = .ok (.aload_n 0, 1) := by decide +kernel
theorem dX7_soundWhistle_14 : decode cX7_soundWhistle 14 = .ok (.getfield 10, 3) := by decide +kernel
theorem dX7_soundWhistle_17 : decode cX7_soundWhistle 17 = .ok (.iload_n 1, 1) := by decide +kernel
theorem dX7_soundWhistle_18 : decode cX7_soundWhistle 18 = .ok (.iload_n 2, 1) := by decide +kernel
theorem dX7_soundWhistle_19 : decode cX7_soundWhistle 19 = .ok (.aload_n 0, 1) := by decide +kernel
theorem dX7_soundWhistle_20 : decode cX7_soundWhistle 20 = .ok (.getfield 57, 3) := by decide +kernel
theorem dX7_soundWhistle_23 : decode cX7_soundWhistle 23 = .ok (.invokevirtual 397, 3) := by decide +kernel
theorem dX7_soundWhistle_26 : decode cX7_soundWhistle 26 = .ok (.aload_n 0, 1) := by decide +kernel
theorem dX7_soundWhistle_27 : decode cX7_soundWhistle 27 = .ok (.getfield 57, 3) := by decide +kernel
theorem dX7_soundWhistle_30 : decode cX7_soundWhistle 30 = .ok (.getfield 296, 3) := by decide +kernel
theorem dX7_soundWhistle_33 : decode cX7_soundWhistle 33 = .ok (.invokestatic 134, 3) := by decide +kernel
theorem dX7_soundWhistle_36 : decode cX7_soundWhistle 36 = .ok (.ireturn, 1) := by decide +kernel
set_option maxRecDepth 20000 in
theorem ggX7_playTeaching_X5_at : GoodIn wsX7_playTeaching wsX5_at := goodIn_r _ [8, 9, 10, 201, 202] (by decide +kernel) (by decide +kernel)
set_option maxRecDepth 20000 in
theorem gX7_playTeaching_X5_at : GoodIn wsX7_playTeaching (wsV RX7 196 RX5 yX5_at wsX5_at) := goodIn_app (goodIn_of _ (by decide +kernel)) ggX7_playTeaching_X5_at
set_option maxRecDepth 20000 in
theorem ggX7_playTeaching_X5_numberIn : GoodIn wsX7_playTeaching wsX5_numberIn := goodIn_r _ [14, 15, 5, 6, 7, 8, 9, 10, 201, 202] (by decide +kernel) (by decide +kernel)
set_option maxRecDepth 20000 in
theorem gX7_playTeaching_X5_numberIn : GoodIn wsX7_playTeaching (wsV RX7 384 RX5 yX5_numberIn wsX5_numberIn) := goodIn_app (goodIn_of _ (by decide +kernel)) ggX7_playTeaching_X5_numberIn
set_option maxRecDepth 20000 in
theorem ggX7_playTeaching_X7_isMessage : GoodIn wsX7_playTeaching wsX7_isMessage := goodIn_r _ [19] (by decide +kernel) (by decide +kernel)
set_option maxRecDepth 20000 in
theorem gX7_playTeaching_X7_isMessage : GoodIn wsX7_playTeaching (va_wsS RX7 65 yX7_isMessage wsX7_isMessage) := goodIn_app (goodIn_of _ (by decide +kernel)) ggX7_playTeaching_X7_isMessage
set_option maxRecDepth 20000 in
theorem ggX7_playTeaching_X6_read : GoodIn wsX7_playTeaching wsX6_read := goodIn_r _ [24, 25, 26, 27, 5, 6, 7, 8, 9, 10, 28, 29, 30, 31, 32, 33, 34, 35, 36, 37, 38, 39, 40, 41, 42, 43, 44, 45, 46, 47, 48, 49, 50, 51, 52, 53, 54, 55, 56, 57, 58, 59, 60, 61, 62, 63, 64, 65, 66, 67, 68, 69, 70, 71, 72, 73, 74, 75, 76, 77, 78, 79, 80, 81, 82, 83, 84, 85, 86, 87, 88, 89, 90, 91, 92, 93, 94, 95, 96, 97, 98, 99, 100, 101, 102, 103, 104, 105, 106, 107, 108, 109, 110, 111, 112, 113, 114, 115, 116, 117, 118, 119, 23, 120, 121, 122, 123, 124, 125, 203, 204, 205, 201, 202] (by decide +kernel) (by decide +kernel)
set_option maxRecDepth 20000 in
theorem gX7_playTeaching_X6_read : GoodIn wsX7_playTeaching (wsV RX7 362 RX6 yX6_read wsX6_read) := goodIn_app (goodIn_of _ (by decide +kernel)) ggX7_playTeaching_X6_read
set_option maxRecDepth 20000 in
theorem ggX7_playTeaching_X7_reasonAgainstTune : GoodIn wsX7_playTeaching wsX7_reasonAgainstTune := goodIn_r _ [129, 2, 130, 3, 131, 132, 133, 23, 134, 25, 135, 136, 137, 138, 139, 140, 141, 142, 143, 144, 145, 146, 147, 148, 149, 150, 151, 152, 153, 154, 155, 156, 157, 158, 159, 160, 161, 162, 163, 164, 165, 166, 167, 168, 169, 170, 171, 172, 173, 174, 121, 175, 176, 177, 178, 179, 192, 193, 194, 195, 196, 197, 198, 199, 200, 203, 204, 205, 206, 207, 208, 209, 210, 211, 212, 213, 214, 215, 216, 217, 218, 219, 220, 221, 222, 223, 224] (by decide +kernel) (by decide +kernel)
set_option maxRecDepth 20000 in
theorem gX7_playTeaching_X7_reasonAgainstTune : GoodIn wsX7_playTeaching (wsV RX7 85 RX7 yX7_reasonAgainstTune wsX7_reasonAgainstTune) := goodIn_app (goodIn_of _ (by decide +kernel)) ggX7_playTeaching_X7_reasonAgainstTune
set_option maxRecDepth 20000 in
theorem ggX7_playTeaching_X3_learn : GoodIn wsX7_playTeaching wsX3_learn := goodIn_r _ [183, 184, 185, 186, 157, 187, 188, 189, 190, 191, 132, 133, 23, 134, 25, 209, 210, 211, 212, 213, 214, 215, 216, 217, 218, 219, 220, 221, 222, 223, 224, 203, 204, 205] (by decide +kernel) (by decide +kernel)
set_option maxRecDepth 20000 in
theorem gX7_playTeaching_X3_learn : GoodIn wsX7_playTeaching (wsV RX7 98 RX3 yX3_learn wsX3_learn) := goodIn_app (goodIn_of _ (by decide +kernel)) ggX7_playTeaching_X3_learn
theorem dX7_playTeaching_0 : decode cX7_playTeaching 0 = .ok (.aload_n 0, 1) := by decide +kernel
theorem dX7_playTeaching_1 : decode cX7_playTeaching 1 = .ok (.getfield 29, 3) := by decide +kernel
theorem dX7_playTeaching_4 : decode cX7_playTeaching 4 = .ok (.iload_n 1, 1) := by decide +kernel
theorem dX7_playTeaching_5 : decode cX7_playTeaching 5 = .ok (.iconst 1, 1) := by decide +kernel
theorem dX7_playTeaching_6 : decode cX7_playTeaching 6 = .ok (.iadd, 1) := by decide +kernel
theorem dX7_playTeaching_7 : decode cX7_playTeaching 7 = .ok (.invokevirtual 196, 3) := by decide +kernel
theorem dX7_playTeaching_10 : decode cX7_playTeaching 10 = .ok (.bipush 61, 2) := by decide +kernel
theorem dX7_playTeaching_12 : decode cX7_playTeaching 12 = .ok (.if_icmp .ne 9, 3) := by decide +kernel
theorem dX7_playTeaching_15 : decode cX7_playTeaching 15 = .ok (.iload_n 1, 1) := by decide +kernel
theorem dX7_playTeaching_16 : decode cX7_playTeaching 16 = .ok (.iconst 1, 1) := by decide +kernel
theorem dX7_playTeaching_17 : decode cX7_playTeaching 17 = .ok (.iadd, 1) := by decide +kernel
theorem dX7_playTeaching_18 : decode cX7_playTeaching 18 = .ok (.goto 6, 3) := by decide +kernel
theorem dX7_playTeaching_21 : decode cX7_playTeaching 21 = .ok (.iload_n 1, 1) := by decide +kernel
theorem dX7_playTeaching_22 : decode cX7_playTeaching 22 = .ok (.iconst 2, 1) := by decide +kernel
theorem dX7_playTeaching_23 : decode cX7_playTeaching 23 = .ok (.iadd, 1) := by decide +kernel
theorem dX7_playTeaching_24 : decode cX7_playTeaching 24 = .ok (.istore_n 3, 1) := by decide +kernel
theorem dX7_playTeaching_25 : decode cX7_playTeaching 25 = .ok (.aload_n 0, 1) := by decide +kernel
theorem dX7_playTeaching_26 : decode cX7_playTeaching 26 = .ok (.getfield 29, 3) := by decide +kernel
theorem dX7_playTeaching_29 : decode cX7_playTeaching 29 = .ok (.iload_n 1, 1) := by decide +kernel
theorem dX7_playTeaching_30 : decode cX7_playTeaching 30 = .ok (.iload_n 3, 1) := by decide +kernel
theorem dX7_playTeaching_31 : decode cX7_playTeaching 31 = .ok (.invokevirtual 384, 3) := by decide +kernel
theorem dX7_playTeaching_34 : decode cX7_playTeaching 34 = .ok (.istore 4, 2) := by decide +kernel
theorem dX7_playTeaching_36 : decode cX7_playTeaching 36 = .ok (.iload 4, 2) := by decide +kernel
theorem dX7_playTeaching_38 : decode cX7_playTeaching 38 = .ok (.invokestatic 65, 3) := by decide +kernel
theorem dX7_playTeaching_41 : decode cX7_playTeaching 41 = .ok (.ifCond .ne 5, 3) := by decide +kernel
theorem dX7_playTeaching_44 : decode cX7_playTeaching 44 = .ok (.iconst 2, 1) := by decide +kernel
theorem dX7_playTeaching_45 : decode cX7_playTeaching 45 = .ok (.ireturn, 1) := by decide +kernel
theorem dX7_playTeaching_46 : decode cX7_playTeaching 46 = .ok (.aload_n 0, 1) := by decide +kernel
theorem dX7_playTeaching_47 : decode cX7_playTeaching 47 = .ok (.getfield 43, 3) := by decide +kernel
theorem dX7_playTeaching_50 : decode cX7_playTeaching 50 = .ok (.aload_n 0, 1) := by decide +kernel
theorem dX7_playTeaching_51 : decode cX7_playTeaching 51 = .ok (.getfield 29, 3) := by decide +kernel
theorem dX7_playTeaching_54 : decode cX7_playTeaching 54 = .ok (.iload_n 3, 1) := by decide +kernel
theorem dX7_playTeaching_55 : decode cX7_playTeaching 55 = .ok (.iconst 1, 1) := by decide +kernel
theorem dX7_playTeaching_56 : decode cX7_playTeaching 56 = .ok (.iadd, 1) := by decide +kernel
theorem dX7_playTeaching_57 : decode cX7_playTeaching 57 = .ok (.iload_n 2, 1) := by decide +kernel
theorem dX7_playTeaching_58 : decode cX7_playTeaching 58 = .ok (.invokevirtual 362, 3) := by decide +kernel
theorem dX7_playTeaching_61 : decode cX7_playTeaching 61 = .ok (.aload_n 0, 1) := by decide +kernel
theorem dX7_playTeaching_62 : decode cX7_playTeaching 62 = .ok (.iload 4, 2) := by decide +kernel
theorem dX7_playTeaching_64 : decode cX7_playTeaching 64 = .ok (.invokevirtual 85, 3) := by decide +kernel
theorem dX7_playTeaching_67 : decode cX7_playTeaching 67 = .ok (.istore 5, 2) := by decide +kernel
theorem dX7_playTeaching_69 : decode cX7_playTeaching 69 = .ok (.iload 5, 2) := by decide +kernel
theorem dX7_playTeaching_71 : decode cX7_playTeaching 71 = .ok (.ifCond .ne 16, 3) := by decide +kernel
theorem dX7_playTeaching_74 : decode cX7_playTeaching 74 = .ok (.aload_n 0, 1) := by decide +kernel
theorem dX7_playTeaching_75 : decode cX7_playTeaching 75 = .ok (.getfield 10, 3) := by decide +kernel
theorem dX7_playTeaching_78 : decode cX7_playTeaching 78 = .ok (.iload 4, 2) := by decide +kernel
theorem dX7_playTeaching_80 : decode cX7_playTeaching 80 = .ok (.aload_n 0, 1) := by decide +kernel
theorem dX7_playTeaching_81 : decode cX7_playTeaching 81 = .ok (.getfield 43, 3) := by decide +kernel
theorem dX7_playTeaching_84 : decode cX7_playTeaching 84 = .ok (.invokevirtual 98, 3) := by decide +kernel
theorem dX7_playTeaching_87 : decode cX7_playTeaching 87 = .ok (.iload 5, 2) := by decide +kernel
theorem dX7_playTeaching_89 : decode cX7_playTeaching 89 = .ok (.ireturn, 1) := by decide +kernel
theorem dX8_init_0 : decode cX8_init 0 = .ok (.aload_n 0, 1) := by decide +kernel
theorem dX8_init_1 : decode cX8_init 1 = .ok (.invokespecial 1, 3) := by decide +kernel
theorem dX8_init_4 : decode cX8_init 4 = .ok (.aload_n 0, 1) := by decide +kernel
theorem dX8_init_5 : decode cX8_init 5 = .ok (.sipush 267, 3) := by decide +kernel
theorem dX8_init_8 : decode cX8_init 8 = .ok (.newarray .int, 2) := by decide +kernel
theorem dX8_init_10 : decode cX8_init 10 = .ok (.putfield 7, 3) := by decide +kernel
theorem dX8_init_13 : decode cX8_init 13 = .ok (.aload_n 0, 1) := by decide +kernel
theorem dX8_init_14 : decode cX8_init 14 = .ok (.sipush 1602, 3) := by decide +kernel
theorem dX8_init_17 : decode cX8_init 17 = .ok (.newarray .int, 2) := by decide +kernel
theorem dX8_init_19 : decode cX8_init 19 = .ok (.putfield 13, 3) := by decide +kernel
theorem dX8_init_22 : decode cX8_init 22 = .ok (.aload_n 0, 1) := by decide +kernel
theorem dX8_init_23 : decode cX8_init 23 = .ok (.sipush 267, 3) := by decide +kernel
theorem dX8_init_26 : decode cX8_init 26 = .ok (.newarray .int, 2) := by decide +kernel
theorem dX8_init_28 : decode cX8_init 28 = .ok (.putfield 16, 3) := by decide +kernel
theorem dX8_init_31 : decode cX8_init 31 = .ok (.aload_n 0, 1) := by decide +kernel
theorem dX8_init_32 : decode cX8_init 32 = .ok (.bipush 60, 2) := by decide +kernel
theorem dX8_init_34 : decode cX8_init 34 = .ok (.newarray .int, 2) := by decide +kernel
theorem dX8_init_36 : decode cX8_init 36 = .ok (.putfield 19, 3) := by decide +kernel
theorem dX8_init_39 : decode cX8_init 39 = .ok (.aload_n 0, 1) := by decide +kernel
theorem dX8_init_40 : decode cX8_init 40 = .ok (.bipush 8, 2) := by decide +kernel
theorem dX8_init_42 : decode cX8_init 42 = .ok (.newarray .int, 2) := by decide +kernel
theorem dX8_init_44 : decode cX8_init 44 = .ok (.putfield 22, 3) := by decide +kernel
theorem dX8_init_47 : decode cX8_init 47 = .ok (.aload_n 0, 1) := by decide +kernel
theorem dX8_init_48 : decode cX8_init 48 = .ok (.iconst 3, 1) := by decide +kernel
theorem dX8_init_49 : decode cX8_init 49 = .ok (.newarray .int, 2) := by decide +kernel
theorem dX8_init_51 : decode cX8_init 51 = .ok (.putfield 25, 3) := by decide +kernel
theorem dX8_init_54 : decode cX8_init 54 = .ok (.aload_n 0, 1) := by decide +kernel
theorem dX8_init_55 : decode cX8_init 55 = .ok (.getfield 7, 3) := by decide +kernel
theorem dX8_init_58 : decode cX8_init 58 = .ok (.iconst 3, 1) := by decide +kernel
theorem dX8_init_59 : decode cX8_init 59 = .ok (.iconst 1, 1) := by decide +kernel
theorem dX8_init_60 : decode cX8_init 60 = .ok (.iastore, 1) := by decide +kernel
theorem dX8_init_61 : decode cX8_init 61 = .ok (.aload_n 0, 1) := by decide +kernel
theorem dX8_init_62 : decode cX8_init 62 = .ok (.getfield 7, 3) := by decide +kernel
theorem dX8_init_65 : decode cX8_init 65 = .ok (.iconst 4, 1) := by decide +kernel
theorem dX8_init_66 : decode cX8_init 66 = .ok (.iconst 3, 1) := by decide +kernel
theorem dX8_init_67 : decode cX8_init 67 = .ok (.iastore, 1) := by decide +kernel
theorem dX8_init_68 : decode cX8_init 68 = .ok (.bipush 6, 2) := by decide +kernel
theorem dX8_init_70 : decode cX8_init 70 = .ok (.istore_n 1, 1) := by decide +kernel
theorem dX8_init_71 : decode cX8_init 71 = .ok (.iload_n 1, 1) := by decide +kernel
theorem dX8_init_72 : decode cX8_init 72 = .ok (.bipush 13, 2) := by decide +kernel
theorem dX8_init_74 : decode cX8_init 74 = .ok (.if_icmp .gt 16, 3) := by decide +kernel
theorem dX8_init_77 : decode cX8_init 77 = .ok (.aload_n 0, 1) := by decide +kernel
theorem dX8_init_78 : decode cX8_init 78 = .ok (.getfield 7, 3) := by decide +kernel
theorem dX8_init_81 : decode cX8_init 81 = .ok (.iload_n 1, 1) := by decide +kernel
theorem dX8_init_82 : decode cX8_init 82 = .ok (.iconst (-1), 1) := by decide +kernel
theorem dX8_init_83 : decode cX8_init 83 = .ok (.iastore, 1) := by decide +kernel
theorem dX8_init_84 : decode cX8_init 84 = .ok (.iinc 1 1, 3) := by decide +kernel
theorem dX8_init_87 : decode cX8_init 87 = .ok (.goto (-16), 3) := by decide +kernel
theorem dX8_init_90 : decode cX8_init 90 = .ok (.return_, 1) := by decide +kernel
theorem dX8_thrown_0 : decode cX8_thrown 0 = .ok (.aload_n 0, 1) := by decide +kernel
theorem dX8_thrown_1 : decode cX8_thrown 1 = .ok (.getfield 28, 3) := by decide +kernel
theorem dX8_thrown_4 : decode cX8_thrown 4 = .ok (.ireturn, 1) := by decide +kernel
theorem dX8_fails_0 : decode cX8_fails 0 = .ok (.aload_n 0, 1) := by decide +kernel
theorem dX8_fails_1 : decode cX8_fails 1 = .ok (.iload_n 1, 1) := by decide +kernel
theorem dX8_fails_2 : decode cX8_fails 2 = .ok (.putfield 28, 3) := by decide +kernel
theorem dX8_fails_5 : decode cX8_fails 5 = .ok (.iconst 0, 1) := by decide +kernel
theorem dX8_fails_6 : decode cX8_fails 6 = .ok (.ireturn, 1) := by decide +kernel
theorem dX8_within_0 : decode cX8_within 0 = .ok (.iload_n 0, 1) := by decide +kernel
theorem dX8_within_1 : decode cX8_within 1 = .ok (.iload_n 1, 1) := by decide +kernel
theorem dX8_within_2 : decode cX8_within 2 = .ok (.if_icmp .lt 12, 3) := by decide +kernel
theorem dX8_within_5 : decode cX8_within 5 = .ok (.iload_n 0, 1) := by decide +kernel
theorem dX8_within_6 : decode cX8_within 6 = .ok (.iload_n 2, 1) := by decide +kernel
theorem dX8_within_7 : decode cX8_within 7 = .ok (.if_icmp .gt 7, 3) := by decide +kernel
theorem dX8_within_10 : decode cX8_within 10 = .ok (.iconst 1, 1) := by decide +kernel
theorem dX8_within_11 : decode cX8_within 11 = .ok (.goto 4, 3) := by decide +kernel
theorem dX8_within_14 : decode cX8_within 14 = .ok (.iconst 0, 1) := by decide +kernel
theorem dX8_within_15 : decode cX8_within 15 = .ok (.ireturn, 1) := by decide +kernel
set_option maxRecDepth 20000 in
theorem ggX8_isMessage_X8_within : GoodIn wsX8_isMessage wsX8_within := goodIn_r _ [4] (by decide +kernel) (by decide +kernel)
set_option maxRecDepth 20000 in
theorem gX8_isMessage_X8_within : GoodIn wsX8_isMessage (va_wsS RX8 32 yX8_within wsX8_within) := goodIn_app (goodIn_of _ (by decide +kernel)) ggX8_isMessage_X8_within
theorem dX8_isMessage_0 : decode cX8_isMessage 0 = .ok (.iload_n 0, 1) := by decide +kernel
theorem dX8_isMessage_1 : decode cX8_isMessage 1 = .ok (.iconst 0, 1) := by decide +kernel
theorem dX8_isMessage_2 : decode cX8_isMessage 2 = .ok (.bipush 19, 2) := by decide +kernel
theorem dX8_isMessage_4 : decode cX8_isMessage 4 = .ok (.invokestatic 32, 3) := by decide +kernel
theorem dX8_isMessage_7 : decode cX8_isMessage 7 = .ok (.ireturn, 1) := by decide +kernel
set_option maxRecDepth 20000 in
theorem ggX8_isRoom_X8_within : GoodIn wsX8_isRoom wsX8_within := goodIn_r _ [4] (by decide +kernel) (by decide +kernel)
set_option maxRecDepth 20000 in
theorem gX8_isRoom_X8_within : GoodIn wsX8_isRoom (va_wsS RX8 32 yX8_within wsX8_within) := goodIn_app (goodIn_of _ (by decide +kernel)) ggX8_isRoom_X8_within
theorem dX8_isRoom_0 : decode cX8_isRoom 0 = .ok (.iload_n 0, 1) := by decide +kernel
theorem dX8_isRoom_1 : decode cX8_isRoom 1 = .ok (.iconst 0, 1) := by decide +kernel
theorem dX8_isRoom_2 : decode cX8_isRoom 2 = .ok (.iconst 5, 1) := by decide +kernel
theorem dX8_isRoom_3 : decode cX8_isRoom 3 = .ok (.invokestatic 32, 3) := by decide +kernel
theorem dX8_isRoom_6 : decode cX8_isRoom 6 = .ok (.ireturn, 1) := by decide +kernel
set_option maxRecDepth 20000 in
theorem ggX8_isKey_X8_within : GoodIn wsX8_isKey wsX8_within := goodIn_r _ [4] (by decide +kernel) (by decide +kernel)
set_option maxRecDepth 20000 in
theorem gX8_isKey_X8_within : GoodIn wsX8_isKey (va_wsS RX8 32 yX8_within wsX8_within) := goodIn_app (goodIn_of _ (by decide +kernel)) ggX8_isKey_X8_within
theorem dX8_isKey_0 : decode cX8_isKey 0 = .ok (.iload_n 0, 1) := by decide +kernel
theorem dX8_isKey_1 : decode cX8_isKey 1 = .ok (.iconst 0, 1) := by decide +kernel
theorem dX8_isKey_2 : decode cX8_isKey 2 = .ok (.bipush 6, 2) := by decide +kernel
theorem dX8_isKey_4 : decode cX8_isKey 4 = .ok (.invokestatic 32, 3) := by decide +kernel
theorem dX8_isKey_7 : decode cX8_isKey 7 = .ok (.ireturn, 1) := by decide +kernel
theorem dX8_addTo_0 : decode cX8_addTo 0 = .ok (.aload_n 0, 1) := by decide +kernel
theorem dX8_addTo_1 : decode cX8_addTo 1 = .ok (.getfield 7, 3) := by decide +kernel
theorem dX8_addTo_4 : decode cX8_addTo 4 = .ok (.bipush 14, 2) := by decide +kernel
theorem dX8_addTo_6 : decode cX8_addTo 6 = .ok (.iconst 5, 1) := by decide +kernel
theorem dX8_addTo_7 : decode cX8_addTo 7 = .ok (.iload_n 1, 1) := by decide +kernel
theorem dX8_addTo_8 : decode cX8_addTo 8 = .ok (.imul, 1) := by decide +kernel
theorem dX8_addTo_9 : decode cX8_addTo 9 = .ok (.iadd, 1) := by decide +kernel
theorem dX8_addTo_10 : decode cX8_addTo 10 = .ok (.iload_n 2, 1) := by decide +kernel
theorem dX8_addTo_11 : decode cX8_addTo 11 = .ok (.iadd, 1) := by decide +kernel
theorem dX8_addTo_12 : decode cX8_addTo 12 = .ok (.dup2, 1) := by decide +kernel
theorem dX8_addTo_13 : decode cX8_addTo 13 = .ok (.iaload, 1) := by decide +kernel
theorem dX8_addTo_14 : decode cX8_addTo 14 = .ok (.iload_n 3, 1) := by decide +kernel
theorem dX8_addTo_15 : decode cX8_addTo 15 = .ok (.iadd, 1) := by decide +kernel
theorem dX8_addTo_16 : decode cX8_addTo 16 = .ok (.iastore, 1) := by decide +kernel
theorem dX8_addTo_17 : decode cX8_addTo 17 = .ok (.return_, 1) := by decide +kernel
theorem dX8_ofRoom_0 : decode cX8_ofRoom 0 = .ok (.aload_n 0, 1) := by decide +kernel
theorem dX8_ofRoom_1 : decode cX8_ofRoom 1 = .ok (.getfield 7, 3) := by decide +kernel
theorem dX8_ofRoom_4 : decode cX8_ofRoom 4 = .ok (.bipush 14, 2) := by decide +kernel
theorem dX8_ofRoom_6 : decode cX8_ofRoom 6 = .ok (.iconst 5, 1) := by decide +kernel
theorem dX8_ofRoom_7 : decode cX8_ofRoom 7 = .ok (.iload_n 1, 1) := by decide +kernel
theorem dX8_ofRoom_8 : decode cX8_ofRoom 8 = .ok (.imul, 1) := by decide +kernel
theorem dX8_ofRoom_9 : decode cX8_ofRoom 9 = .ok (.iadd, 1) := by decide +kernel
theorem dX8_ofRoom_10 : decode cX8_ofRoom 10 = .ok (.iload_n 2, 1) := by decide +kernel
theorem dX8_ofRoom_11 : decode cX8_ofRoom 11 = .ok (.iadd, 1) := by decide +kernel
theorem dX8_ofRoom_12 : decode cX8_ofRoom 12 = .ok (.iaload, 1) := by decide +kernel
theorem dX8_ofRoom_13 : decode cX8_ofRoom 13 = .ok (.ireturn, 1) := by decide +kernel
theorem dX8_ofMessage_0 : decode cX8_ofMessage 0 = .ok (.aload_n 0, 1) := by decide +kernel
theorem dX8_ofMessage_1 : decode cX8_ofMessage 1 = .ok (.getfield 7, 3) := by decide +kernel
theorem dX8_ofMessage_4 : decode cX8_ofMessage 4 = .ok (.bipush 47, 2) := by decide +kernel
theorem dX8_ofMessage_6 : decode cX8_ofMessage 6 = .ok (.bipush 11, 2) := by decide +kernel
theorem dX8_ofMessage_8 : decode cX8_ofMessage 8 = .ok (.iload_n 1, 1) := by decide +kernel
theorem dX8_ofMessage_9 : decode cX8_ofMessage 9 = .ok (.imul, 1) := by decide +kernel
theorem dX8_ofMessage_10 : decode cX8_ofMessage 10 = .ok (.iadd, 1) := by decide +kernel
theorem dX8_ofMessage_11 : decode cX8_ofMessage 11 = .ok (.iload_n 2, 1) := by decide +kernel
theorem dX8_ofMessage_12 : decode cX8_ofMessage 12 = .ok (.iadd, 1) := by decide +kernel
theorem dX8_ofMessage_13 : decode cX8_ofMessage 13 = .ok (.iaload, 1) := by decide +kernel
theorem dX8_ofMessage_14 : decode cX8_ofMessage 14 = .ok (.ireturn, 1) := by decide +kernel
theorem dX8_setMessage_0 : decode cX8_setMessage 0 = .ok (.aload_n 0, 1) := by decide +kernel
theorem dX8_setMessage_1 : decode cX8_setMessage 1 = .ok (.getfield 7, 3) := by decide +kernel
theorem dX8_setMessage_4 : decode cX8_setMessage 4 = .ok (.bipush 47, 2) := by decide +kernel
theorem dX8_setMessage_6 : decode cX8_setMessage 6 = .ok (.bipush 11, 2) := by decide +kernel
theorem dX8_setMessage_8 : decode cX8_setMessage 8 = .ok (.iload_n 1, 1) := by decide +kernel
theorem dX8_setMessage_9 : decode cX8_setMessage 9 = .ok (.imul, 1) := by decide +kernel
theorem dX8_setMessage_10 : decode cX8_setMessage 10 = .ok (.iadd, 1) := by decide +kernel
theorem dX8_setMessage_11 : decode cX8_setMessage 11 = .ok (.iload_n 2, 1) := by decide +kernel
theorem dX8_setMessage_12 : decode cX8_setMessage 12 = .ok (.iadd, 1) := by decide +kernel
theorem dX8_setMessage_13 : decode cX8_setMessage 13 = .ok (.iload_n 3, 1) := by decide +kernel
theorem dX8_setMessage_14 : decode cX8_setMessage 14 = .ok (.iastore, 1) := by decide +kernel
theorem dX8_setMessage_15 : decode cX8_setMessage 15 = .ok (.return_, 1) := by decide +kernel
theorem dX8_ones_0 : decode cX8_ones 0 = .ok (.iconst 0, 1) := by decide +kernel
theorem dX8_ones_1 : decode cX8_ones 1 = .ok (.istore_n 1, 1) := by decide +kernel
theorem dX8_ones_2 : decode cX8_ones 2 = .ok (.iconst 0, 1) := by decide +kernel
theorem dX8_ones_3 : decode cX8_ones 3 = .ok (.istore_n 2, 1) := by decide +kernel
theorem dX8_ones_4 : decode cX8_ones 4 = .ok (.iload_n 2, 1) := by decide +kernel
theorem dX8_ones_5 : decode cX8_ones 5 = .ok (.bipush 6, 2) := by decide +kernel
theorem dX8_ones_7 : decode cX8_ones 7 = .ok (.if_icmp .ge 17, 3) := by decide +kernel
theorem dX8_ones_10 : decode cX8_ones 10 = .ok (.iload_n 1, 1) := by decide +kernel
theorem dX8_ones_11 : decode cX8_ones 11 = .ok (.iload_n 0, 1) := by decide +kernel
theorem dX8_ones_12 : decode cX8_ones 12 = .ok (.iload_n 2, 1) := by decide +kernel
theorem dX8_ones_13 : decode cX8_ones 13 = .ok (.ishr, 1) := by decide +kernel
theorem dX8_ones_14 : decode cX8_ones 14 = .ok (.iconst 1, 1) := by decide +kernel
theorem dX8_ones_15 : decode cX8_ones 15 = .ok (.iand, 1) := by decide +kernel
theorem dX8_ones_16 : decode cX8_ones 16 = .ok (.iadd, 1) := by decide +kernel
theorem dX8_ones_17 : decode cX8_ones 17 = .ok (.istore_n 1, 1) := by decide +kernel
theorem dX8_ones_18 : decode cX8_ones 18 = .ok (.iinc 2 1, 3) := by decide +kernel
theorem dX8_ones_21 : decode cX8_ones 21 = .ok (.goto (-17), 3) := by decide +kernel
theorem dX8_ones_24 : decode cX8_ones 24 = .ok (.iload_n 1, 1) := by decide +kernel
theorem dX8_ones_25 : decode cX8_ones 25 = .ok (.ireturn, 1) := by decide +kernel
theorem dX8_save_0 : decode cX8_save 0 = .ok (.aload_n 0, 1) := by decide +kernel
theorem dX8_save_1 : decode cX8_save 1 = .ok (.getfield 36, 3) := by decide +kernel
theorem dX8_save_4 : decode cX8_save 4 = .ok (.bipush 6, 2) := by decide +kernel
theorem dX8_save_6 : decode cX8_save 6 = .ok (.if_icmp .ne 44, 3) := by decide +kernel
theorem dX8_save_9 : decode cX8_save 9 = .ok (.iconst 0, 1) := by decide +kernel
theorem dX8_save_10 : decode cX8_save 10 = .ok (.istore_n 1, 1) := by decide +kernel
theorem dX8_save_11 : decode cX8_save 11 = .ok (.iload_n 1, 1) := by decide +kernel
theorem dX8_save_12 : decode cX8_save 12 = .ok (.sipush 1335, 3) := by decide +kernel
theorem dX8_save_15 : decode cX8_save 15 = .ok (.if_icmp .ge 25, 3) := by decide +kernel
theorem dX8_save_18 : decode cX8_save 18 = .ok (.aload_n 0, 1) := by decide +kernel
theorem dX8_save_19 : decode cX8_save 19 = .ok (.getfield 13, 3) := by decide +kernel
theorem dX8_save_22 : decode cX8_save 22 = .ok (.iload_n 1, 1) := by decide +kernel
theorem dX8_save_23 : decode cX8_save 23 = .ok (.aload_n 0, 1) := by decide +kernel
theorem dX8_save_24 : decode cX8_save 24 = .ok (.getfield 13, 3) := by decide +kernel
theorem dX8_save_27 : decode cX8_save 27 = .ok (.iload_n 1, 1) := by decide +kernel
theorem dX8_save_28 : decode cX8_save 28 = .ok (.sipush 267, 3) := by decide +kernel
theorem dX8_save_31 : decode cX8_save 31 = .ok (.iadd, 1) := by decide +kernel
theorem dX8_save_32 : decode cX8_save 32 = .ok (.iaload, 1) := by decide +kernel
theorem dX8_save_33 : decode cX8_save 33 = .ok (.iastore, 1) := by decide +kernel
theorem dX8_save_34 : decode cX8_save 34 = .ok (.iinc 1 1, 3) := by decide +kernel
theorem dX8_save_37 : decode cX8_save 37 = .ok (.goto (-26), 3) := by decide +kernel
theorem dX8_save_40 : decode cX8_save 40 = .ok (.aload_n 0, 1) := by decide +kernel
theorem dX8_save_41 : decode cX8_save 41 = .ok (.dup, 1) := by decide +kernel
theorem dX8_save_42 : decode cX8_save 42 = .ok (.getfield 36, 3) := by decide +kernel
theorem dX8_save_45 : decode cX8_save 45 = .ok (.iconst 1, 1) := by decide +kernel
theorem dX8_save_46 : decode cX8_save 46 = .ok (.isub, 1) := by decide +kernel
theorem dX8_save_47 : decode cX8_save 47 = .ok (.putfield 36, 3) := by decide +kernel
theorem dX8_save_50 : decode cX8_save 50 = .ok (.iconst 0, 1) := by decide +kernel
theorem dX8_save_51 : decode cX8_save 51 = .ok (.istore_n 1, 1) := by decide +kernel
theorem dX8_save_52 : decode cX8_save 52 = .ok (.iload_n 1, 1) := by decide +kernel
theorem dX8_save_53 : decode cX8_save 53 = .ok (.sipush 267, 3) := by decide +kernel
theorem dX8_save_56 : decode cX8_save 56 = .ok (.if_icmp .ge 30, 3) := by decide +kernel
theorem dX8_save_59 : decode cX8_save 59 = .ok (.aload_n 0, 1) := by decide +kernel
theorem dX8_save_60 : decode cX8_save 60 = .ok (.getfield 13, 3) := by decide +kernel
theorem dX8_save_63 : decode cX8_save 63 = .ok (.aload_n 0, 1) := by decide +kernel
theorem dX8_save_64 : decode cX8_save 64 = .ok (.getfield 36, 3) := by decide +kernel
theorem dX8_save_67 : decode cX8_save 67 = .ok (.sipush 267, 3) := by decide +kernel
theorem dX8_save_70 : decode cX8_save 70 = .ok (.imul, 1) := by decide +kernel
theorem dX8_save_71 : decode cX8_save 71 = .ok (.iload_n 1, 1) := by decide +kernel
theorem dX8_save_72 : decode cX8_save 72 = .ok (.iadd, 1) := by decide +kernel
theorem dX8_save_73 : decode cX8_save 73 = .ok (.aload_n 0, 1) := by decide +kernel
theorem dX8_save_74 : decode cX8_save 74 = .ok (.getfield 7, 3) := by decide +kernel
theorem dX8_save_77 : decode cX8_save 77 = .ok (.iload_n 1, 1) := by decide +kernel
theorem dX8_save_78 : decode cX8_save 78 = .ok (.iaload, 1) := by decide +kernel
theorem dX8_save_79 : decode cX8_save 79 = .ok (.iastore, 1) := by decide +kernel
theorem dX8_save_80 : decode cX8_save 80 = .ok (.iinc 1 1, 3) := by decide +kernel
