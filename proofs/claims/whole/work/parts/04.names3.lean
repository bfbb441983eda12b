theorem dX8_save_83 : decode cX8_save 83 = .ok (.goto (-31), 3) := by decide +kernel
theorem dX8_save_86 : decode cX8_save 86 = .ok (.aload_n 0, 1) := by decide +kernel
theorem dX8_save_87 : decode cX8_save 87 = .ok (.dup, 1) := by decide +kernel
theorem dX8_save_88 : decode cX8_save 88 = .ok (.getfield 36, 3) := by decide +kernel
theorem dX8_save_91 : decode cX8_save 91 = .ok (.iconst 1, 1) := by decide +kernel
theorem dX8_save_92 : decode cX8_save 92 = .ok (.iadd, 1) := by decide +kernel
theorem dX8_save_93 : decode cX8_save 93 = .ok (.putfield 36, 3) := by decide +kernel
theorem dX8_save_96 : decode cX8_save 96 = .ok (.return_, 1) := by decide +kernel
set_option maxRecDepth 20000 in
theorem ggX8_undo_X8_fails : GoodIn wsX8_undo wsX8_fails := goodIn_r _ [9, 1, 10, 11, 12, 13, 14, 15, 16, 17, 18, 19, 20, 21, 22, 23, 24, 25] (by decide +kernel) (by decide +kernel)
set_option maxRecDepth 20000 in
theorem gX8_undo_X8_fails : GoodIn wsX8_undo (wsV RX8 39 RX8 yX8_fails wsX8_fails) := goodIn_app (goodIn_of _ (by decide +kernel)) ggX8_undo_X8_fails
theorem dX8_undo_0 : decode cX8_undo 0 = .ok (.aload_n 0, 1) := by decide +kernel
theorem dX8_undo_1 : decode cX8_undo 1 = .ok (.iconst 0, 1) := by decide +kernel
theorem dX8_undo_2 : decode cX8_undo 2 = .ok (.putfield 28, 3) := by decide +kernel
theorem dX8_undo_5 : decode cX8_undo 5 = .ok (.aload_n 0, 1) := by decide +kernel
theorem dX8_undo_6 : decode cX8_undo 6 = .ok (.getfield 36, 3) := by decide +kernel
theorem dX8_undo_9 : decode cX8_undo 9 = .ok (.ifCond .ne 9, 3) := by decide +kernel
theorem dX8_undo_12 : decode cX8_undo 12 = .ok (.aload_n 0, 1) := by decide +kernel
theorem dX8_undo_13 : decode cX8_undo 13 = .ok (.iconst 1, 1) := by decide +kernel
theorem dX8_undo_14 : decode cX8_undo 14 = .ok (.invokevirtual 39, 3) := by decide +kernel
theorem dX8_undo_17 : decode cX8_undo 17 = .ok (.ireturn, 1) := by decide +kernel
theorem dX8_undo_18 : decode cX8_undo 18 = .ok (.aload_n 0, 1) := by decide +kernel
theorem dX8_undo_19 : decode cX8_undo 19 = .ok (.dup, 1) := by decide +kernel
theorem dX8_undo_20 : decode cX8_undo 20 = .ok (.getfield 36, 3) := by decide +kernel
theorem dX8_undo_23 : decode cX8_undo 23 = .ok (.iconst 1, 1) := by decide +kernel
theorem dX8_undo_24 : decode cX8_undo 24 = .ok (.isub, 1) := by decide +kernel
theorem dX8_undo_25 : decode cX8_undo 25 = .ok (.putfield 36, 3) := by decide +kernel
theorem dX8_undo_28 : decode cX8_undo 28 = .ok (.iconst 0, 1) := by decide +kernel
theorem dX8_undo_29 : decode cX8_undo 29 = .ok (.istore_n 1, 1) := by decide +kernel
theorem dX8_undo_30 : decode cX8_undo 30 = .ok (.iload_n 1, 1) := by decide +kernel
theorem dX8_undo_31 : decode cX8_undo 31 = .ok (.sipush 267, 3) := by decide +kernel
theorem dX8_undo_34 : decode cX8_undo 34 = .ok (.if_icmp .ge 30, 3) := by decide +kernel
theorem dX8_undo_37 : decode cX8_undo 37 = .ok (.aload_n 0, 1) := by decide +kernel
theorem dX8_undo_38 : decode cX8_undo 38 = .ok (.getfield 7, 3) := by decide +kernel
theorem dX8_undo_41 : decode cX8_undo 41 = .ok (.iload_n 1, 1) := by decide +kernel
theorem dX8_undo_42 : decode cX8_undo 42 = .ok (.aload_n 0, 1) := by decide +kernel
theorem dX8_undo_43 : decode cX8_undo 43 = .ok (.getfield 13, 3) := by decide +kernel
theorem dX8_undo_46 : decode cX8_undo 46 = .ok (.aload_n 0, 1) := by decide +kernel
theorem dX8_undo_47 : decode cX8_undo 47 = .ok (.getfield 36, 3) := by decide +kernel
theorem dX8_undo_50 : decode cX8_undo 50 = .ok (.sipush 267, 3) := by decide +kernel
theorem dX8_undo_53 : decode cX8_undo 53 = .ok (.imul, 1) := by decide +kernel
theorem dX8_undo_54 : decode cX8_undo 54 = .ok (.iload_n 1, 1) := by decide +kernel
theorem dX8_undo_55 : decode cX8_undo 55 = .ok (.iadd, 1) := by decide +kernel
theorem dX8_undo_56 : decode cX8_undo 56 = .ok (.iaload, 1) := by decide +kernel
theorem dX8_undo_57 : decode cX8_undo 57 = .ok (.iastore, 1) := by decide +kernel
theorem dX8_undo_58 : decode cX8_undo 58 = .ok (.iinc 1 1, 3) := by decide +kernel
theorem dX8_undo_61 : decode cX8_undo 61 = .ok (.goto (-31), 3) := by decide +kernel
theorem dX8_undo_64 : decode cX8_undo 64 = .ok (.aload_n 0, 1) := by decide +kernel
theorem dX8_undo_65 : decode cX8_undo 65 = .ok (.getfield 36, 3) := by decide +kernel
theorem dX8_undo_68 : decode cX8_undo 68 = .ok (.ireturn, 1) := by decide +kernel
theorem dX8_keep_0 : decode cX8_keep 0 = .ok (.aload_n 0, 1) := by decide +kernel
theorem dX8_keep_1 : decode cX8_keep 1 = .ok (.iconst 0, 1) := by decide +kernel
theorem dX8_keep_2 : decode cX8_keep 2 = .ok (.putfield 28, 3) := by decide +kernel
theorem dX8_keep_5 : decode cX8_keep 5 = .ok (.iconst 0, 1) := by decide +kernel
theorem dX8_keep_6 : decode cX8_keep 6 = .ok (.istore_n 1, 1) := by decide +kernel
theorem dX8_keep_7 : decode cX8_keep 7 = .ok (.iload_n 1, 1) := by decide +kernel
theorem dX8_keep_8 : decode cX8_keep 8 = .ok (.sipush 267, 3) := by decide +kernel
theorem dX8_keep_11 : decode cX8_keep 11 = .ok (.if_icmp .ge 21, 3) := by decide +kernel
theorem dX8_keep_14 : decode cX8_keep 14 = .ok (.aload_n 0, 1) := by decide +kernel
theorem dX8_keep_15 : decode cX8_keep 15 = .ok (.getfield 16, 3) := by decide +kernel
theorem dX8_keep_18 : decode cX8_keep 18 = .ok (.iload_n 1, 1) := by decide +kernel
theorem dX8_keep_19 : decode cX8_keep 19 = .ok (.aload_n 0, 1) := by decide +kernel
theorem dX8_keep_20 : decode cX8_keep 20 = .ok (.getfield 7, 3) := by decide +kernel
theorem dX8_keep_23 : decode cX8_keep 23 = .ok (.iload_n 1, 1) := by decide +kernel
theorem dX8_keep_24 : decode cX8_keep 24 = .ok (.iaload, 1) := by decide +kernel
theorem dX8_keep_25 : decode cX8_keep 25 = .ok (.iastore, 1) := by decide +kernel
theorem dX8_keep_26 : decode cX8_keep 26 = .ok (.iinc 1 1, 3) := by decide +kernel
theorem dX8_keep_29 : decode cX8_keep 29 = .ok (.goto (-22), 3) := by decide +kernel
theorem dX8_keep_32 : decode cX8_keep 32 = .ok (.aload_n 0, 1) := by decide +kernel
theorem dX8_keep_33 : decode cX8_keep 33 = .ok (.iconst 1, 1) := by decide +kernel
theorem dX8_keep_34 : decode cX8_keep 34 = .ok (.putfield 43, 3) := by decide +kernel
theorem dX8_keep_37 : decode cX8_keep 37 = .ok (.aload_n 0, 1) := by decide +kernel
theorem dX8_keep_38 : decode cX8_keep 38 = .ok (.getfield 7, 3) := by decide +kernel
theorem dX8_keep_41 : decode cX8_keep 41 = .ok (.iconst 0, 1) := by decide +kernel
theorem dX8_keep_42 : decode cX8_keep 42 = .ok (.iaload, 1) := by decide +kernel
theorem dX8_keep_43 : decode cX8_keep 43 = .ok (.ireturn, 1) := by decide +kernel
set_option maxRecDepth 20000 in
theorem ggX8_restore_X8_fails : GoodIn wsX8_restore wsX8_fails := goodIn_r _ [9, 1, 16, 17, 18, 19, 20, 21, 22, 23, 24, 25, 26, 27, 28, 29, 30, 31] (by decide +kernel) (by decide +kernel)
set_option maxRecDepth 20000 in
theorem gX8_restore_X8_fails : GoodIn wsX8_restore (wsV RX8 39 RX8 yX8_fails wsX8_fails) := goodIn_app (goodIn_of _ (by decide +kernel)) ggX8_restore_X8_fails
set_option maxRecDepth 20000 in
theorem ggX8_restore_X8_save : GoodIn wsX8_restore wsX8_save := goodIn_r _ [13, 14, 15, 3, 16, 17, 18, 19, 20, 21, 22, 23, 24, 25, 26, 27, 28, 29, 30, 31] (by decide +kernel) (by decide +kernel)
set_option maxRecDepth 20000 in
theorem gX8_restore_X8_save : GoodIn wsX8_restore (wsV RX8 47 RX8 yX8_save wsX8_save) := goodIn_app (goodIn_of _ (by decide +kernel)) ggX8_restore_X8_save
theorem dX8_restore_0 : decode cX8_restore 0 = .ok (.aload_n 0, 1) := by decide +kernel
theorem dX8_restore_1 : decode cX8_restore 1 = .ok (.iconst 0, 1) := by decide +kernel
theorem dX8_restore_2 : decode cX8_restore 2 = .ok (.putfield 28, 3) := by decide +kernel
theorem dX8_restore_5 : decode cX8_restore 5 = .ok (.aload_n 0, 1) := by decide +kernel
theorem dX8_restore_6 : decode cX8_restore 6 = .ok (.getfield 43, 3) := by decide +kernel
theorem dX8_restore_9 : decode cX8_restore 9 = .ok (.ifCond .ne 9, 3) := by decide +kernel
theorem dX8_restore_12 : decode cX8_restore 12 = .ok (.aload_n 0, 1) := by decide +kernel
theorem dX8_restore_13 : decode cX8_restore 13 = .ok (.iconst 1, 1) := by decide +kernel
theorem dX8_restore_14 : decode cX8_restore 14 = .ok (.invokevirtual 39, 3) := by decide +kernel
theorem dX8_restore_17 : decode cX8_restore 17 = .ok (.ireturn, 1) := by decide +kernel
theorem dX8_restore_18 : decode cX8_restore 18 = .ok (.aload_n 0, 1) := by decide +kernel
theorem dX8_restore_19 : decode cX8_restore 19 = .ok (.invokevirtual 47, 3) := by decide +kernel
theorem dX8_restore_22 : decode cX8_restore 22 = .ok (.iconst 0, 1) := by decide +kernel
theorem dX8_restore_23 : decode cX8_restore 23 = .ok (.istore_n 1, 1) := by decide +kernel
theorem dX8_restore_24 : decode cX8_restore 24 = .ok (.iload_n 1, 1) := by decide +kernel
theorem dX8_restore_25 : decode cX8_restore 25 = .ok (.sipush 267, 3) := by decide +kernel
theorem dX8_restore_28 : decode cX8_restore 28 = .ok (.if_icmp .ge 21, 3) := by decide +kernel
theorem dX8_restore_31 : decode cX8_restore 31 = .ok (.aload_n 0, 1) := by decide +kernel
theorem dX8_restore_32 : decode cX8_restore 32 = .ok (.getfield 7, 3) := by decide +kernel
theorem dX8_restore_35 : decode cX8_restore 35 = .ok (.iload_n 1, 1) := by decide +kernel
theorem dX8_restore_36 : decode cX8_restore 36 = .ok (.aload_n 0, 1) := by decide +kernel
theorem dX8_restore_37 : decode cX8_restore 37 = .ok (.getfield 16, 3) := by decide +kernel
theorem dX8_restore_40 : decode cX8_restore 40 = .ok (.iload_n 1, 1) := by decide +kernel
theorem dX8_restore_41 : decode cX8_restore 41 = .ok (.iaload, 1) := by decide +kernel
theorem dX8_restore_42 : decode cX8_restore 42 = .ok (.iastore, 1) := by decide +kernel
theorem dX8_restore_43 : decode cX8_restore 43 = .ok (.iinc 1 1, 3) := by decide +kernel
theorem dX8_restore_46 : decode cX8_restore 46 = .ok (.goto (-22), 3) := by decide +kernel
theorem dX8_restore_49 : decode cX8_restore 49 = .ok (.aload_n 0, 1) := by decide +kernel
theorem dX8_restore_50 : decode cX8_restore 50 = .ok (.getfield 7, 3) := by decide +kernel
theorem dX8_restore_53 : decode cX8_restore 53 = .ok (.iconst 0, 1) := by decide +kernel
theorem dX8_restore_54 : decode cX8_restore 54 = .ok (.iaload, 1) := by decide +kernel
theorem dX8_restore_55 : decode cX8_restore 55 = .ok (.ireturn, 1) := by decide +kernel
theorem dX8_next_0 : decode cX8_next 0 = .ok (.aload_n 0, 1) := by decide +kernel
theorem dX8_next_1 : decode cX8_next 1 = .ok (.getfield 50, 3) := by decide +kernel
theorem dX8_next_4 : decode cX8_next 4 = .ok (.aload_n 0, 1) := by decide +kernel
theorem dX8_next_5 : decode cX8_next 5 = .ok (.getfield 53, 3) := by decide +kernel
theorem dX8_next_8 : decode cX8_next 8 = .ok (.if_icmp .ge 15, 3) := by decide +kernel
theorem dX8_next_11 : decode cX8_next 11 = .ok (.aload_n 0, 1) := by decide +kernel
theorem dX8_next_12 : decode cX8_next 12 = .ok (.getfield 19, 3) := by decide +kernel
theorem dX8_next_15 : decode cX8_next 15 = .ok (.aload_n 0, 1) := by decide +kernel
theorem dX8_next_16 : decode cX8_next 16 = .ok (.getfield 50, 3) := by decide +kernel
theorem dX8_next_19 : decode cX8_next 19 = .ok (.iaload, 1) := by decide +kernel
theorem dX8_next_20 : decode cX8_next 20 = .ok (.goto 4, 3) := by decide +kernel
theorem dX8_next_23 : decode cX8_next 23 = .ok (.iconst 0, 1) := by decide +kernel
theorem dX8_next_24 : decode cX8_next 24 = .ok (.ireturn, 1) := by decide +kernel
set_option maxRecDepth 20000 in
theorem ggX8_takes_X8_next : GoodIn wsX8_takes wsX8_next := goodIn_r _ [6, 1, 7, 8, 9, 10, 11, 12, 13, 14, 15, 16, 17, 18, 19, 20, 21, 22, 23, 24] (by decide +kernel) (by decide +kernel)
set_option maxRecDepth 20000 in
theorem gX8_takes_X8_next : GoodIn wsX8_takes (wsV RX8 56 RX8 yX8_next wsX8_next) := goodIn_app (goodIn_of _ (by decide +kernel)) ggX8_takes_X8_next
theorem dX8_takes_0 : decode cX8_takes 0 = .ok (.aload_n 0, 1) := by decide +kernel
theorem dX8_takes_1 : decode cX8_takes 1 = .ok (.invokevirtual 56, 3) := by decide +kernel
theorem dX8_takes_4 : decode cX8_takes 4 = .ok (.iload_n 1, 1) := by decide +kernel
theorem dX8_takes_5 : decode cX8_takes 5 = .ok (.if_icmp .ne 7, 3) := by decide +kernel
theorem dX8_takes_8 : decode cX8_takes 8 = .ok (.iconst 1, 1) := by decide +kernel
theorem dX8_takes_9 : decode cX8_takes 9 = .ok (.goto 4, 3) := by decide +kernel
theorem dX8_takes_12 : decode cX8_takes 12 = .ok (.iconst 0, 1) := by decide +kernel
theorem dX8_takes_13 : decode cX8_takes 13 = .ok (.istore_n 2, 1) := by decide +kernel
theorem dX8_takes_14 : decode cX8_takes 14 = .ok (.aload_n 0, 1) := by decide +kernel
theorem dX8_takes_15 : decode cX8_takes 15 = .ok (.dup, 1) := by decide +kernel
theorem dX8_takes_16 : decode cX8_takes 16 = .ok (.getfield 50, 3) := by decide +kernel
theorem dX8_takes_19 : decode cX8_takes 19 = .ok (.iload_n 2, 1) := by decide +kernel
theorem dX8_takes_20 : decode cX8_takes 20 = .ok (.ifCond .eq 7, 3) := by decide +kernel
theorem dX8_takes_23 : decode cX8_takes 23 = .ok (.iconst 1, 1) := by decide +kernel
theorem dX8_takes_24 : decode cX8_takes 24 = .ok (.goto 4, 3) := by decide +kernel
theorem dX8_takes_27 : decode cX8_takes 27 = .ok (.iconst 0, 1) := by decide +kernel
theorem dX8_takes_28 : decode cX8_takes 28 = .ok (.iadd, 1) := by decide +kernel
theorem dX8_takes_29 : decode cX8_takes 29 = .ok (.putfield 50, 3) := by decide +kernel
theorem dX8_takes_32 : decode cX8_takes 32 = .ok (.iload_n 2, 1) := by decide +kernel
theorem dX8_takes_33 : decode cX8_takes 33 = .ok (.ireturn, 1) := by decide +kernel
theorem dX8_noteOf_0 : decode cX8_noteOf 0 = .ok (.iload_n 0, 1) := by decide +kernel
theorem dX8_noteOf_1 : decode cX8_noteOf 1 = .ok (.tableswitch 62 97 104 #[57, 62, 47, 49, 51, 53, 55, 59], 47) := by decide +kernel
theorem dX8_noteOf_48 : decode cX8_noteOf 48 = .ok (.iconst 0, 1) := by decide +kernel
theorem dX8_noteOf_49 : decode cX8_noteOf 49 = .ok (.ireturn, 1) := by decide +kernel
theorem dX8_noteOf_50 : decode cX8_noteOf 50 = .ok (.iconst 1, 1) := by decide +kernel
theorem dX8_noteOf_51 : decode cX8_noteOf 51 = .ok (.ireturn, 1) := by decide +kernel
theorem dX8_noteOf_52 : decode cX8_noteOf 52 = .ok (.iconst 2, 1) := by decide +kernel
theorem dX8_noteOf_53 : decode cX8_noteOf 53 = .ok (.ireturn, 1) := by decide +kernel
theorem dX8_noteOf_54 : decode cX8_noteOf 54 = .ok (.iconst 3, 1) := by decide +kernel
theorem dX8_noteOf_55 : decode cX8_noteOf 55 = .ok (.ireturn, 1) := by decide +kernel
theorem dX8_noteOf_56 : decode cX8_noteOf 56 = .ok (.iconst 4, 1) := by decide +kernel
theorem dX8_noteOf_57 : decode cX8_noteOf 57 = .ok (.ireturn, 1) := by decide +kernel
theorem dX8_noteOf_58 : decode cX8_noteOf 58 = .ok (.iconst 5, 1) := by decide +kernel
theorem dX8_noteOf_59 : decode cX8_noteOf 59 = .ok (.ireturn, 1) := by decide +kernel
theorem dX8_noteOf_60 : decode cX8_noteOf 60 = .ok (.bipush 6, 2) := by decide +kernel
theorem dX8_noteOf_62 : decode cX8_noteOf 62 = .ok (.ireturn, 1) := by decide +kernel
theorem dX8_noteOf_63 : decode cX8_noteOf 63 = .ok (.iconst (-1), 1) := by decide +kernel
theorem dX8_noteOf_64 : decode cX8_noteOf 64 = .ok (.ireturn, 1) := by decide +kernel
theorem dX8_addNote_0 : decode cX8_addNote 0 = .ok (.aload_n 0, 1) := by decide +kernel
theorem dX8_addNote_1 : decode cX8_addNote 1 = .ok (.getfield 60, 3) := by decide +kernel
theorem dX8_addNote_4 : decode cX8_addNote 4 = .ok (.bipush 8, 2) := by decide +kernel
theorem dX8_addNote_6 : decode cX8_addNote 6 = .ok (.if_icmp .ge 13, 3) := by decide +kernel
theorem dX8_addNote_9 : decode cX8_addNote 9 = .ok (.aload_n 0, 1) := by decide +kernel
theorem dX8_addNote_10 : decode cX8_addNote 10 = .ok (.getfield 22, 3) := by decide +kernel
theorem dX8_addNote_13 : decode cX8_addNote 13 = .ok (.aload_n 0, 1) := by decide +kernel
theorem dX8_addNote_14 : decode cX8_addNote 14 = .ok (.getfield 60, 3) := by decide +kernel
theorem dX8_addNote_17 : decode cX8_addNote 17 = .ok (.iload_n 1, 1) := by decide +kernel
theorem dX8_addNote_18 : decode cX8_addNote 18 = .ok (.iastore, 1) := by decide +kernel
theorem dX8_addNote_19 : decode cX8_addNote 19 = .ok (.aload_n 0, 1) := by decide +kernel
theorem dX8_addNote_20 : decode cX8_addNote 20 = .ok (.dup, 1) := by decide +kernel
theorem dX8_addNote_21 : decode cX8_addNote 21 = .ok (.getfield 60, 3) := by decide +kernel
theorem dX8_addNote_24 : decode cX8_addNote 24 = .ok (.aload_n 0, 1) := by decide +kernel
theorem dX8_addNote_25 : decode cX8_addNote 25 = .ok (.getfield 60, 3) := by decide +kernel
theorem dX8_addNote_28 : decode cX8_addNote 28 = .ok (.bipush 8, 2) := by decide +kernel
theorem dX8_addNote_30 : decode cX8_addNote 30 = .ok (.if_icmp .le 7, 3) := by decide +kernel
theorem dX8_addNote_33 : decode cX8_addNote 33 = .ok (.iconst 0, 1) := by decide +kernel
theorem dX8_addNote_34 : decode cX8_addNote 34 = .ok (.goto 4, 3) := by decide +kernel
theorem dX8_addNote_37 : decode cX8_addNote 37 = .ok (.iconst 1, 1) := by decide +kernel
theorem dX8_addNote_38 : decode cX8_addNote 38 = .ok (.iadd, 1) := by decide +kernel
theorem dX8_addNote_39 : decode cX8_addNote 39 = .ok (.putfield 60, 3) := by decide +kernel
theorem dX8_addNote_42 : decode cX8_addNote 42 = .ok (.return_, 1) := by decide +kernel
set_option maxRecDepth 20000 in
theorem ggX8_repeat_X8_addNote : GoodIn wsX8_repeat wsX8_addNote := goodIn_r _ [7, 1, 2, 8, 9, 10, 11, 12, 13, 14, 15, 16, 17, 18, 19, 20, 21, 22, 23] (by decide +kernel) (by decide +kernel)
set_option maxRecDepth 20000 in
theorem gX8_repeat_X8_addNote : GoodIn wsX8_repeat (wsV RX8 63 RX8 yX8_addNote wsX8_addNote) := goodIn_app (goodIn_of _ (by decide +kernel)) ggX8_repeat_X8_addNote
theorem dX8_repeat_0 : decode cX8_repeat 0 = .ok (.aload_n 0, 1) := by decide +kernel
theorem dX8_repeat_1 : decode cX8_repeat 1 = .ok (.getfield 60, 3) := by decide +kernel
theorem dX8_repeat_4 : decode cX8_repeat 4 = .ok (.iload_n 1, 1) := by decide +kernel
theorem dX8_repeat_5 : decode cX8_repeat 5 = .ok (.isub, 1) := by decide +kernel
theorem dX8_repeat_6 : decode cX8_repeat 6 = .ok (.iload_n 2, 1) := by decide +kernel
theorem dX8_repeat_7 : decode cX8_repeat 7 = .ok (.iconst 1, 1) := by decide +kernel
theorem dX8_repeat_8 : decode cX8_repeat 8 = .ok (.isub, 1) := by decide +kernel
theorem dX8_repeat_9 : decode cX8_repeat 9 = .ok (.imul, 1) := by decide +kernel
theorem dX8_repeat_10 : decode cX8_repeat 10 = .ok (.istore_n 3, 1) := by decide +kernel
theorem dX8_repeat_11 : decode cX8_repeat 11 = .ok (.iconst 0, 1) := by decide +kernel
theorem dX8_repeat_12 : decode cX8_repeat 12 = .ok (.istore 4, 2) := by decide +kernel
theorem dX8_repeat_14 : decode cX8_repeat 14 = .ok (.iload 4, 2) := by decide +kernel
theorem dX8_repeat_16 : decode cX8_repeat 16 = .ok (.iload_n 3, 1) := by decide +kernel
theorem dX8_repeat_17 : decode cX8_repeat 17 = .ok (.if_icmp .ge 44, 3) := by decide +kernel
theorem dX8_repeat_20 : decode cX8_repeat 20 = .ok (.aload_n 0, 1) := by decide +kernel
theorem dX8_repeat_21 : decode cX8_repeat 21 = .ok (.getfield 60, 3) := by decide +kernel
theorem dX8_repeat_24 : decode cX8_repeat 24 = .ok (.bipush 8, 2) := by decide +kernel
theorem dX8_repeat_26 : decode cX8_repeat 26 = .ok (.if_icmp .gt 35, 3) := by decide +kernel
theorem dX8_repeat_29 : decode cX8_repeat 29 = .ok (.aload_n 0, 1) := by decide +kernel
theorem dX8_repeat_30 : decode cX8_repeat 30 = .ok (.iload_n 1, 1) := by decide +kernel
theorem dX8_repeat_31 : decode cX8_repeat 31 = .ok (.iload 4, 2) := by decide +kernel
theorem dX8_repeat_33 : decode cX8_repeat 33 = .ok (.iadd, 1) := by decide +kernel
theorem dX8_repeat_34 : decode cX8_repeat 34 = .ok (.bipush 8, 2) := by decide +kernel
theorem dX8_repeat_36 : decode cX8_repeat 36 = .ok (.if_icmp .ge 15, 3) := by decide +kernel
theorem dX8_repeat_39 : decode cX8_repeat 39 = .ok (.aload_n 0, 1) := by decide +kernel
theorem dX8_repeat_40 : decode cX8_repeat 40 = .ok (.getfield 22, 3) := by decide +kernel
theorem dX8_repeat_43 : decode cX8_repeat 43 = .ok (.iload_n 1, 1) := by decide +kernel
theorem dX8_repeat_44 : decode cX8_repeat 44 = .ok (.iload 4, 2) := by decide +kernel
theorem dX8_repeat_46 : decode cX8_repeat 46 = .ok (.iadd, 1) := by decide +kernel
theorem dX8_repeat_47 : decode cX8_repeat 47 = .ok (.iaload, 1) := by decide +kernel
theorem dX8_repeat_48 : decode cX8_repeat 48 = .ok (.goto 4, 3) := by decide +kernel
theorem dX8_repeat_51 : decode cX8_repeat 51 = .ok (.iconst 0, 1) := by decide +kernel
theorem dX8_repeat_52 : decode cX8_repeat 52 = .ok (.invokevirtual 63, 3) := by decide +kernel
theorem dX8_repeat_55 : decode cX8_repeat 55 = .ok (.iinc 4 1, 3) := by decide +kernel
theorem dX8_repeat_58 : decode cX8_repeat 58 = .ok (.goto (-44), 3) := by decide +kernel
theorem dX8_repeat_61 : decode cX8_repeat 61 = .ok (.return_, 1) := by decide +kernel
set_option maxRecDepth 20000 in
theorem ggX8_readsTune_X8_next : GoodIn wsX8_readsTune wsX8_next := goodIn_r _ [8, 2, 9, 10, 26, 27, 28, 29, 30, 31, 32, 33, 34, 35, 36, 37, 38, 39, 40, 41] (by decide +kernel) (by decide +kernel)
set_option maxRecDepth 20000 in
theorem gX8_readsTune_X8_next : GoodIn wsX8_readsTune (wsV RX8 56 RX8 yX8_next wsX8_next) := goodIn_app (goodIn_of _ (by decide +kernel)) ggX8_readsTune_X8_next
set_option maxRecDepth 20000 in
theorem ggX8_readsTune_X8_noteOf : GoodIn wsX8_readsTune wsX8_noteOf := goodIn_r _ [13] (by decide +kernel) (by decide +kernel)
set_option maxRecDepth 20000 in
theorem gX8_readsTune_X8_noteOf : GoodIn wsX8_readsTune (va_wsS RX8 67 yX8_noteOf wsX8_noteOf) := goodIn_app (goodIn_of _ (by decide +kernel)) ggX8_readsTune_X8_noteOf
set_option maxRecDepth 20000 in
theorem ggX8_readsTune_X8_addNote : GoodIn wsX8_readsTune wsX8_addNote := goodIn_r _ [17, 1, 18, 26, 27, 28, 29, 30, 31, 32, 33, 34, 35, 36, 37, 38, 39, 40, 41] (by decide +kernel) (by decide +kernel)
set_option maxRecDepth 20000 in
theorem gX8_readsTune_X8_addNote : GoodIn wsX8_readsTune (wsV RX8 63 RX8 yX8_addNote wsX8_addNote) := goodIn_app (goodIn_of _ (by decide +kernel)) ggX8_readsTune_X8_addNote
set_option maxRecDepth 20000 in
theorem ggX8_readsTune_X8_within : GoodIn wsX8_readsTune wsX8_within := goodIn_r _ [21] (by decide +kernel) (by decide +kernel)
set_option maxRecDepth 20000 in
theorem gX8_readsTune_X8_within : GoodIn wsX8_readsTune (va_wsS RX8 32 yX8_within wsX8_within) := goodIn_app (goodIn_of _ (by decide +kernel)) ggX8_readsTune_X8_within
set_option maxRecDepth 20000 in
theorem ggX8_readsTune_X8_repeat : GoodIn wsX8_readsTune wsX8_repeat := goodIn_r _ [25, 1, 18, 14, 15, 16, 7, 17, 26, 27, 28, 29, 30, 31, 32, 33, 34, 35, 36, 37, 38, 39, 40, 41] (by decide +kernel) (by decide +kernel)
set_option maxRecDepth 20000 in
theorem gX8_readsTune_X8_repeat : GoodIn wsX8_readsTune (wsV RX8 70 RX8 yX8_repeat wsX8_repeat) := goodIn_app (goodIn_of _ (by decide +kernel)) ggX8_readsTune_X8_repeat
theorem dX8_readsTune_0 : decode cX8_readsTune 0 = .ok (.aload_n 0, 1) := by decide +kernel
theorem dX8_readsTune_1 : decode cX8_readsTune 1 = .ok (.iconst 0, 1) := by decide +kernel
theorem dX8_readsTune_2 : decode cX8_readsTune 2 = .ok (.putfield 60, 3) := by decide +kernel
theorem dX8_readsTune_5 : decode cX8_readsTune 5 = .ok (.iconst 0, 1) := by decide +kernel
theorem dX8_readsTune_6 : decode cX8_readsTune 6 = .ok (.istore_n 1, 1) := by decide +kernel
theorem dX8_readsTune_7 : decode cX8_readsTune 7 = .ok (.iconst 1, 1) := by decide +kernel
theorem dX8_readsTune_8 : decode cX8_readsTune 8 = .ok (.istore_n 2, 1) := by decide +kernel
theorem dX8_readsTune_9 : decode cX8_readsTune 9 = .ok (.iconst 1, 1) := by decide +kernel
theorem dX8_readsTune_10 : decode cX8_readsTune 10 = .ok (.istore_n 3, 1) := by decide +kernel
theorem dX8_readsTune_11 : decode cX8_readsTune 11 = .ok (.iload_n 3, 1) := by decide +kernel
theorem dX8_readsTune_12 : decode cX8_readsTune 12 = .ok (.ifCond .eq 163, 3) := by decide +kernel
theorem dX8_readsTune_15 : decode cX8_readsTune 15 = .ok (.aload_n 0, 1) := by decide +kernel
theorem dX8_readsTune_16 : decode cX8_readsTune 16 = .ok (.invokevirtual 56, 3) := by decide +kernel
theorem dX8_readsTune_19 : decode cX8_readsTune 19 = .ok (.invokestatic 67, 3) := by decide +kernel
theorem dX8_readsTune_22 : decode cX8_readsTune 22 = .ok (.iconst (-1), 1) := by decide +kernel
theorem dX8_readsTune_23 : decode cX8_readsTune 23 = .ok (.if_icmp .eq 29, 3) := by decide +kernel
theorem dX8_readsTune_26 : decode cX8_readsTune 26 = .ok (.aload_n 0, 1) := by decide +kernel
theorem dX8_readsTune_27 : decode cX8_readsTune 27 = .ok (.aload_n 0, 1) := by decide +kernel
theorem dX8_readsTune_28 : decode cX8_readsTune 28 = .ok (.invokevirtual 56, 3) := by decide +kernel
theorem dX8_readsTune_31 : decode cX8_readsTune 31 = .ok (.invokestatic 67, 3) := by decide +kernel
theorem dX8_readsTune_34 : decode cX8_readsTune 34 = .ok (.invokevirtual 63, 3) := by decide +kernel
theorem dX8_readsTune_37 : decode cX8_readsTune 37 = .ok (.aload_n 0, 1) := by decide +kernel
theorem dX8_readsTune_38 : decode cX8_readsTune 38 = .ok (.dup, 1) := by decide +kernel
theorem dX8_readsTune_39 : decode cX8_readsTune 39 = .ok (.getfield 50, 3) := by decide +kernel
theorem dX8_readsTune_42 : decode cX8_readsTune 42 = .ok (.iconst 1, 1) := by decide +kernel
theorem dX8_readsTune_43 : decode cX8_readsTune 43 = .ok (.iadd, 1) := by decide +kernel
theorem dX8_readsTune_44 : decode cX8_readsTune 44 = .ok (.putfield 50, 3) := by decide +kernel
theorem dX8_readsTune_47 : decode cX8_readsTune 47 = .ok (.iconst 0, 1) := by decide +kernel
theorem dX8_readsTune_48 : decode cX8_readsTune 48 = .ok (.istore_n 2, 1) := by decide +kernel
theorem dX8_readsTune_49 : decode cX8_readsTune 49 = .ok (.goto (-38), 3) := by decide +kernel
theorem dX8_readsTune_52 : decode cX8_readsTune 52 = .ok (.aload_n 0, 1) := by decide +kernel
theorem dX8_readsTune_53 : decode cX8_readsTune 53 = .ok (.invokevirtual 56, 3) := by decide +kernel
theorem dX8_readsTune_56 : decode cX8_readsTune 56 = .ok (.bipush 40, 2) := by decide +kernel
theorem dX8_readsTune_58 : decode cX8_readsTune 58 = .ok (.if_icmp .ne 36, 3) := by decide +kernel
theorem dX8_readsTune_61 : decode cX8_readsTune 61 = .ok (.iload_n 1, 1) := by decide +kernel
theorem dX8_readsTune_62 : decode cX8_readsTune 62 = .ok (.iconst 3, 1) := by decide +kernel
theorem dX8_readsTune_63 : decode cX8_readsTune 63 = .ok (.if_icmp .ge 31, 3) := by decide +kernel
theorem dX8_readsTune_66 : decode cX8_readsTune 66 = .ok (.aload_n 0, 1) := by decide +kernel
theorem dX8_readsTune_67 : decode cX8_readsTune 67 = .ok (.getfield 25, 3) := by decide +kernel
theorem dX8_readsTune_70 : decode cX8_readsTune 70 = .ok (.iload_n 1, 1) := by decide +kernel
theorem dX8_readsTune_71 : decode cX8_readsTune 71 = .ok (.aload_n 0, 1) := by decide +kernel
theorem dX8_readsTune_72 : decode cX8_readsTune 72 = .ok (.getfield 60, 3) := by decide +kernel
theorem dX8_readsTune_75 : decode cX8_readsTune 75 = .ok (.iastore, 1) := by decide +kernel
theorem dX8_readsTune_76 : decode cX8_readsTune 76 = .ok (.iinc 1 1, 3) := by decide +kernel
theorem dX8_readsTune_79 : decode cX8_readsTune 79 = .ok (.aload_n 0, 1) := by decide +kernel
theorem dX8_readsTune_80 : decode cX8_readsTune 80 = .ok (.dup, 1) := by decide +kernel
theorem dX8_readsTune_81 : decode cX8_readsTune 81 = .ok (.getfield 50, 3) := by decide +kernel
theorem dX8_readsTune_84 : decode cX8_readsTune 84 = .ok (.iconst 1, 1) := by decide +kernel
theorem dX8_readsTune_85 : decode cX8_readsTune 85 = .ok (.iadd, 1) := by decide +kernel
theorem dX8_readsTune_86 : decode cX8_readsTune 86 = .ok (.putfield 50, 3) := by decide +kernel
theorem dX8_readsTune_89 : decode cX8_readsTune 89 = .ok (.iconst 1, 1) := by decide +kernel
theorem dX8_readsTune_90 : decode cX8_readsTune 90 = .ok (.istore_n 2, 1) := by decide +kernel
theorem dX8_readsTune_91 : decode cX8_readsTune 91 = .ok (.goto (-80), 3) := by decide +kernel
theorem dX8_readsTune_94 : decode cX8_readsTune 94 = .ok (.aload_n 0, 1) := by decide +kernel
theorem dX8_readsTune_95 : decode cX8_readsTune 95 = .ok (.invokevirtual 56, 3) := by decide +kernel
theorem dX8_readsTune_98 : decode cX8_readsTune 98 = .ok (.bipush 41, 2) := by decide +kernel
theorem dX8_readsTune_100 : decode cX8_readsTune 100 = .ok (.if_icmp .ne 70, 3) := by decide +kernel
theorem dX8_readsTune_103 : decode cX8_readsTune 103 = .ok (.iload_n 1, 1) := by decide +kernel
theorem dX8_readsTune_104 : decode cX8_readsTune 104 = .ok (.ifCond .le 66, 3) := by decide +kernel
theorem dX8_readsTune_107 : decode cX8_readsTune 107 = .ok (.iload_n 2, 1) := by decide +kernel
theorem dX8_readsTune_108 : decode cX8_readsTune 108 = .ok (.ifCond .ne 62, 3) := by decide +kernel
theorem dX8_readsTune_111 : decode cX8_readsTune 111 = .ok (.aload_n 0, 1) := by decide +kernel
theorem dX8_readsTune_112 : decode cX8_readsTune 112 = .ok (.dup, 1) := by decide +kernel
theorem dX8_readsTune_113 : decode cX8_readsTune 113 = .ok (.getfield 50, 3) := by decide +kernel
theorem dX8_readsTune_116 : decode cX8_readsTune 116 = .ok (.iconst 1, 1) := by decide +kernel
theorem dX8_readsTune_117 : decode cX8_readsTune 117 = .ok (.iadd, 1) := by decide +kernel
theorem dX8_readsTune_118 : decode cX8_readsTune 118 = .ok (.putfield 50, 3) := by decide +kernel
theorem dX8_readsTune_121 : decode cX8_readsTune 121 = .ok (.aload_n 0, 1) := by decide +kernel
theorem dX8_readsTune_122 : decode cX8_readsTune 122 = .ok (.invokevirtual 56, 3) := by decide +kernel
theorem dX8_readsTune_125 : decode cX8_readsTune 125 = .ok (.bipush 48, 2) := by decide +kernel
theorem dX8_readsTune_127 : decode cX8_readsTune 127 = .ok (.isub, 1) := by decide +kernel
theorem dX8_readsTune_128 : decode cX8_readsTune 128 = .ok (.istore 4, 2) := by decide +kernel
theorem dX8_readsTune_130 : decode cX8_readsTune 130 = .ok (.iload 4, 2) := by decide +kernel
theorem dX8_readsTune_132 : decode cX8_readsTune 132 = .ok (.iconst 2, 1) := by decide +kernel
theorem dX8_readsTune_133 : decode cX8_readsTune 133 = .ok (.iconst 3, 1) := by decide +kernel
theorem dX8_readsTune_134 : decode cX8_readsTune 134 = .ok (.invokestatic 32, 3) := by decide +kernel
theorem dX8_readsTune_137 : decode cX8_readsTune 137 = .ok (.ifCond .ne 5, 3) := by decide +kernel
theorem dX8_readsTune_140 : decode cX8_readsTune 140 = .ok (.iconst 0, 1) := by decide +kernel
theorem dX8_readsTune_141 : decode cX8_readsTune 141 = .ok (.ireturn, 1) := by decide +kernel
theorem dX8_readsTune_142 : decode cX8_readsTune 142 = .ok (.aload_n 0, 1) := by decide +kernel
theorem dX8_readsTune_143 : decode cX8_readsTune 143 = .ok (.dup, 1) := by decide +kernel
theorem dX8_readsTune_144 : decode cX8_readsTune 144 = .ok (.getfield 50, 3) := by decide +kernel
theorem dX8_readsTune_147 : decode cX8_readsTune 147 = .ok (.iconst 1, 1) := by decide +kernel
theorem dX8_readsTune_148 : decode cX8_readsTune 148 = .ok (.iadd, 1) := by decide +kernel
theorem dX8_readsTune_149 : decode cX8_readsTune 149 = .ok (.putfield 50, 3) := by decide +kernel
theorem dX8_readsTune_152 : decode cX8_readsTune 152 = .ok (.iinc 1 (-1), 3) := by decide +kernel
theorem dX8_readsTune_155 : decode cX8_readsTune 155 = .ok (.aload_n 0, 1) := by decide +kernel
theorem dX8_readsTune_156 : decode cX8_readsTune 156 = .ok (.aload_n 0, 1) := by decide +kernel
theorem dX8_readsTune_157 : decode cX8_readsTune 157 = .ok (.getfield 25, 3) := by decide +kernel
theorem dX8_readsTune_160 : decode cX8_readsTune 160 = .ok (.iload_n 1, 1) := by decide +kernel
theorem dX8_readsTune_161 : decode cX8_readsTune 161 = .ok (.iaload, 1) := by decide +kernel
theorem dX8_readsTune_162 : decode cX8_readsTune 162 = .ok (.iload 4, 2) := by decide +kernel
theorem dX8_readsTune_164 : decode cX8_readsTune 164 = .ok (.invokevirtual 70, 3) := by decide +kernel
theorem dX8_readsTune_167 : decode cX8_readsTune 167 = .ok (.goto (-156), 3) := by decide +kernel
theorem dX8_readsTune_170 : decode cX8_readsTune 170 = .ok (.iconst 0, 1) := by decide +kernel
theorem dX8_readsTune_171 : decode cX8_readsTune 171 = .ok (.istore_n 3, 1) := by decide +kernel
theorem dX8_readsTune_172 : decode cX8_readsTune 172 = .ok (.goto (-161), 3) := by decide +kernel
theorem dX8_readsTune_175 : decode cX8_readsTune 175 = .ok (.iload_n 2, 1) := by decide +kernel
theorem dX8_readsTune_176 : decode cX8_readsTune 176 = .ok (.ifCond .ne 11, 3) := by decide +kernel
theorem dX8_readsTune_179 : decode cX8_readsTune 179 = .ok (.iload_n 1, 1) := by decide +kernel
theorem dX8_readsTune_180 : decode cX8_readsTune 180 = .ok (.ifCond .ne 7, 3) := by decide +kernel
theorem dX8_readsTune_183 : decode cX8_readsTune 183 = .ok (.iconst 1, 1) := by decide +kernel
theorem dX8_readsTune_184 : decode cX8_readsTune 184 = .ok (.goto 4, 3) := by decide +kernel
theorem dX8_readsTune_187 : decode cX8_readsTune 187 = .ok (.iconst 0, 1) := by decide +kernel
theorem dX8_readsTune_188 : decode cX8_readsTune 188 = .ok (.ireturn, 1) := by decide +kernel
theorem dX8_shapeOfTune_0 : decode cX8_shapeOfTune 0 = .ok (.aload_n 0, 1) := by decide +kernel
theorem dX8_shapeOfTune_1 : decode cX8_shapeOfTune 1 = .ok (.getfield 22, 3) := by decide +kernel
theorem dX8_shapeOfTune_4 : decode cX8_shapeOfTune 4 = .ok (.iload_n 1, 1) := by decide +kernel
theorem dX8_shapeOfTune_5 : decode cX8_shapeOfTune 5 = .ok (.iaload, 1) := by decide +kernel
theorem dX8_shapeOfTune_6 : decode cX8_shapeOfTune 6 = .ok (.aload_n 0, 1) := by decide +kernel
theorem dX8_shapeOfTune_7 : decode cX8_shapeOfTune 7 = .ok (.getfield 22, 3) := by decide +kernel
theorem dX8_shapeOfTune_10 : decode cX8_shapeOfTune 10 = .ok (.iconst 0, 1) := by decide +kernel
theorem dX8_shapeOfTune_11 : decode cX8_shapeOfTune 11 = .ok (.iaload, 1) := by decide +kernel
theorem dX8_shapeOfTune_12 : decode cX8_shapeOfTune 12 = .ok (.isub, 1) := by decide +kernel
theorem dX8_shapeOfTune_13 : decode cX8_shapeOfTune 13 = .ok (.bipush 7, 2) := by decide +kernel
theorem dX8_shapeOfTune_15 : decode cX8_shapeOfTune 15 = .ok (.iadd, 1) := by decide +kernel
theorem dX8_shapeOfTune_16 : decode cX8_shapeOfTune 16 = .ok (.bipush 7, 2) := by decide +kernel
theorem dX8_shapeOfTune_18 : decode cX8_shapeOfTune 18 = .ok (.irem, 1) := by decide +kernel
theorem dX8_shapeOfTune_19 : decode cX8_shapeOfTune 19 = .ok (.ireturn, 1) := by decide +kernel
set_option maxRecDepth 20000 in
theorem ggX8_shapeOf_X8_ofMessage : GoodIn wsX8_shapeOf wsX8_ofMessage := goodIn_r _ [5, 6, 7, 8, 9, 10, 11, 12, 13, 14, 15, 16, 17, 18, 19, 20, 21, 22] (by decide +kernel) (by decide +kernel)
set_option maxRecDepth 20000 in
theorem gX8_shapeOf_X8_ofMessage : GoodIn wsX8_shapeOf (wsV RX8 74 RX8 yX8_ofMessage wsX8_ofMessage) := goodIn_app (goodIn_of _ (by decide +kernel)) ggX8_shapeOf_X8_ofMessage
theorem dX8_shapeOf_0 : decode cX8_shapeOf 0 = .ok (.aload_n 0, 1) := by decide +kernel
theorem dX8_shapeOf_1 : decode cX8_shapeOf 1 = .ok (.iload_n 1, 1) := by decide +kernel
theorem dX8_shapeOf_2 : decode cX8_shapeOf 2 = .ok (.iconst 3, 1) := by decide +kernel
theorem dX8_shapeOf_3 : decode cX8_shapeOf 3 = .ok (.iload_n 2, 1) := by decide +kernel
theorem dX8_shapeOf_4 : decode cX8_shapeOf 4 = .ok (.iadd, 1) := by decide +kernel
theorem dX8_shapeOf_5 : decode cX8_shapeOf 5 = .ok (.invokevirtual 74, 3) := by decide +kernel
theorem dX8_shapeOf_8 : decode cX8_shapeOf 8 = .ok (.aload_n 0, 1) := by decide +kernel
theorem dX8_shapeOf_9 : decode cX8_shapeOf 9 = .ok (.iload_n 1, 1) := by decide +kernel
theorem dX8_shapeOf_10 : decode cX8_shapeOf 10 = .ok (.iconst 3, 1) := by decide +kernel
theorem dX8_shapeOf_11 : decode cX8_shapeOf 11 = .ok (.invokevirtual 74, 3) := by decide +kernel
theorem dX8_shapeOf_14 : decode cX8_shapeOf 14 = .ok (.isub, 1) := by decide +kernel
theorem dX8_shapeOf_15 : decode cX8_shapeOf 15 = .ok (.bipush 7, 2) := by decide +kernel
theorem dX8_shapeOf_17 : decode cX8_shapeOf 17 = .ok (.iadd, 1) := by decide +kernel
theorem dX8_shapeOf_18 : decode cX8_shapeOf 18 = .ok (.bipush 7, 2) := by decide +kernel
theorem dX8_shapeOf_20 : decode cX8_shapeOf 20 = .ok (.irem, 1) := by decide +kernel
theorem dX8_shapeOf_21 : decode cX8_shapeOf 21 = .ok (.ireturn, 1) := by decide +kernel
set_option maxRecDepth 20000 in
theorem ggX8_hasShape_X8_ofMessage : GoodIn wsX8_hasShape wsX8_ofMessage := goodIn_r _ [6, 7, 17, 18, 19, 20, 21, 22, 23, 24, 25, 26, 27, 28, 29, 30, 31, 32] (by decide +kernel) (by decide +kernel)
set_option maxRecDepth 20000 in
theorem gX8_hasShape_X8_ofMessage : GoodIn wsX8_hasShape (wsV RX8 74 RX8 yX8_ofMessage wsX8_ofMessage) := goodIn_app (goodIn_of _ (by decide +kernel)) ggX8_hasShape_X8_ofMessage
set_option maxRecDepth 20000 in
theorem ggX8_hasShape_X8_shapeOf : GoodIn wsX8_hasShape wsX8_shapeOf := goodIn_r _ [11, 2, 3, 4, 5, 6, 7, 17, 18, 19, 20, 21, 22, 23, 24, 25, 26, 27, 28, 29, 30, 31, 32] (by decide +kernel) (by decide +kernel)
set_option maxRecDepth 20000 in
theorem gX8_hasShape_X8_shapeOf : GoodIn wsX8_hasShape (wsV RX8 78 RX8 yX8_shapeOf wsX8_shapeOf) := goodIn_app (goodIn_of _ (by decide +kernel)) ggX8_hasShape_X8_shapeOf
set_option maxRecDepth 20000 in
theorem ggX8_hasShape_X8_shapeOfTune : GoodIn wsX8_hasShape wsX8_shapeOfTune := goodIn_r _ [15, 16, 17, 18, 19, 20, 21, 22, 23, 24, 25, 26, 27, 28, 29, 30, 31, 32] (by decide +kernel) (by decide +kernel)
set_option maxRecDepth 20000 in
theorem gX8_hasShape_X8_shapeOfTune : GoodIn wsX8_hasShape (wsV RX8 81 RX8 yX8_shapeOfTune wsX8_shapeOfTune) := goodIn_app (goodIn_of _ (by decide +kernel)) ggX8_hasShape_X8_shapeOfTune
theorem dX8_hasShape_0 : decode cX8_hasShape 0 = .ok (.aload_n 0, 1) := by decide +kernel
theorem dX8_hasShape_1 : decode cX8_hasShape 1 = .ok (.iload_n 1, 1) := by decide +kernel
theorem dX8_hasShape_2 : decode cX8_hasShape 2 = .ok (.iconst 0, 1) := by decide +kernel
theorem dX8_hasShape_3 : decode cX8_hasShape 3 = .ok (.invokevirtual 74, 3) := by decide +kernel
theorem dX8_hasShape_6 : decode cX8_hasShape 6 = .ok (.aload_n 0, 1) := by decide +kernel
theorem dX8_hasShape_7 : decode cX8_hasShape 7 = .ok (.getfield 60, 3) := by decide +kernel
theorem dX8_hasShape_10 : decode cX8_hasShape 10 = .ok (.if_icmp .ne 7, 3) := by decide +kernel
theorem dX8_hasShape_13 : decode cX8_hasShape 13 = .ok (.iconst 1, 1) := by decide +kernel
theorem dX8_hasShape_14 : decode cX8_hasShape 14 = .ok (.goto 4, 3) := by decide +kernel
theorem dX8_hasShape_17 : decode cX8_hasShape 17 = .ok (.iconst 0, 1) := by decide +kernel
theorem dX8_hasShape_18 : decode cX8_hasShape 18 = .ok (.istore_n 2, 1) := by decide +kernel
theorem dX8_hasShape_19 : decode cX8_hasShape 19 = .ok (.iconst 0, 1) := by decide +kernel
theorem dX8_hasShape_20 : decode cX8_hasShape 20 = .ok (.istore_n 3, 1) := by decide +kernel
theorem dX8_hasShape_21 : decode cX8_hasShape 21 = .ok (.iload_n 3, 1) := by decide +kernel
theorem dX8_hasShape_22 : decode cX8_hasShape 22 = .ok (.aload_n 0, 1) := by decide +kernel
theorem dX8_hasShape_23 : decode cX8_hasShape 23 = .ok (.getfield 60, 3) := by decide +kernel
theorem dX8_hasShape_26 : decode cX8_hasShape 26 = .ok (.if_icmp .ge 33, 3) := by decide +kernel
theorem dX8_hasShape_29 : decode cX8_hasShape 29 = .ok (.iload_n 2, 1) := by decide +kernel
theorem dX8_hasShape_30 : decode cX8_hasShape 30 = .ok (.ifCond .eq 29, 3) := by decide +kernel
theorem dX8_hasShape_33 : decode cX8_hasShape 33 = .ok (.aload_n 0, 1) := by decide +kernel
theorem dX8_hasShape_34 : decode cX8_hasShape 34 = .ok (.iload_n 1, 1) := by decide +kernel
theorem dX8_hasShape_35 : decode cX8_hasShape 35 = .ok (.iload_n 3, 1) := by decide +kernel
theorem dX8_hasShape_36 : decode cX8_hasShape 36 = .ok (.invokevirtual 78, 3) := by decide +kernel
theorem dX8_hasShape_39 : decode cX8_hasShape 39 = .ok (.aload_n 0, 1) := by decide +kernel
theorem dX8_hasShape_40 : decode cX8_hasShape 40 = .ok (.iload_n 3, 1) := by decide +kernel
theorem dX8_hasShape_41 : decode cX8_hasShape 41 = .ok (.invokevirtual 81, 3) := by decide +kernel
theorem dX8_hasShape_44 : decode cX8_hasShape 44 = .ok (.if_icmp .ne 7, 3) := by decide +kernel
theorem dX8_hasShape_47 : decode cX8_hasShape 47 = .ok (.iconst 1, 1) := by decide +kernel
theorem dX8_hasShape_48 : decode cX8_hasShape 48 = .ok (.goto 4, 3) := by decide +kernel
theorem dX8_hasShape_51 : decode cX8_hasShape 51 = .ok (.iconst 0, 1) := by decide +kernel
theorem dX8_hasShape_52 : decode cX8_hasShape 52 = .ok (.istore_n 2, 1) := by decide +kernel
theorem dX8_hasShape_53 : decode cX8_hasShape 53 = .ok (.iinc 3 1, 3) := by decide +kernel
theorem dX8_hasShape_56 : decode cX8_hasShape 56 = .ok (.goto (-35), 3) := by decide +kernel
theorem dX8_hasShape_59 : decode cX8_hasShape 59 = .ok (.iload_n 2, 1) := by decide +kernel
theorem dX8_hasShape_60 : decode cX8_hasShape 60 = .ok (.ireturn, 1) := by decide +kernel
set_option maxRecDepth 20000 in
theorem ggX8_isTune_X8_within : GoodIn wsX8_isTune wsX8_within := goodIn_r _ [5] (by decide +kernel) (by decide +kernel)
set_option maxRecDepth 20000 in
theorem gX8_isTune_X8_within : GoodIn wsX8_isTune (va_wsS RX8 32 yX8_within wsX8_within) := goodIn_app (goodIn_of _ (by decide +kernel)) ggX8_isTune_X8_within
theorem dX8_isTune_0 : decode cX8_isTune 0 = .ok (.aload_n 0, 1) := by decide +kernel
theorem dX8_isTune_1 : decode cX8_isTune 1 = .ok (.getfield 60, 3) := by decide +kernel
theorem dX8_isTune_4 : decode cX8_isTune 4 = .ok (.iconst 2, 1) := by decide +kernel
theorem dX8_isTune_5 : decode cX8_isTune 5 = .ok (.bipush 8, 2) := by decide +kernel
theorem dX8_isTune_7 : decode cX8_isTune 7 = .ok (.invokestatic 32, 3) := by decide +kernel
theorem dX8_isTune_10 : decode cX8_isTune 10 = .ok (.ireturn, 1) := by decide +kernel
set_option maxRecDepth 20000 in
theorem ggX8_whyNotTaught_X8_isTune : GoodIn wsX8_whyNotTaught wsX8_isTune := goodIn_r _ [5, 6, 7, 8, 4, 9, 28, 29, 30, 31, 32, 33, 34, 35, 36, 37, 38, 39, 40, 41, 42, 43] (by decide +kernel) (by decide +kernel)
set_option maxRecDepth 20000 in
theorem gX8_whyNotTaught_X8_isTune : GoodIn wsX8_whyNotTaught (wsV RX8 84 RX8 yX8_isTune wsX8_isTune) := goodIn_app (goodIn_of _ (by decide +kernel)) ggX8_whyNotTaught_X8_isTune
set_option maxRecDepth 20000 in
theorem ggX8_whyNotTaught_X8_hasShape : GoodIn wsX8_whyNotTaught wsX8_hasShape := goodIn_r _ [13, 6, 14, 15, 16, 4, 17, 18, 19, 20, 21, 22, 23, 24, 25, 26, 27, 28, 29, 30, 31, 32, 33, 34, 35, 36, 37, 38, 39, 40, 41, 42, 43] (by decide +kernel) (by decide +kernel)
set_option maxRecDepth 20000 in
theorem gX8_whyNotTaught_X8_hasShape : GoodIn wsX8_whyNotTaught (wsV RX8 88 RX8 yX8_hasShape wsX8_hasShape) := goodIn_app (goodIn_of _ (by decide +kernel)) ggX8_whyNotTaught_X8_hasShape
theorem dX8_whyNotTaught_0 : decode cX8_whyNotTaught 0 = .ok (.aload_n 0, 1) := by decide +kernel
theorem dX8_whyNotTaught_1 : decode cX8_whyNotTaught 1 = .ok (.invokevirtual 84, 3) := by decide +kernel
theorem dX8_whyNotTaught_4 : decode cX8_whyNotTaught 4 = .ok (.ifCond .ne 5, 3) := by decide +kernel
theorem dX8_whyNotTaught_7 : decode cX8_whyNotTaught 7 = .ok (.iconst 3, 1) := by decide +kernel
theorem dX8_whyNotTaught_8 : decode cX8_whyNotTaught 8 = .ok (.ireturn, 1) := by decide +kernel
theorem dX8_whyNotTaught_9 : decode cX8_whyNotTaught 9 = .ok (.iconst 0, 1) := by decide +kernel
theorem dX8_whyNotTaught_10 : decode cX8_whyNotTaught 10 = .ok (.istore_n 2, 1) := by decide +kernel
theorem dX8_whyNotTaught_11 : decode cX8_whyNotTaught 11 = .ok (.iload_n 2, 1) := by decide +kernel
theorem dX8_whyNotTaught_12 : decode cX8_whyNotTaught 12 = .ok (.bipush 20, 2) := by decide +kernel
theorem dX8_whyNotTaught_14 : decode cX8_whyNotTaught 14 = .ok (.if_icmp .ge 24, 3) := by decide +kernel
theorem dX8_whyNotTaught_17 : decode cX8_whyNotTaught 17 = .ok (.iload_n 2, 1) := by decide +kernel
theorem dX8_whyNotTaught_18 : decode cX8_whyNotTaught 18 = .ok (.iload_n 1, 1) := by decide +kernel
theorem dX8_whyNotTaught_19 : decode cX8_whyNotTaught 19 = .ok (.if_icmp .eq 13, 3) := by decide +kernel
theorem dX8_whyNotTaught_22 : decode cX8_whyNotTaught 22 = .ok (.aload_n 0, 1) := by decide +kernel
theorem dX8_whyNotTaught_23 : decode cX8_whyNotTaught 23 = .ok (.iload_n 2, 1) := by decide +kernel
theorem dX8_whyNotTaught_24 : decode cX8_whyNotTaught 24 = .ok (.invokevirtual 88, 3) := by decide +kernel
theorem dX8_whyNotTaught_27 : decode cX8_whyNotTaught 27 = .ok (.ifCond .eq 5, 3) := by decide +kernel
theorem dX8_whyNotTaught_30 : decode cX8_whyNotTaught 30 = .ok (.iconst 4, 1) := by decide +kernel
theorem dX8_whyNotTaught_31 : decode cX8_whyNotTaught 31 = .ok (.ireturn, 1) := by decide +kernel
theorem dX8_whyNotTaught_32 : decode cX8_whyNotTaught 32 = .ok (.iinc 2 1, 3) := by decide +kernel
theorem dX8_whyNotTaught_35 : decode cX8_whyNotTaught 35 = .ok (.goto (-24), 3) := by decide +kernel
theorem dX8_whyNotTaught_38 : decode cX8_whyNotTaught 38 = .ok (.iconst 0, 1) := by decide +kernel
theorem dX8_whyNotTaught_39 : decode cX8_whyNotTaught 39 = .ok (.ireturn, 1) := by decide +kernel
set_option maxRecDepth 20000 in
theorem ggX8_teaches_X8_setMessage : GoodIn wsX8_teaches wsX8_setMessage := goodIn_r _ [7, 8, 9, 10, 11, 12, 13, 14, 15, 16, 17, 18, 19, 20, 21, 22, 23, 24] (by decide +kernel) (by decide +kernel)
set_option maxRecDepth 20000 in
theorem gX8_teaches_X8_setMessage : GoodIn wsX8_teaches (wsV RX8 92 RX8 yX8_setMessage wsX8_setMessage) := goodIn_app (goodIn_of _ (by decide +kernel)) ggX8_teaches_X8_setMessage
theorem dX8_teaches_0 : decode cX8_teaches 0 = .ok (.aload_n 0, 1) := by decide +kernel
theorem dX8_teaches_1 : decode cX8_teaches 1 = .ok (.iload_n 1, 1) := by decide +kernel
theorem dX8_teaches_2 : decode cX8_teaches 2 = .ok (.iconst 0, 1) := by decide +kernel
theorem dX8_teaches_3 : decode cX8_teaches 3 = .ok (.aload_n 0, 1) := by decide +kernel
theorem dX8_teaches_4 : decode cX8_teaches 4 = .ok (.getfield 60, 3) := by decide +kernel
theorem dX8_teaches_7 : decode cX8_teaches 7 = .ok (.invokevirtual 92, 3) := by decide +kernel
theorem dX8_teaches_10 : decode cX8_teaches 10 = .ok (.iconst 0, 1) := by decide +kernel
theorem dX8_teaches_11 : decode cX8_teaches 11 = .ok (.istore_n 2, 1) := by decide +kernel
theorem dX8_teaches_12 : decode cX8_teaches 12 = .ok (.iload_n 2, 1) := by decide +kernel
theorem dX8_teaches_13 : decode cX8_teaches 13 = .ok (.bipush 8, 2) := by decide +kernel
theorem dX8_teaches_15 : decode cX8_teaches 15 = .ok (.if_icmp .ge 35, 3) := by decide +kernel
theorem dX8_teaches_18 : decode cX8_teaches 18 = .ok (.aload_n 0, 1) := by decide +kernel
theorem dX8_teaches_19 : decode cX8_teaches 19 = .ok (.iload_n 1, 1) := by decide +kernel
theorem dX8_teaches_20 : decode cX8_teaches 20 = .ok (.iconst 3, 1) := by decide +kernel
theorem dX8_teaches_21 : decode cX8_teaches 21 = .ok (.iload_n 2, 1) := by decide +kernel
theorem dX8_teaches_22 : decode cX8_teaches 22 = .ok (.iadd, 1) := by decide +kernel
theorem dX8_teaches_23 : decode cX8_teaches 23 = .ok (.iload_n 2, 1) := by decide +kernel
theorem dX8_teaches_24 : decode cX8_teaches 24 = .ok (.aload_n 0, 1) := by decide +kernel
theorem dX8_teaches_25 : decode cX8_teaches 25 = .ok (.getfield 60, 3) := by decide +kernel
theorem dX8_teaches_28 : decode cX8_teaches 28 = .ok (.if_icmp .ge 12, 3) := by decide +kernel
theorem dX8_teaches_31 : decode cX8_teaches 31 = .ok (.aload_n 0, 1) := by decide +kernel
theorem dX8_teaches_32 : decode cX8_teaches 32 = .ok (.getfield 22, 3) := by decide +kernel
theorem dX8_teaches_35 : decode cX8_teaches 35 = .ok (.iload_n 2, 1) := by decide +kernel
theorem dX8_teaches_36 : decode cX8_teaches 36 = .ok (.iaload, 1) := by decide +kernel
theorem dX8_teaches_37 : decode cX8_teaches 37 = .ok (.goto 4, 3) := by decide +kernel
theorem dX8_teaches_40 : decode cX8_teaches 40 = .ok (.iconst 0, 1) := by decide +kernel
theorem dX8_teaches_41 : decode cX8_teaches 41 = .ok (.invokevirtual 92, 3) := by decide +kernel
theorem dX8_teaches_44 : decode cX8_teaches 44 = .ok (.iinc 2 1, 3) := by decide +kernel
theorem dX8_teaches_47 : decode cX8_teaches 47 = .ok (.goto (-35), 3) := by decide +kernel
theorem dX8_teaches_50 : decode cX8_teaches 50 = .ok (.aload_n 0, 1) := by decide +kernel
theorem dX8_teaches_51 : decode cX8_teaches 51 = .ok (.getfield 60, 3) := by decide +kernel
theorem dX8_teaches_54 : decode cX8_teaches 54 = .ok (.ireturn, 1) := by decide +kernel
set_option maxRecDepth 20000 in
theorem ggX8_beginsAlike_X8_ofMessage : GoodIn wsX8_beginsAlike wsX8_ofMessage := goodIn_r _ [5, 6, 11, 12, 13, 14, 15, 16, 17, 18, 19, 20, 21, 22, 23, 24, 25, 26] (by decide +kernel) (by decide +kernel)
set_option maxRecDepth 20000 in
theorem gX8_beginsAlike_X8_ofMessage : GoodIn wsX8_beginsAlike (wsV RX8 74 RX8 yX8_ofMessage wsX8_ofMessage) := goodIn_app (goodIn_of _ (by decide +kernel)) ggX8_beginsAlike_X8_ofMessage
set_option maxRecDepth 20000 in
theorem ggX8_beginsAlike_X8_shapeOf : GoodIn wsX8_beginsAlike wsX8_shapeOf := goodIn_r _ [10, 1, 2, 3, 4, 5, 6, 11, 12, 13, 14, 15, 16, 17, 18, 19, 20, 21, 22, 23, 24, 25, 26] (by decide +kernel) (by decide +kernel)
set_option maxRecDepth 20000 in
theorem gX8_beginsAlike_X8_shapeOf : GoodIn wsX8_beginsAlike (wsV RX8 78 RX8 yX8_shapeOf wsX8_shapeOf) := goodIn_app (goodIn_of _ (by decide +kernel)) ggX8_beginsAlike_X8_shapeOf
theorem dX8_beginsAlike_0 : decode cX8_beginsAlike 0 = .ok (.aload_n 0, 1) := by decide +kernel
theorem dX8_beginsAlike_1 : decode cX8_beginsAlike 1 = .ok (.iload_n 2, 1) := by decide +kernel
theorem dX8_beginsAlike_2 : decode cX8_beginsAlike 2 = .ok (.iconst 0, 1) := by decide +kernel
theorem dX8_beginsAlike_3 : decode cX8_beginsAlike 3 = .ok (.invokevirtual 74, 3) := by decide +kernel
theorem dX8_beginsAlike_6 : decode cX8_beginsAlike 6 = .ok (.iload_n 3, 1) := by decide +kernel
theorem dX8_beginsAlike_7 : decode cX8_beginsAlike 7 = .ok (.if_icmp .lt 7, 3) := by decide +kernel
theorem dX8_beginsAlike_10 : decode cX8_beginsAlike 10 = .ok (.iconst 1, 1) := by decide +kernel
theorem dX8_beginsAlike_11 : decode cX8_beginsAlike 11 = .ok (.goto 4, 3) := by decide +kernel
theorem dX8_beginsAlike_14 : decode cX8_beginsAlike 14 = .ok (.iconst 0, 1) := by decide +kernel
theorem dX8_beginsAlike_15 : decode cX8_beginsAlike 15 = .ok (.istore 4, 2) := by decide +kernel
theorem dX8_beginsAlike_17 : decode cX8_beginsAlike 17 = .ok (.iconst 0, 1) := by decide +kernel
theorem dX8_beginsAlike_18 : decode cX8_beginsAlike 18 = .ok (.istore 5, 2) := by decide +kernel
theorem dX8_beginsAlike_20 : decode cX8_beginsAlike 20 = .ok (.iload 5, 2) := by decide +kernel
theorem dX8_beginsAlike_22 : decode cX8_beginsAlike 22 = .ok (.iload_n 3, 1) := by decide +kernel
theorem dX8_beginsAlike_23 : decode cX8_beginsAlike 23 = .ok (.if_icmp .ge 38, 3) := by decide +kernel
theorem dX8_beginsAlike_26 : decode cX8_beginsAlike 26 = .ok (.iload 4, 2) := by decide +kernel
theorem dX8_beginsAlike_28 : decode cX8_beginsAlike 28 = .ok (.ifCond .eq 33, 3) := by decide +kernel
theorem dX8_beginsAlike_31 : decode cX8_beginsAlike 31 = .ok (.aload_n 0, 1) := by decide +kernel
theorem dX8_beginsAlike_32 : decode cX8_beginsAlike 32 = .ok (.iload_n 1, 1) := by decide +kernel
theorem dX8_beginsAlike_33 : decode cX8_beginsAlike 33 = .ok (.iload 5, 2) := by decide +kernel
theorem dX8_beginsAlike_35 : decode cX8_beginsAlike 35 = .ok (.invokevirtual 78, 3) := by decide +kernel
theorem dX8_beginsAlike_38 : decode cX8_beginsAlike 38 = .ok (.aload_n 0, 1) := by decide +kernel
theorem dX8_beginsAlike_39 : decode cX8_beginsAlike 39 = .ok (.iload_n 2, 1) := by decide +kernel
theorem dX8_beginsAlike_40 : decode cX8_beginsAlike 40 = .ok (.iload 5, 2) := by decide +kernel
theorem dX8_beginsAlike_42 : decode cX8_beginsAlike 42 = .ok (.invokevirtual 78, 3) := by decide +kernel
theorem dX8_beginsAlike_45 : decode cX8_beginsAlike 45 = .ok (.if_icmp .ne 7, 3) := by decide +kernel
theorem dX8_beginsAlike_48 : decode cX8_beginsAlike 48 = .ok (.iconst 1, 1) := by decide +kernel
theorem dX8_beginsAlike_49 : decode cX8_beginsAlike 49 = .ok (.goto 4, 3) := by decide +kernel
theorem dX8_beginsAlike_52 : decode cX8_beginsAlike 52 = .ok (.iconst 0, 1) := by decide +kernel
theorem dX8_beginsAlike_53 : decode cX8_beginsAlike 53 = .ok (.istore 4, 2) := by decide +kernel
theorem dX8_beginsAlike_55 : decode cX8_beginsAlike 55 = .ok (.iinc 5 1, 3) := by decide +kernel
theorem dX8_beginsAlike_58 : decode cX8_beginsAlike 58 = .ok (.goto (-38), 3) := by decide +kernel
theorem dX8_beginsAlike_61 : decode cX8_beginsAlike 61 = .ok (.iload 4, 2) := by decide +kernel
theorem dX8_beginsAlike_63 : decode cX8_beginsAlike 63 = .ok (.ireturn, 1) := by decide +kernel
set_option maxRecDepth 20000 in
theorem ggX8_nodes_X8_ofMessage : GoodIn wsX8_nodes wsX8_ofMessage := goodIn_r _ [5, 6, 15, 16, 17, 18, 19, 20, 21, 22, 23, 24, 25, 26, 27, 28, 29, 30] (by decide +kernel) (by decide +kernel)
set_option maxRecDepth 20000 in
theorem gX8_nodes_X8_ofMessage : GoodIn wsX8_nodes (wsV RX8 74 RX8 yX8_ofMessage wsX8_ofMessage) := goodIn_app (goodIn_of _ (by decide +kernel)) ggX8_nodes_X8_ofMessage
set_option maxRecDepth 20000 in
theorem ggX8_nodes_X8_beginsAlike : GoodIn wsX8_nodes wsX8_beginsAlike := goodIn_r _ [10, 1, 2, 3, 4, 5, 6, 11, 12, 13, 14, 15, 16, 17, 18, 19, 20, 21, 22, 23, 24, 25, 26, 27, 28, 29, 30] (by decide +kernel) (by decide +kernel)
set_option maxRecDepth 20000 in
theorem gX8_nodes_X8_beginsAlike : GoodIn wsX8_nodes (wsV RX8 96 RX8 yX8_beginsAlike wsX8_beginsAlike) := goodIn_app (goodIn_of _ (by decide +kernel)) ggX8_nodes_X8_beginsAlike
theorem dX8_nodes_0 : decode cX8_nodes 0 = .ok (.iconst 0, 1) := by decide +kernel
theorem dX8_nodes_1 : decode cX8_nodes 1 = .ok (.istore_n 1, 1) := by decide +kernel
theorem dX8_nodes_2 : decode cX8_nodes 2 = .ok (.iconst 0, 1) := by decide +kernel
theorem dX8_nodes_3 : decode cX8_nodes 3 = .ok (.istore_n 2, 1) := by decide +kernel
theorem dX8_nodes_4 : decode cX8_nodes 4 = .ok (.iload_n 2, 1) := by decide +kernel
theorem dX8_nodes_5 : decode cX8_nodes 5 = .ok (.bipush 20, 2) := by decide +kernel
theorem dX8_nodes_7 : decode cX8_nodes 7 = .ok (.if_icmp .ge 81, 3) := by decide +kernel
theorem dX8_nodes_10 : decode cX8_nodes 10 = .ok (.iconst 1, 1) := by decide +kernel
theorem dX8_nodes_11 : decode cX8_nodes 11 = .ok (.istore_n 3, 1) := by decide +kernel
theorem dX8_nodes_12 : decode cX8_nodes 12 = .ok (.iload_n 3, 1) := by decide +kernel
theorem dX8_nodes_13 : decode cX8_nodes 13 = .ok (.aload_n 0, 1) := by decide +kernel
theorem dX8_nodes_14 : decode cX8_nodes 14 = .ok (.iload_n 2, 1) := by decide +kernel
theorem dX8_nodes_15 : decode cX8_nodes 15 = .ok (.iconst 0, 1) := by decide +kernel
theorem dX8_nodes_16 : decode cX8_nodes 16 = .ok (.invokevirtual 74, 3) := by decide +kernel
theorem dX8_nodes_19 : decode cX8_nodes 19 = .ok (.if_icmp .gt 63, 3) := by decide +kernel
theorem dX8_nodes_22 : decode cX8_nodes 22 = .ok (.iconst 1, 1) := by decide +kernel
theorem dX8_nodes_23 : decode cX8_nodes 23 = .ok (.istore 4, 2) := by decide +kernel
theorem dX8_nodes_25 : decode cX8_nodes 25 = .ok (.iconst 0, 1) := by decide +kernel
theorem dX8_nodes_26 : decode cX8_nodes 26 = .ok (.istore 5, 2) := by decide +kernel
theorem dX8_nodes_28 : decode cX8_nodes 28 = .ok (.iload 5, 2) := by decide +kernel
theorem dX8_nodes_30 : decode cX8_nodes 30 = .ok (.iload_n 2, 1) := by decide +kernel
theorem dX8_nodes_31 : decode cX8_nodes 31 = .ok (.if_icmp .ge 32, 3) := by decide +kernel
theorem dX8_nodes_34 : decode cX8_nodes 34 = .ok (.iload 4, 2) := by decide +kernel
theorem dX8_nodes_36 : decode cX8_nodes 36 = .ok (.ifCond .eq 18, 3) := by decide +kernel
theorem dX8_nodes_39 : decode cX8_nodes 39 = .ok (.aload_n 0, 1) := by decide +kernel
theorem dX8_nodes_40 : decode cX8_nodes 40 = .ok (.iload_n 2, 1) := by decide +kernel
theorem dX8_nodes_41 : decode cX8_nodes 41 = .ok (.iload 5, 2) := by decide +kernel
theorem dX8_nodes_43 : decode cX8_nodes 43 = .ok (.iload_n 3, 1) := by decide +kernel
theorem dX8_nodes_44 : decode cX8_nodes 44 = .ok (.invokevirtual 96, 3) := by decide +kernel
theorem dX8_nodes_47 : decode cX8_nodes 47 = .ok (.ifCond .ne 7, 3) := by decide +kernel
theorem dX8_nodes_50 : decode cX8_nodes 50 = .ok (.iconst 1, 1) := by decide +kernel
theorem dX8_nodes_51 : decode cX8_nodes 51 = .ok (.goto 4, 3) := by decide +kernel
theorem dX8_nodes_54 : decode cX8_nodes 54 = .ok (.iconst 0, 1) := by decide +kernel
theorem dX8_nodes_55 : decode cX8_nodes 55 = .ok (.istore 4, 2) := by decide +kernel
theorem dX8_nodes_57 : decode cX8_nodes 57 = .ok (.iinc 5 1, 3) := by decide +kernel
theorem dX8_nodes_60 : decode cX8_nodes 60 = .ok (.goto (-32), 3) := by decide +kernel
theorem dX8_nodes_63 : decode cX8_nodes 63 = .ok (.iload_n 1, 1) := by decide +kernel
theorem dX8_nodes_64 : decode cX8_nodes 64 = .ok (.iload 4, 2) := by decide +kernel
theorem dX8_nodes_66 : decode cX8_nodes 66 = .ok (.ifCond .eq 7, 3) := by decide +kernel
theorem dX8_nodes_69 : decode cX8_nodes 69 = .ok (.iconst 1, 1) := by decide +kernel
theorem dX8_nodes_70 : decode cX8_nodes 70 = .ok (.goto 4, 3) := by decide +kernel
theorem dX8_nodes_73 : decode cX8_nodes 73 = .ok (.iconst 0, 1) := by decide +kernel
theorem dX8_nodes_74 : decode cX8_nodes 74 = .ok (.iadd, 1) := by decide +kernel
theorem dX8_nodes_75 : decode cX8_nodes 75 = .ok (.istore_n 1, 1) := by decide +kernel
theorem dX8_nodes_76 : decode cX8_nodes 76 = .ok (.iinc 3 1, 3) := by decide +kernel
theorem dX8_nodes_79 : decode cX8_nodes 79 = .ok (.goto (-67), 3) := by decide +kernel
theorem dX8_nodes_82 : decode cX8_nodes 82 = .ok (.iinc 2 1, 3) := by decide +kernel
theorem dX8_nodes_85 : decode cX8_nodes 85 = .ok (.goto (-81), 3) := by decide +kernel
theorem dX8_nodes_88 : decode cX8_nodes 88 = .ok (.iload_n 1, 1) := by decide +kernel
theorem dX8_nodes_89 : decode cX8_nodes 89 = .ok (.ireturn, 1) := by decide +kernel
set_option maxRecDepth 20000 in
theorem ggX8_decoded_X8_isTune : GoodIn wsX8_decoded wsX8_isTune := goodIn_r _ [6, 7, 8, 9, 5, 10, 28, 29, 30, 31, 32, 33, 34, 35, 36, 37, 38, 39, 40, 41, 42, 43] (by decide +kernel) (by decide +kernel)
set_option maxRecDepth 20000 in
theorem gX8_decoded_X8_isTune : GoodIn wsX8_decoded (wsV RX8 84 RX8 yX8_isTune wsX8_isTune) := goodIn_app (goodIn_of _ (by decide +kernel)) ggX8_decoded_X8_isTune
set_option maxRecDepth 20000 in
theorem ggX8_decoded_X8_hasShape : GoodIn wsX8_decoded wsX8_hasShape := goodIn_r _ [14, 7, 15, 16, 17, 5, 18, 19, 20, 21, 22, 23, 24, 25, 26, 27, 1, 28, 29, 30, 31, 32, 33, 34, 35, 36, 37, 38, 39, 40, 41, 42, 43] (by decide +kernel) (by decide +kernel)
set_option maxRecDepth 20000 in
theorem gX8_decoded_X8_hasShape : GoodIn wsX8_decoded (wsV RX8 88 RX8 yX8_hasShape wsX8_hasShape) := goodIn_app (goodIn_of _ (by decide +kernel)) ggX8_decoded_X8_hasShape
set_option maxRecDepth 20000 in
theorem ggX8_decoded_X8_ofMessage : GoodIn wsX8_decoded wsX8_ofMessage := goodIn_r _ [18, 19, 28, 29, 30, 31, 32, 33, 34, 35, 36, 37, 38, 39, 40, 41, 42, 43] (by decide +kernel) (by decide +kernel)
set_option maxRecDepth 20000 in
theorem gX8_decoded_X8_ofMessage : GoodIn wsX8_decoded (wsV RX8 74 RX8 yX8_ofMessage wsX8_ofMessage) := goodIn_app (goodIn_of _ (by decide +kernel)) ggX8_decoded_X8_ofMessage
theorem dX8_decoded_0 : decode cX8_decoded 0 = .ok (.iconst 0, 1) := by decide +kernel
theorem dX8_decoded_1 : decode cX8_decoded 1 = .ok (.istore_n 2, 1) := by decide +kernel
theorem dX8_decoded_2 : decode cX8_decoded 2 = .ok (.iload_n 2, 1) := by decide +kernel
theorem dX8_decoded_3 : decode cX8_decoded 3 = .ok (.bipush 20, 2) := by decide +kernel
theorem dX8_decoded_5 : decode cX8_decoded 5 = .ok (.if_icmp .ge 49, 3) := by decide +kernel
theorem dX8_decoded_8 : decode cX8_decoded 8 = .ok (.aload_n 0, 1) := by decide +kernel
theorem dX8_decoded_9 : decode cX8_decoded 9 = .ok (.invokevirtual 84, 3) := by decide +kernel
theorem dX8_decoded_12 : decode cX8_decoded 12 = .ok (.ifCond .eq 36, 3) := by decide +kernel
theorem dX8_decoded_15 : decode cX8_decoded 15 = .ok (.aload_n 0, 1) := by decide +kernel
theorem dX8_decoded_16 : decode cX8_decoded 16 = .ok (.iload_n 2, 1) := by decide +kernel
theorem dX8_decoded_17 : decode cX8_decoded 17 = .ok (.invokevirtual 88, 3) := by decide +kernel
theorem dX8_decoded_20 : decode cX8_decoded 20 = .ok (.ifCond .eq 28, 3) := by decide +kernel
theorem dX8_decoded_23 : decode cX8_decoded 23 = .ok (.aload_n 0, 1) := by decide +kernel
theorem dX8_decoded_24 : decode cX8_decoded 24 = .ok (.iload_n 2, 1) := by decide +kernel
theorem dX8_decoded_25 : decode cX8_decoded 25 = .ok (.iconst 3, 1) := by decide +kernel
theorem dX8_decoded_26 : decode cX8_decoded 26 = .ok (.invokevirtual 74, 3) := by decide +kernel
theorem dX8_decoded_29 : decode cX8_decoded 29 = .ok (.aload_n 0, 1) := by decide +kernel
theorem dX8_decoded_30 : decode cX8_decoded 30 = .ok (.getfield 22, 3) := by decide +kernel
theorem dX8_decoded_33 : decode cX8_decoded 33 = .ok (.iconst 0, 1) := by decide +kernel
theorem dX8_decoded_34 : decode cX8_decoded 34 = .ok (.iaload, 1) := by decide +kernel
theorem dX8_decoded_35 : decode cX8_decoded 35 = .ok (.iload_n 1, 1) := by decide +kernel
theorem dX8_decoded_36 : decode cX8_decoded 36 = .ok (.isub, 1) := by decide +kernel
theorem dX8_decoded_37 : decode cX8_decoded 37 = .ok (.bipush 7, 2) := by decide +kernel
theorem dX8_decoded_39 : decode cX8_decoded 39 = .ok (.iadd, 1) := by decide +kernel
theorem dX8_decoded_40 : decode cX8_decoded 40 = .ok (.bipush 7, 2) := by decide +kernel
theorem dX8_decoded_42 : decode cX8_decoded 42 = .ok (.irem, 1) := by decide +kernel
theorem dX8_decoded_43 : decode cX8_decoded 43 = .ok (.if_icmp .ne 5, 3) := by decide +kernel
theorem dX8_decoded_46 : decode cX8_decoded 46 = .ok (.iload_n 2, 1) := by decide +kernel
theorem dX8_decoded_47 : decode cX8_decoded 47 = .ok (.ireturn, 1) := by decide +kernel
theorem dX8_decoded_48 : decode cX8_decoded 48 = .ok (.iinc 2 1, 3) := by decide +kernel
theorem dX8_decoded_51 : decode cX8_decoded 51 = .ok (.goto (-49), 3) := by decide +kernel
theorem dX8_decoded_54 : decode cX8_decoded 54 = .ok (.iconst (-1), 1) := by decide +kernel
theorem dX8_decoded_55 : decode cX8_decoded 55 = .ok (.ireturn, 1) := by decide +kernel
theorem dX8_isNear_0 : decode cX8_isNear 0 = .ok (.iload_n 1, 1) := by decide +kernel
theorem dX8_isNear_1 : decode cX8_isNear 1 = .ok (.iload_n 2, 1) := by decide +kernel
theorem dX8_isNear_2 : decode cX8_isNear 2 = .ok (.if_icmp .ge 9, 3) := by decide +kernel
theorem dX8_isNear_5 : decode cX8_isNear 5 = .ok (.iload_n 2, 1) := by decide +kernel
theorem dX8_isNear_6 : decode cX8_isNear 6 = .ok (.iload_n 1, 1) := by decide +kernel
theorem dX8_isNear_7 : decode cX8_isNear 7 = .ok (.isub, 1) := by decide +kernel
theorem dX8_isNear_8 : decode cX8_isNear 8 = .ok (.goto 6, 3) := by decide +kernel
theorem dX8_isNear_11 : decode cX8_isNear 11 = .ok (.iload_n 1, 1) := by decide +kernel
theorem dX8_isNear_12 : decode cX8_isNear 12 = .ok (.iload_n 2, 1) := by decide +kernel
theorem dX8_isNear_13 : decode cX8_isNear 13 = .ok (.isub, 1) := by decide +kernel
theorem dX8_isNear_14 : decode cX8_isNear 14 = .ok (.istore_n 3, 1) := by decide +kernel
theorem dX8_isNear_15 : decode cX8_isNear 15 = .ok (.iload_n 3, 1) := by decide +kernel
theorem dX8_isNear_16 : decode cX8_isNear 16 = .ok (.aload_n 0, 1) := by decide +kernel
theorem dX8_isNear_17 : decode cX8_isNear 17 = .ok (.getfield 7, 3) := by decide +kernel
theorem dX8_isNear_20 : decode cX8_isNear 20 = .ok (.iconst 3, 1) := by decide +kernel
theorem dX8_isNear_21 : decode cX8_isNear 21 = .ok (.iaload, 1) := by decide +kernel
theorem dX8_isNear_22 : decode cX8_isNear 22 = .ok (.if_icmp .gt 7, 3) := by decide +kernel
theorem dX8_isNear_25 : decode cX8_isNear 25 = .ok (.iconst 1, 1) := by decide +kernel
theorem dX8_isNear_26 : decode cX8_isNear 26 = .ok (.goto 4, 3) := by decide +kernel
theorem dX8_isNear_29 : decode cX8_isNear 29 = .ok (.iconst 0, 1) := by decide +kernel
theorem dX8_isNear_30 : decode cX8_isNear 30 = .ok (.ireturn, 1) := by decide +kernel
set_option maxRecDepth 20000 in
theorem ggX8_floorsFrom_X8_isNear : GoodIn wsX8_floorsFrom wsX8_isNear := goodIn_r _ [6, 1, 7, 8, 9, 10, 11, 12, 13, 14, 15, 16, 17, 18, 19, 20, 21, 22] (by decide +kernel) (by decide +kernel)
set_option maxRecDepth 20000 in
theorem gX8_floorsFrom_X8_isNear : GoodIn wsX8_floorsFrom (wsV RX8 99 RX8 yX8_isNear wsX8_isNear) := goodIn_app (goodIn_of _ (by decide +kernel)) ggX8_floorsFrom_X8_isNear
theorem dX8_floorsFrom_0 : decode cX8_floorsFrom 0 = .ok (.iconst 0, 1) := by decide +kernel
theorem dX8_floorsFrom_1 : decode cX8_floorsFrom 1 = .ok (.istore_n 2, 1) := by decide +kernel
theorem dX8_floorsFrom_2 : decode cX8_floorsFrom 2 = .ok (.iconst 0, 1) := by decide +kernel
theorem dX8_floorsFrom_3 : decode cX8_floorsFrom 3 = .ok (.istore_n 3, 1) := by decide +kernel
theorem dX8_floorsFrom_4 : decode cX8_floorsFrom 4 = .ok (.iload_n 3, 1) := by decide +kernel
theorem dX8_floorsFrom_5 : decode cX8_floorsFrom 5 = .ok (.iconst 3, 1) := by decide +kernel
theorem dX8_floorsFrom_6 : decode cX8_floorsFrom 6 = .ok (.if_icmp .ge 28, 3) := by decide +kernel
theorem dX8_floorsFrom_9 : decode cX8_floorsFrom 9 = .ok (.iload_n 2, 1) := by decide +kernel
theorem dX8_floorsFrom_10 : decode cX8_floorsFrom 10 = .ok (.aload_n 0, 1) := by decide +kernel
theorem dX8_floorsFrom_11 : decode cX8_floorsFrom 11 = .ok (.iload_n 3, 1) := by decide +kernel
theorem dX8_floorsFrom_12 : decode cX8_floorsFrom 12 = .ok (.iload_n 1, 1) := by decide +kernel
theorem dX8_floorsFrom_13 : decode cX8_floorsFrom 13 = .ok (.invokevirtual 99, 3) := by decide +kernel
theorem dX8_floorsFrom_16 : decode cX8_floorsFrom 16 = .ok (.ifCond .eq 9, 3) := by decide +kernel
theorem dX8_floorsFrom_19 : decode cX8_floorsFrom 19 = .ok (.iconst 1, 1) := by decide +kernel
theorem dX8_floorsFrom_20 : decode cX8_floorsFrom 20 = .ok (.iload_n 3, 1) := by decide +kernel
theorem dX8_floorsFrom_21 : decode cX8_floorsFrom 21 = .ok (.ishl, 1) := by decide +kernel
theorem dX8_floorsFrom_22 : decode cX8_floorsFrom 22 = .ok (.goto 4, 3) := by decide +kernel
theorem dX8_floorsFrom_25 : decode cX8_floorsFrom 25 = .ok (.iconst 0, 1) := by decide +kernel
theorem dX8_floorsFrom_26 : decode cX8_floorsFrom 26 = .ok (.ior, 1) := by decide +kernel
theorem dX8_floorsFrom_27 : decode cX8_floorsFrom 27 = .ok (.istore_n 2, 1) := by decide +kernel
theorem dX8_floorsFrom_28 : decode cX8_floorsFrom 28 = .ok (.iinc 3 1, 3) := by decide +kernel
theorem dX8_floorsFrom_31 : decode cX8_floorsFrom 31 = .ok (.goto (-27), 3) := by decide +kernel
theorem dX8_floorsFrom_34 : decode cX8_floorsFrom 34 = .ok (.iconst 0, 1) := by decide +kernel
theorem dX8_floorsFrom_35 : decode cX8_floorsFrom 35 = .ok (.istore_n 3, 1) := by decide +kernel
theorem dX8_floorsFrom_36 : decode cX8_floorsFrom 36 = .ok (.iload_n 3, 1) := by decide +kernel
theorem dX8_floorsFrom_37 : decode cX8_floorsFrom 37 = .ok (.bipush 27, 2) := by decide +kernel
theorem dX8_floorsFrom_39 : decode cX8_floorsFrom 39 = .ok (.if_icmp .ge 68, 3) := by decide +kernel
theorem dX8_floorsFrom_42 : decode cX8_floorsFrom 42 = .ok (.iload_n 3, 1) := by decide +kernel
theorem dX8_floorsFrom_43 : decode cX8_floorsFrom 43 = .ok (.iconst 3, 1) := by decide +kernel
theorem dX8_floorsFrom_44 : decode cX8_floorsFrom 44 = .ok (.idiv, 1) := by decide +kernel
theorem dX8_floorsFrom_45 : decode cX8_floorsFrom 45 = .ok (.iconst 3, 1) := by decide +kernel
theorem dX8_floorsFrom_46 : decode cX8_floorsFrom 46 = .ok (.irem, 1) := by decide +kernel
theorem dX8_floorsFrom_47 : decode cX8_floorsFrom 47 = .ok (.istore 4, 2) := by decide +kernel
theorem dX8_floorsFrom_49 : decode cX8_floorsFrom 49 = .ok (.iload_n 2, 1) := by decide +kernel
theorem dX8_floorsFrom_50 : decode cX8_floorsFrom 50 = .ok (.aload_n 0, 1) := by decide +kernel
theorem dX8_floorsFrom_51 : decode cX8_floorsFrom 51 = .ok (.getfield 7, 3) := by decide +kernel
theorem dX8_floorsFrom_54 : decode cX8_floorsFrom 54 = .ok (.iconst 2, 1) := by decide +kernel
theorem dX8_floorsFrom_55 : decode cX8_floorsFrom 55 = .ok (.iaload, 1) := by decide +kernel
theorem dX8_floorsFrom_56 : decode cX8_floorsFrom 56 = .ok (.iand, 1) := by decide +kernel
theorem dX8_floorsFrom_57 : decode cX8_floorsFrom 57 = .ok (.iconst 1, 1) := by decide +kernel
theorem dX8_floorsFrom_58 : decode cX8_floorsFrom 58 = .ok (.iload 4, 2) := by decide +kernel
theorem dX8_floorsFrom_60 : decode cX8_floorsFrom 60 = .ok (.ishl, 1) := by decide +kernel
theorem dX8_floorsFrom_61 : decode cX8_floorsFrom 61 = .ok (.iand, 1) := by decide +kernel
theorem dX8_floorsFrom_62 : decode cX8_floorsFrom 62 = .ok (.ifCond .eq 7, 3) := by decide +kernel
theorem dX8_floorsFrom_65 : decode cX8_floorsFrom 65 = .ok (.iconst 1, 1) := by decide +kernel
theorem dX8_floorsFrom_66 : decode cX8_floorsFrom 66 = .ok (.goto 4, 3) := by decide +kernel
theorem dX8_floorsFrom_69 : decode cX8_floorsFrom 69 = .ok (.iconst 0, 1) := by decide +kernel
theorem dX8_floorsFrom_70 : decode cX8_floorsFrom 70 = .ok (.istore 5, 2) := by decide +kernel
theorem dX8_floorsFrom_72 : decode cX8_floorsFrom 72 = .ok (.iload_n 2, 1) := by decide +kernel
theorem dX8_floorsFrom_73 : decode cX8_floorsFrom 73 = .ok (.iload 5, 2) := by decide +kernel
theorem dX8_floorsFrom_75 : decode cX8_floorsFrom 75 = .ok (.ifCond .eq 23, 3) := by decide +kernel
theorem dX8_floorsFrom_78 : decode cX8_floorsFrom 78 = .ok (.aload_n 0, 1) := by decide +kernel
theorem dX8_floorsFrom_79 : decode cX8_floorsFrom 79 = .ok (.iload 4, 2) := by decide +kernel
theorem dX8_floorsFrom_81 : decode cX8_floorsFrom 81 = .ok (.iload_n 3, 1) := by decide +kernel
theorem dX8_floorsFrom_82 : decode cX8_floorsFrom 82 = .ok (.iconst 3, 1) := by decide +kernel
theorem dX8_floorsFrom_83 : decode cX8_floorsFrom 83 = .ok (.irem, 1) := by decide +kernel
theorem dX8_floorsFrom_84 : decode cX8_floorsFrom 84 = .ok (.invokevirtual 99, 3) := by decide +kernel
theorem dX8_floorsFrom_87 : decode cX8_floorsFrom 87 = .ok (.ifCond .eq 11, 3) := by decide +kernel
theorem dX8_floorsFrom_90 : decode cX8_floorsFrom 90 = .ok (.iconst 1, 1) := by decide +kernel
theorem dX8_floorsFrom_91 : decode cX8_floorsFrom 91 = .ok (.iload_n 3, 1) := by decide +kernel
theorem dX8_floorsFrom_92 : decode cX8_floorsFrom 92 = .ok (.iconst 3, 1) := by decide +kernel
theorem dX8_floorsFrom_93 : decode cX8_floorsFrom 93 = .ok (.irem, 1) := by decide +kernel
theorem dX8_floorsFrom_94 : decode cX8_floorsFrom 94 = .ok (.ishl, 1) := by decide +kernel
theorem dX8_floorsFrom_95 : decode cX8_floorsFrom 95 = .ok (.goto 4, 3) := by decide +kernel
theorem dX8_floorsFrom_98 : decode cX8_floorsFrom 98 = .ok (.iconst 0, 1) := by decide +kernel
theorem dX8_floorsFrom_99 : decode cX8_floorsFrom 99 = .ok (.ior, 1) := by decide +kernel
theorem dX8_floorsFrom_100 : decode cX8_floorsFrom 100 = .ok (.istore_n 2, 1) := by decide +kernel
theorem dX8_floorsFrom_101 : decode cX8_floorsFrom 101 = .ok (.iinc 3 1, 3) := by decide +kernel
theorem dX8_floorsFrom_104 : decode cX8_floorsFrom 104 = .ok (.goto (-68), 3) := by decide +kernel
theorem dX8_floorsFrom_107 : decode cX8_floorsFrom 107 = .ok (.iload_n 2, 1) := by decide +kernel
theorem dX8_floorsFrom_108 : decode cX8_floorsFrom 108 = .ok (.ireturn, 1) := by decide +kernel
set_option maxRecDepth 20000 in
theorem ggX8_hearers_X8_floorsFrom : GoodIn wsX8_hearers wsX8_floorsFrom := goodIn_r _ [5, 6, 7, 8, 9, 4, 10, 11, 12, 13, 14, 15, 16, 17, 18, 19, 20, 21, 22, 23, 24, 25, 26] (by decide +kernel) (by decide +kernel)
set_option maxRecDepth 20000 in
theorem gX8_hearers_X8_floorsFrom : GoodIn wsX8_hearers (wsV RX8 103 RX8 yX8_floorsFrom wsX8_floorsFrom) := goodIn_app (goodIn_of _ (by decide +kernel)) ggX8_hearers_X8_floorsFrom
theorem dX8_hearers_0 : decode cX8_hearers 0 = .ok (.aload_n 0, 1) := by decide +kernel
theorem dX8_hearers_1 : decode cX8_hearers 1 = .ok (.iload_n 1, 1) := by decide +kernel
theorem dX8_hearers_2 : decode cX8_hearers 2 = .ok (.iconst 2, 1) := by decide +kernel
theorem dX8_hearers_3 : decode cX8_hearers 3 = .ok (.idiv, 1) := by decide +kernel
theorem dX8_hearers_4 : decode cX8_hearers 4 = .ok (.invokevirtual 103, 3) := by decide +kernel
theorem dX8_hearers_7 : decode cX8_hearers 7 = .ok (.istore_n 2, 1) := by decide +kernel
theorem dX8_hearers_8 : decode cX8_hearers 8 = .ok (.iconst 0, 1) := by decide +kernel
theorem dX8_hearers_9 : decode cX8_hearers 9 = .ok (.istore_n 3, 1) := by decide +kernel
theorem dX8_hearers_10 : decode cX8_hearers 10 = .ok (.iconst 0, 1) := by decide +kernel
theorem dX8_hearers_11 : decode cX8_hearers 11 = .ok (.istore 4, 2) := by decide +kernel
theorem dX8_hearers_13 : decode cX8_hearers 13 = .ok (.iload 4, 2) := by decide +kernel
theorem dX8_hearers_15 : decode cX8_hearers 15 = .ok (.bipush 6, 2) := by decide +kernel
theorem dX8_hearers_17 : decode cX8_hearers 17 = .ok (.if_icmp .ge 38, 3) := by decide +kernel
theorem dX8_hearers_20 : decode cX8_hearers 20 = .ok (.iload_n 3, 1) := by decide +kernel
theorem dX8_hearers_21 : decode cX8_hearers 21 = .ok (.iload 4, 2) := by decide +kernel
theorem dX8_hearers_23 : decode cX8_hearers 23 = .ok (.iload_n 1, 1) := by decide +kernel
theorem dX8_hearers_24 : decode cX8_hearers 24 = .ok (.if_icmp .eq 22, 3) := by decide +kernel
theorem dX8_hearers_27 : decode cX8_hearers 27 = .ok (.iload_n 2, 1) := by decide +kernel
theorem dX8_hearers_28 : decode cX8_hearers 28 = .ok (.iload 4, 2) := by decide +kernel
theorem dX8_hearers_30 : decode cX8_hearers 30 = .ok (.iconst 2, 1) := by decide +kernel
theorem dX8_hearers_31 : decode cX8_hearers 31 = .ok (.idiv, 1) := by decide +kernel
theorem dX8_hearers_32 : decode cX8_hearers 32 = .ok (.ishr, 1) := by decide +kernel
theorem dX8_hearers_33 : decode cX8_hearers 33 = .ok (.iconst 1, 1) := by decide +kernel
theorem dX8_hearers_34 : decode cX8_hearers 34 = .ok (.iand, 1) := by decide +kernel
theorem dX8_hearers_35 : decode cX8_hearers 35 = .ok (.iconst 1, 1) := by decide +kernel
theorem dX8_hearers_36 : decode cX8_hearers 36 = .ok (.if_icmp .ne 10, 3) := by decide +kernel
theorem dX8_hearers_39 : decode cX8_hearers 39 = .ok (.iconst 1, 1) := by decide +kernel
theorem dX8_hearers_40 : decode cX8_hearers 40 = .ok (.iload 4, 2) := by decide +kernel
theorem dX8_hearers_42 : decode cX8_hearers 42 = .ok (.ishl, 1) := by decide +kernel
theorem dX8_hearers_43 : decode cX8_hearers 43 = .ok (.goto 4, 3) := by decide +kernel
theorem dX8_hearers_46 : decode cX8_hearers 46 = .ok (.iconst 0, 1) := by decide +kernel
theorem dX8_hearers_47 : decode cX8_hearers 47 = .ok (.ior, 1) := by decide +kernel
theorem dX8_hearers_48 : decode cX8_hearers 48 = .ok (.istore_n 3, 1) := by decide +kernel
theorem dX8_hearers_49 : decode cX8_hearers 49 = .ok (.iinc 4 1, 3) := by decide +kernel
theorem dX8_hearers_52 : decode cX8_hearers 52 = .ok (.goto (-39), 3) := by decide +kernel
theorem dX8_hearers_55 : decode cX8_hearers 55 = .ok (.iload_n 3, 1) := by decide +kernel
theorem dX8_hearers_56 : decode cX8_hearers 56 = .ok (.ireturn, 1) := by decide +kernel
set_option maxRecDepth 20000 in
theorem ggX8_knowers_X8_hearers : GoodIn wsX8_knowers wsX8_hearers := goodIn_r _ [5, 6, 7, 8, 4, 9, 10, 11, 12, 13, 14, 19, 20, 21, 22, 23, 24, 25, 26, 27, 28, 29, 30, 31, 32, 33, 34] (by decide +kernel) (by decide +kernel)
set_option maxRecDepth 20000 in
theorem gX8_knowers_X8_hearers : GoodIn wsX8_knowers (wsV RX8 106 RX8 yX8_hearers wsX8_hearers) := goodIn_app (goodIn_of _ (by decide +kernel)) ggX8_knowers_X8_hearers
set_option maxRecDepth 20000 in
theorem ggX8_knowers_X8_ofRoom : GoodIn wsX8_knowers wsX8_ofRoom := goodIn_r _ [18, 10, 19, 20, 21, 22, 23, 24, 25, 26, 27, 28, 29, 30, 31, 32, 33, 34] (by decide +kernel) (by decide +kernel)
set_option maxRecDepth 20000 in
theorem gX8_knowers_X8_ofRoom : GoodIn wsX8_knowers (wsV RX8 109 RX8 yX8_ofRoom wsX8_ofRoom) := goodIn_app (goodIn_of _ (by decide +kernel)) ggX8_knowers_X8_ofRoom
theorem dX8_knowers_0 : decode cX8_knowers 0 = .ok (.aload_n 0, 1) := by decide +kernel
theorem dX8_knowers_1 : decode cX8_knowers 1 = .ok (.iload_n 1, 1) := by decide +kernel
theorem dX8_knowers_2 : decode cX8_knowers 2 = .ok (.invokevirtual 106, 3) := by decide +kernel
theorem dX8_knowers_5 : decode cX8_knowers 5 = .ok (.istore_n 2, 1) := by decide +kernel
theorem dX8_knowers_6 : decode cX8_knowers 6 = .ok (.iconst 0, 1) := by decide +kernel
theorem dX8_knowers_7 : decode cX8_knowers 7 = .ok (.istore_n 3, 1) := by decide +kernel
theorem dX8_knowers_8 : decode cX8_knowers 8 = .ok (.iload_n 3, 1) := by decide +kernel
theorem dX8_knowers_9 : decode cX8_knowers 9 = .ok (.bipush 6, 2) := by decide +kernel
theorem dX8_knowers_11 : decode cX8_knowers 11 = .ok (.if_icmp .ge 36, 3) := by decide +kernel
theorem dX8_knowers_14 : decode cX8_knowers 14 = .ok (.iload_n 2, 1) := by decide +kernel
theorem dX8_knowers_15 : decode cX8_knowers 15 = .ok (.aload_n 0, 1) := by decide +kernel
theorem dX8_knowers_16 : decode cX8_knowers 16 = .ok (.iload_n 3, 1) := by decide +kernel
theorem dX8_knowers_17 : decode cX8_knowers 17 = .ok (.iconst 0, 1) := by decide +kernel
theorem dX8_knowers_18 : decode cX8_knowers 18 = .ok (.invokevirtual 109, 3) := by decide +kernel
theorem dX8_knowers_21 : decode cX8_knowers 21 = .ok (.aload_n 0, 1) := by decide +kernel
theorem dX8_knowers_22 : decode cX8_knowers 22 = .ok (.iload_n 1, 1) := by decide +kernel
theorem dX8_knowers_23 : decode cX8_knowers 23 = .ok (.iconst 0, 1) := by decide +kernel
theorem dX8_knowers_24 : decode cX8_knowers 24 = .ok (.invokevirtual 109, 3) := by decide +kernel
theorem dX8_knowers_27 : decode cX8_knowers 27 = .ok (.if_icmp .ne 7, 3) := by decide +kernel
theorem dX8_knowers_30 : decode cX8_knowers 30 = .ok (.iload_n 2, 1) := by decide +kernel
theorem dX8_knowers_31 : decode cX8_knowers 31 = .ok (.goto 8, 3) := by decide +kernel
theorem dX8_knowers_34 : decode cX8_knowers 34 = .ok (.iconst 1, 1) := by decide +kernel
theorem dX8_knowers_35 : decode cX8_knowers 35 = .ok (.iload_n 3, 1) := by decide +kernel
theorem dX8_knowers_36 : decode cX8_knowers 36 = .ok (.ishl, 1) := by decide +kernel
theorem dX8_knowers_37 : decode cX8_knowers 37 = .ok (.iconst (-1), 1) := by decide +kernel
theorem dX8_knowers_38 : decode cX8_knowers 38 = .ok (.ixor, 1) := by decide +kernel
theorem dX8_knowers_39 : decode cX8_knowers 39 = .ok (.iand, 1) := by decide +kernel
theorem dX8_knowers_40 : decode cX8_knowers 40 = .ok (.istore_n 2, 1) := by decide +kernel
theorem dX8_knowers_41 : decode cX8_knowers 41 = .ok (.iinc 3 1, 3) := by decide +kernel
theorem dX8_knowers_44 : decode cX8_knowers 44 = .ok (.goto (-36), 3) := by decide +kernel
theorem dX8_knowers_47 : decode cX8_knowers 47 = .ok (.iload_n 2, 1) := by decide +kernel
theorem dX8_knowers_48 : decode cX8_knowers 48 = .ok (.ireturn, 1) := by decide +kernel
set_option maxRecDepth 20000 in
theorem ggX8_catchers_X8_floorsFrom : GoodIn wsX8_catchers wsX8_floorsFrom := goodIn_r _ [6, 1, 7, 8, 9, 5, 10, 11, 12, 13, 14, 15, 16, 17, 18, 19, 20, 21, 22, 23, 24, 25, 26] (by decide +kernel) (by decide +kernel)
set_option maxRecDepth 20000 in
theorem gX8_catchers_X8_floorsFrom : GoodIn wsX8_catchers (wsV RX8 103 RX8 yX8_floorsFrom wsX8_floorsFrom) := goodIn_app (goodIn_of _ (by decide +kernel)) ggX8_catchers_X8_floorsFrom
theorem dX8_catchers_0 : decode cX8_catchers 0 = .ok (.aload_n 0, 1) := by decide +kernel
theorem dX8_catchers_1 : decode cX8_catchers 1 = .ok (.iload_n 1, 1) := by decide +kernel
theorem dX8_catchers_2 : decode cX8_catchers 2 = .ok (.iconst 2, 1) := by decide +kernel
theorem dX8_catchers_3 : decode cX8_catchers 3 = .ok (.idiv, 1) := by decide +kernel
theorem dX8_catchers_4 : decode cX8_catchers 4 = .ok (.invokevirtual 103, 3) := by decide +kernel
theorem dX8_catchers_7 : decode cX8_catchers 7 = .ok (.istore_n 3, 1) := by decide +kernel
theorem dX8_catchers_8 : decode cX8_catchers 8 = .ok (.iconst 0, 1) := by decide +kernel
theorem dX8_catchers_9 : decode cX8_catchers 9 = .ok (.istore 4, 2) := by decide +kernel
theorem dX8_catchers_11 : decode cX8_catchers 11 = .ok (.iconst 0, 1) := by decide +kernel
theorem dX8_catchers_12 : decode cX8_catchers 12 = .ok (.istore 5, 2) := by decide +kernel
theorem dX8_catchers_14 : decode cX8_catchers 14 = .ok (.iload 5, 2) := by decide +kernel
theorem dX8_catchers_16 : decode cX8_catchers 16 = .ok (.iconst 3, 1) := by decide +kernel
theorem dX8_catchers_17 : decode cX8_catchers 17 = .ok (.if_icmp .ge 71, 3) := by decide +kernel
theorem dX8_catchers_20 : decode cX8_catchers 20 = .ok (.iload_n 3, 1) := by decide +kernel
theorem dX8_catchers_21 : decode cX8_catchers 21 = .ok (.iload 5, 2) := by decide +kernel
theorem dX8_catchers_23 : decode cX8_catchers 23 = .ok (.aload_n 0, 1) := by decide +kernel
theorem dX8_catchers_24 : decode cX8_catchers 24 = .ok (.getfield 7, 3) := by decide +kernel
theorem dX8_catchers_27 : decode cX8_catchers 27 = .ok (.iconst 0, 1) := by decide +kernel
theorem dX8_catchers_28 : decode cX8_catchers 28 = .ok (.iaload, 1) := by decide +kernel
theorem dX8_catchers_29 : decode cX8_catchers 29 = .ok (.iadd, 1) := by decide +kernel
theorem dX8_catchers_30 : decode cX8_catchers 30 = .ok (.iconst 3, 1) := by decide +kernel
theorem dX8_catchers_31 : decode cX8_catchers 31 = .ok (.irem, 1) := by decide +kernel
theorem dX8_catchers_32 : decode cX8_catchers 32 = .ok (.ishr, 1) := by decide +kernel
theorem dX8_catchers_33 : decode cX8_catchers 33 = .ok (.iconst 1, 1) := by decide +kernel
theorem dX8_catchers_34 : decode cX8_catchers 34 = .ok (.iand, 1) := by decide +kernel
theorem dX8_catchers_35 : decode cX8_catchers 35 = .ok (.iconst 1, 1) := by decide +kernel
theorem dX8_catchers_36 : decode cX8_catchers 36 = .ok (.if_icmp .ne 25, 3) := by decide +kernel
theorem dX8_catchers_39 : decode cX8_catchers 39 = .ok (.aload_n 0, 1) := by decide +kernel
theorem dX8_catchers_40 : decode cX8_catchers 40 = .ok (.getfield 7, 3) := by decide +kernel
theorem dX8_catchers_43 : decode cX8_catchers 43 = .ok (.bipush 44, 2) := by decide +kernel
theorem dX8_catchers_45 : decode cX8_catchers 45 = .ok (.iload 5, 2) := by decide +kernel
theorem dX8_catchers_47 : decode cX8_catchers 47 = .ok (.iadd, 1) := by decide +kernel
theorem dX8_catchers_48 : decode cX8_catchers 48 = .ok (.iaload, 1) := by decide +kernel
theorem dX8_catchers_49 : decode cX8_catchers 49 = .ok (.iload_n 2, 1) := by decide +kernel
theorem dX8_catchers_50 : decode cX8_catchers 50 = .ok (.ishr, 1) := by decide +kernel
theorem dX8_catchers_51 : decode cX8_catchers 51 = .ok (.iconst 1, 1) := by decide +kernel
theorem dX8_catchers_52 : decode cX8_catchers 52 = .ok (.iand, 1) := by decide +kernel
theorem dX8_catchers_53 : decode cX8_catchers 53 = .ok (.iconst 1, 1) := by decide +kernel
theorem dX8_catchers_54 : decode cX8_catchers 54 = .ok (.if_icmp .ne 7, 3) := by decide +kernel
theorem dX8_catchers_57 : decode cX8_catchers 57 = .ok (.iconst 1, 1) := by decide +kernel
theorem dX8_catchers_58 : decode cX8_catchers 58 = .ok (.goto 4, 3) := by decide +kernel
theorem dX8_catchers_61 : decode cX8_catchers 61 = .ok (.iconst 0, 1) := by decide +kernel
theorem dX8_catchers_62 : decode cX8_catchers 62 = .ok (.istore 6, 2) := by decide +kernel
theorem dX8_catchers_64 : decode cX8_catchers 64 = .ok (.iload 4, 2) := by decide +kernel
theorem dX8_catchers_66 : decode cX8_catchers 66 = .ok (.iload 6, 2) := by decide +kernel
theorem dX8_catchers_68 : decode cX8_catchers 68 = .ok (.ifCond .eq 10, 3) := by decide +kernel
theorem dX8_catchers_71 : decode cX8_catchers 71 = .ok (.iconst 1, 1) := by decide +kernel
theorem dX8_catchers_72 : decode cX8_catchers 72 = .ok (.iload 5, 2) := by decide +kernel
theorem dX8_catchers_74 : decode cX8_catchers 74 = .ok (.ishl, 1) := by decide +kernel
theorem dX8_catchers_75 : decode cX8_catchers 75 = .ok (.goto 4, 3) := by decide +kernel
theorem dX8_catchers_78 : decode cX8_catchers 78 = .ok (.iconst 0, 1) := by decide +kernel
theorem dX8_catchers_79 : decode cX8_catchers 79 = .ok (.ior, 1) := by decide +kernel
theorem dX8_catchers_80 : decode cX8_catchers 80 = .ok (.istore 4, 2) := by decide +kernel
theorem dX8_catchers_82 : decode cX8_catchers 82 = .ok (.iinc 5 1, 3) := by decide +kernel
theorem dX8_catchers_85 : decode cX8_catchers 85 = .ok (.goto (-71), 3) := by decide +kernel
theorem dX8_catchers_88 : decode cX8_catchers 88 = .ok (.iload 4, 2) := by decide +kernel
theorem dX8_catchers_90 : decode cX8_catchers 90 = .ok (.ireturn, 1) := by decide +kernel
set_option maxRecDepth 20000 in
theorem ggX8_raisedBy_X8_ofRoom : GoodIn wsX8_raisedBy wsX8_ofRoom := goodIn_r _ [6, 1, 23, 24, 25, 26, 27, 28, 29, 30, 31, 32, 33, 34, 35, 36, 37, 38] (by decide +kernel) (by decide +kernel)
set_option maxRecDepth 20000 in
theorem gX8_raisedBy_X8_ofRoom : GoodIn wsX8_raisedBy (wsV RX8 109 RX8 yX8_ofRoom wsX8_ofRoom) := goodIn_app (goodIn_of _ (by decide +kernel)) ggX8_raisedBy_X8_ofRoom
set_option maxRecDepth 20000 in
theorem ggX8_raisedBy_X8_knowers : GoodIn wsX8_raisedBy wsX8_knowers := goodIn_r _ [10, 11, 12, 13, 5, 14, 15, 16, 17, 18, 1, 19, 20, 21, 22, 2, 3, 4, 6, 23, 24, 25, 26, 27, 28, 29, 30, 31, 32, 33, 34, 35, 36, 37, 38] (by decide +kernel) (by decide +kernel)
set_option maxRecDepth 20000 in
theorem gX8_raisedBy_X8_knowers : GoodIn wsX8_raisedBy (wsV RX8 112 RX8 yX8_knowers wsX8_knowers) := goodIn_app (goodIn_of _ (by decide +kernel)) ggX8_raisedBy_X8_knowers
theorem dX8_raisedBy_0 : decode cX8_raisedBy 0 = .ok (.iload_n 2, 1) := by decide +kernel
theorem dX8_raisedBy_1 : decode cX8_raisedBy 1 = .ok (.bipush 12, 2) := by decide +kernel
theorem dX8_raisedBy_3 : decode cX8_raisedBy 3 = .ok (.if_icmp .lt 26, 3) := by decide +kernel
theorem dX8_raisedBy_6 : decode cX8_raisedBy 6 = .ok (.aload_n 0, 1) := by decide +kernel
theorem dX8_raisedBy_7 : decode cX8_raisedBy 7 = .ok (.iload_n 1, 1) := by decide +kernel
theorem dX8_raisedBy_8 : decode cX8_raisedBy 8 = .ok (.iconst 0, 1) := by decide +kernel
theorem dX8_raisedBy_9 : decode cX8_raisedBy 9 = .ok (.invokevirtual 109, 3) := by decide +kernel
theorem dX8_raisedBy_12 : decode cX8_raisedBy 12 = .ok (.aload_n 0, 1) := by decide +kernel
theorem dX8_raisedBy_13 : decode cX8_raisedBy 13 = .ok (.getfield 7, 3) := by decide +kernel
theorem dX8_raisedBy_16 : decode cX8_raisedBy 16 = .ok (.iconst 1, 1) := by decide +kernel
theorem dX8_raisedBy_17 : decode cX8_raisedBy 17 = .ok (.iaload, 1) := by decide +kernel
theorem dX8_raisedBy_18 : decode cX8_raisedBy 18 = .ok (.if_icmp .ne 11, 3) := by decide +kernel
theorem dX8_raisedBy_21 : decode cX8_raisedBy 21 = .ok (.aload_n 0, 1) := by decide +kernel
theorem dX8_raisedBy_22 : decode cX8_raisedBy 22 = .ok (.iload_n 1, 1) := by decide +kernel
theorem dX8_raisedBy_23 : decode cX8_raisedBy 23 = .ok (.invokevirtual 112, 3) := by decide +kernel
theorem dX8_raisedBy_26 : decode cX8_raisedBy 26 = .ok (.goto 4, 3) := by decide +kernel
theorem dX8_raisedBy_29 : decode cX8_raisedBy 29 = .ok (.iconst 0, 1) := by decide +kernel
theorem dX8_raisedBy_30 : decode cX8_raisedBy 30 = .ok (.ireturn, 1) := by decide +kernel
set_option maxRecDepth 20000 in
theorem ggX8_isSilenced_X8_ofRoom : GoodIn wsX8_isSilenced wsX8_ofRoom := goodIn_r _ [6, 1, 7, 8, 9, 10, 11, 12, 13, 14, 15, 16, 17, 18, 19, 20, 21, 22] (by decide +kernel) (by decide +kernel)
set_option maxRecDepth 20000 in
theorem gX8_isSilenced_X8_ofRoom : GoodIn wsX8_isSilenced (wsV RX8 109 RX8 yX8_ofRoom wsX8_ofRoom) := goodIn_app (goodIn_of _ (by decide +kernel)) ggX8_isSilenced_X8_ofRoom
theorem dX8_isSilenced_0 : decode cX8_isSilenced 0 = .ok (.aload_n 0, 1) := by decide +kernel
theorem dX8_isSilenced_1 : decode cX8_isSilenced 1 = .ok (.iload_n 1, 1) := by decide +kernel
theorem dX8_isSilenced_2 : decode cX8_isSilenced 2 = .ok (.iconst 1, 1) := by decide +kernel
theorem dX8_isSilenced_3 : decode cX8_isSilenced 3 = .ok (.invokevirtual 109, 3) := by decide +kernel
theorem dX8_isSilenced_6 : decode cX8_isSilenced 6 = .ok (.aload_n 0, 1) := by decide +kernel
theorem dX8_isSilenced_7 : decode cX8_isSilenced 7 = .ok (.getfield 7, 3) := by decide +kernel
theorem dX8_isSilenced_10 : decode cX8_isSilenced 10 = .ok (.iconst 4, 1) := by decide +kernel
theorem dX8_isSilenced_11 : decode cX8_isSilenced 11 = .ok (.iaload, 1) := by decide +kernel
theorem dX8_isSilenced_12 : decode cX8_isSilenced 12 = .ok (.if_icmp .lt 7, 3) := by decide +kernel
theorem dX8_isSilenced_15 : decode cX8_isSilenced 15 = .ok (.iconst 1, 1) := by decide +kernel
theorem dX8_isSilenced_16 : decode cX8_isSilenced 16 = .ok (.goto 4, 3) := by decide +kernel
theorem dX8_isSilenced_19 : decode cX8_isSilenced 19 = .ok (.iconst 0, 1) := by decide +kernel
theorem dX8_isSilenced_20 : decode cX8_isSilenced 20 = .ok (.ireturn, 1) := by decide +kernel
set_option maxRecDepth 20000 in
theorem ggX8_whyNotWhistled_X8_isSilenced : GoodIn wsX8_whyNotWhistled wsX8_isSilenced := goodIn_r _ [5, 6, 7, 8, 9, 4, 10, 15, 16, 17, 18, 19, 20, 21, 22, 23, 24, 25, 26, 27, 28, 29, 30] (by decide +kernel) (by decide +kernel)
set_option maxRecDepth 20000 in
theorem gX8_whyNotWhistled_X8_isSilenced : GoodIn wsX8_whyNotWhistled (wsV RX8 115 RX8 yX8_isSilenced wsX8_isSilenced) := goodIn_app (goodIn_of _ (by decide +kernel)) ggX8_whyNotWhistled_X8_isSilenced
set_option maxRecDepth 20000 in
theorem ggX8_whyNotWhistled_X8_ofMessage : GoodIn wsX8_whyNotWhistled wsX8_ofMessage := goodIn_r _ [14, 6, 15, 16, 17, 18, 19, 20, 21, 22, 23, 24, 25, 26, 27, 28, 29, 30] (by decide +kernel) (by decide +kernel)
set_option maxRecDepth 20000 in
theorem gX8_whyNotWhistled_X8_ofMessage : GoodIn wsX8_whyNotWhistled (wsV RX8 74 RX8 yX8_ofMessage wsX8_ofMessage) := goodIn_app (goodIn_of _ (by decide +kernel)) ggX8_whyNotWhistled_X8_ofMessage
theorem dX8_whyNotWhistled_0 : decode cX8_whyNotWhistled 0 = .ok (.aload_n 0, 1) := by decide +kernel
theorem dX8_whyNotWhistled_1 : decode cX8_whyNotWhistled 1 = .ok (.iload_n 1, 1) := by decide +kernel
theorem dX8_whyNotWhistled_2 : decode cX8_whyNotWhistled 2 = .ok (.invokevirtual 115, 3) := by decide +kernel
theorem dX8_whyNotWhistled_5 : decode cX8_whyNotWhistled 5 = .ok (.ifCond .eq 7, 3) := by decide +kernel
theorem dX8_whyNotWhistled_8 : decode cX8_whyNotWhistled 8 = .ok (.iconst 1, 1) := by decide +kernel
theorem dX8_whyNotWhistled_9 : decode cX8_whyNotWhistled 9 = .ok (.goto 17, 3) := by decide +kernel
theorem dX8_whyNotWhistled_12 : decode cX8_whyNotWhistled 12 = .ok (.aload_n 0, 1) := by decide +kernel
theorem dX8_whyNotWhistled_13 : decode cX8_whyNotWhistled 13 = .ok (.iload_n 2, 1) := by decide +kernel
theorem dX8_whyNotWhistled_14 : decode cX8_whyNotWhistled 14 = .ok (.iconst 0, 1) := by decide +kernel
theorem dX8_whyNotWhistled_15 : decode cX8_whyNotWhistled 15 = .ok (.invokevirtual 74, 3) := by decide +kernel
theorem dX8_whyNotWhistled_18 : decode cX8_whyNotWhistled 18 = .ok (.ifCond .ne 7, 3) := by decide +kernel
theorem dX8_whyNotWhistled_21 : decode cX8_whyNotWhistled 21 = .ok (.iconst 2, 1) := by decide +kernel
theorem dX8_whyNotWhistled_22 : decode cX8_whyNotWhistled 22 = .ok (.goto 4, 3) := by decide +kernel
theorem dX8_whyNotWhistled_25 : decode cX8_whyNotWhistled 25 = .ok (.iconst 0, 1) := by decide +kernel
theorem dX8_whyNotWhistled_26 : decode cX8_whyNotWhistled 26 = .ok (.ireturn, 1) := by decide +kernel
set_option maxRecDepth 20000 in
theorem ggX8_whistles_X8_hearers : GoodIn wsX8_whistles wsX8_hearers := goodIn_r _ [6, 7, 8, 9, 5, 10, 1, 11, 12, 13, 14, 46, 47, 48, 49, 50, 51, 52, 53, 54, 55, 56, 57, 58, 59, 60, 61] (by decide +kernel) (by decide +kernel)
set_option maxRecDepth 20000 in
theorem gX8_whistles_X8_hearers : GoodIn wsX8_whistles (wsV RX8 106 RX8 yX8_hearers wsX8_hearers) := goodIn_app (goodIn_of _ (by decide +kernel)) ggX8_whistles_X8_hearers
set_option maxRecDepth 20000 in
theorem ggX8_whistles_X8_knowers : GoodIn wsX8_whistles wsX8_knowers := goodIn_r _ [18, 2, 3, 4, 5, 6, 7, 8, 9, 10, 1, 11, 12, 13, 14, 19, 20, 21, 22, 46, 47, 48, 49, 50, 51, 52, 53, 54, 55, 56, 57, 58, 59, 60, 61] (by decide +kernel) (by decide +kernel)
set_option maxRecDepth 20000 in
theorem gX8_whistles_X8_knowers : GoodIn wsX8_whistles (wsV RX8 112 RX8 yX8_knowers wsX8_knowers) := goodIn_app (goodIn_of _ (by decide +kernel)) ggX8_whistles_X8_knowers
set_option maxRecDepth 20000 in
theorem ggX8_whistles_X8_raisedBy : GoodIn wsX8_whistles wsX8_raisedBy := goodIn_r _ [26, 1, 19, 20, 21, 5, 22, 15, 16, 17, 18, 2, 3, 4, 6, 7, 8, 9, 10, 11, 12, 13, 14, 46, 47, 48, 49, 50, 51, 52, 53, 54, 55, 56, 57, 58, 59, 60, 61] (by decide +kernel) (by decide +kernel)
set_option maxRecDepth 20000 in
theorem gX8_whistles_X8_raisedBy : GoodIn wsX8_whistles (wsV RX8 118 RX8 yX8_raisedBy wsX8_raisedBy) := goodIn_app (goodIn_of _ (by decide +kernel)) ggX8_whistles_X8_raisedBy
set_option maxRecDepth 20000 in
theorem ggX8_whistles_X8_catchers : GoodIn wsX8_whistles wsX8_catchers := goodIn_r _ [30, 1, 7, 8, 9, 5, 10, 11, 12, 13, 14, 46, 47, 48, 49, 50, 51, 52, 53, 54, 55, 56, 57, 58, 59, 60, 61] (by decide +kernel) (by decide +kernel)
set_option maxRecDepth 20000 in
theorem gX8_whistles_X8_catchers : GoodIn wsX8_whistles (wsV RX8 121 RX8 yX8_catchers wsX8_catchers) := goodIn_app (goodIn_of _ (by decide +kernel)) ggX8_whistles_X8_catchers
set_option maxRecDepth 20000 in
theorem ggX8_whistles_X8_floorsFrom : GoodIn wsX8_whistles wsX8_floorsFrom := goodIn_r _ [10, 1, 11, 12, 13, 5, 14, 46, 47, 48, 49, 50, 51, 52, 53, 54, 55, 56, 57, 58, 59, 60, 61] (by decide +kernel) (by decide +kernel)
set_option maxRecDepth 20000 in
theorem gX8_whistles_X8_floorsFrom : GoodIn wsX8_whistles (wsV RX8 103 RX8 yX8_floorsFrom wsX8_floorsFrom) := goodIn_app (goodIn_of _ (by decide +kernel)) ggX8_whistles_X8_floorsFrom
set_option maxRecDepth 20000 in
theorem ggX8_whistles_X8_addTo : GoodIn wsX8_whistles wsX8_addTo := goodIn_r _ [34, 1, 46, 47, 48, 49, 50, 51, 52, 53, 54, 55, 56, 57, 58, 59, 60, 61] (by decide +kernel) (by decide +kernel)
set_option maxRecDepth 20000 in
theorem gX8_whistles_X8_addTo : GoodIn wsX8_whistles (wsV RX8 124 RX8 yX8_addTo wsX8_addTo) := goodIn_app (goodIn_of _ (by decide +kernel)) ggX8_whistles_X8_addTo
set_option maxRecDepth 20000 in
theorem ggX8_whistles_X8_ones : GoodIn wsX8_whistles wsX8_ones := goodIn_r _ [37] (by decide +kernel) (by decide +kernel)
set_option maxRecDepth 20000 in
theorem gX8_whistles_X8_ones : GoodIn wsX8_whistles (va_wsS RX8 127 yX8_ones wsX8_ones) := goodIn_app (goodIn_of _ (by decide +kernel)) ggX8_whistles_X8_ones
set_option maxRecDepth 20000 in
theorem ggX8_whistles_X8_ofMessage : GoodIn wsX8_whistles wsX8_ofMessage := goodIn_r _ [41, 1, 46, 47, 48, 49, 50, 51, 52, 53, 54, 55, 56, 57, 58, 59, 60, 61] (by decide +kernel) (by decide +kernel)
set_option maxRecDepth 20000 in
theorem gX8_whistles_X8_ofMessage : GoodIn wsX8_whistles (wsV RX8 74 RX8 yX8_ofMessage wsX8_ofMessage) := goodIn_app (goodIn_of _ (by decide +kernel)) ggX8_whistles_X8_ofMessage
set_option maxRecDepth 20000 in
theorem ggX8_whistles_X8_setMessage : GoodIn wsX8_whistles wsX8_setMessage := goodIn_r _ [45, 1, 46, 47, 48, 49, 50, 51, 52, 53, 54, 55, 56, 57, 58, 59, 60, 61] (by decide +kernel) (by decide +kernel)
set_option maxRecDepth 20000 in
theorem gX8_whistles_X8_setMessage : GoodIn wsX8_whistles (wsV RX8 92 RX8 yX8_setMessage wsX8_setMessage) := goodIn_app (goodIn_of _ (by decide +kernel)) ggX8_whistles_X8_setMessage
theorem dX8_whistles_0 : decode cX8_whistles 0 = .ok (.aload_n 0, 1) := by decide +kernel
theorem dX8_whistles_1 : decode cX8_whistles 1 = .ok (.iload_n 1, 1) := by decide +kernel
theorem dX8_whistles_2 : decode cX8_whistles 2 = .ok (.invokevirtual 106, 3) := by decide +kernel
theorem dX8_whistles_5 : decode cX8_whistles 5 = .ok (.istore_n 3, 1) := by decide +kernel
theorem dX8_whistles_6 : decode cX8_whistles 6 = .ok (.aload_n 0, 1) := by decide +kernel
theorem dX8_whistles_7 : decode cX8_whistles 7 = .ok (.iload_n 1, 1) := by decide +kernel
theorem dX8_whistles_8 : decode cX8_whistles 8 = .ok (.invokevirtual 112, 3) := by decide +kernel
theorem dX8_whistles_11 : decode cX8_whistles 11 = .ok (.istore 4, 2) := by decide +kernel
theorem dX8_whistles_13 : decode cX8_whistles 13 = .ok (.aload_n 0, 1) := by decide +kernel
theorem dX8_whistles_14 : decode cX8_whistles 14 = .ok (.iload_n 1, 1) := by decide +kernel
theorem dX8_whistles_15 : decode cX8_whistles 15 = .ok (.iload_n 2, 1) := by decide +kernel
theorem dX8_whistles_16 : decode cX8_whistles 16 = .ok (.invokevirtual 118, 3) := by decide +kernel
theorem dX8_whistles_19 : decode cX8_whistles 19 = .ok (.istore 5, 2) := by decide +kernel
theorem dX8_whistles_21 : decode cX8_whistles 21 = .ok (.aload_n 0, 1) := by decide +kernel
theorem dX8_whistles_22 : decode cX8_whistles 22 = .ok (.iload_n 1, 1) := by decide +kernel
theorem dX8_whistles_23 : decode cX8_whistles 23 = .ok (.iload_n 2, 1) := by decide +kernel
theorem dX8_whistles_24 : decode cX8_whistles 24 = .ok (.invokevirtual 121, 3) := by decide +kernel
theorem dX8_whistles_27 : decode cX8_whistles 27 = .ok (.istore 6, 2) := by decide +kernel
theorem dX8_whistles_29 : decode cX8_whistles 29 = .ok (.aload_n 0, 1) := by decide +kernel
theorem dX8_whistles_30 : decode cX8_whistles 30 = .ok (.getfield 7, 3) := by decide +kernel
theorem dX8_whistles_33 : decode cX8_whistles 33 = .ok (.bipush 6, 2) := by decide +kernel
theorem dX8_whistles_35 : decode cX8_whistles 35 = .ok (.iload_n 1, 1) := by decide +kernel
theorem dX8_whistles_36 : decode cX8_whistles 36 = .ok (.iastore, 1) := by decide +kernel
theorem dX8_whistles_37 : decode cX8_whistles 37 = .ok (.aload_n 0, 1) := by decide +kernel
theorem dX8_whistles_38 : decode cX8_whistles 38 = .ok (.getfield 7, 3) := by decide +kernel
theorem dX8_whistles_41 : decode cX8_whistles 41 = .ok (.bipush 7, 2) := by decide +kernel
theorem dX8_whistles_43 : decode cX8_whistles 43 = .ok (.iload_n 2, 1) := by decide +kernel
theorem dX8_whistles_44 : decode cX8_whistles 44 = .ok (.iastore, 1) := by decide +kernel
theorem dX8_whistles_45 : decode cX8_whistles 45 = .ok (.aload_n 0, 1) := by decide +kernel
theorem dX8_whistles_46 : decode cX8_whistles 46 = .ok (.getfield 7, 3) := by decide +kernel
theorem dX8_whistles_49 : decode cX8_whistles 49 = .ok (.bipush 8, 2) := by decide +kernel
theorem dX8_whistles_51 : decode cX8_whistles 51 = .ok (.aload_n 0, 1) := by decide +kernel
theorem dX8_whistles_52 : decode cX8_whistles 52 = .ok (.iload_n 1, 1) := by decide +kernel
theorem dX8_whistles_53 : decode cX8_whistles 53 = .ok (.iconst 2, 1) := by decide +kernel
theorem dX8_whistles_54 : decode cX8_whistles 54 = .ok (.idiv, 1) := by decide +kernel
theorem dX8_whistles_55 : decode cX8_whistles 55 = .ok (.invokevirtual 103, 3) := by decide +kernel
theorem dX8_whistles_58 : decode cX8_whistles 58 = .ok (.iastore, 1) := by decide +kernel
theorem dX8_whistles_59 : decode cX8_whistles 59 = .ok (.aload_n 0, 1) := by decide +kernel
theorem dX8_whistles_60 : decode cX8_whistles 60 = .ok (.getfield 7, 3) := by decide +kernel
theorem dX8_whistles_63 : decode cX8_whistles 63 = .ok (.bipush 9, 2) := by decide +kernel
theorem dX8_whistles_65 : decode cX8_whistles 65 = .ok (.iload 4, 2) := by decide +kernel
theorem dX8_whistles_67 : decode cX8_whistles 67 = .ok (.iastore, 1) := by decide +kernel
theorem dX8_whistles_68 : decode cX8_whistles 68 = .ok (.aload_n 0, 1) := by decide +kernel
theorem dX8_whistles_69 : decode cX8_whistles 69 = .ok (.getfield 7, 3) := by decide +kernel
theorem dX8_whistles_72 : decode cX8_whistles 72 = .ok (.bipush 10, 2) := by decide +kernel
theorem dX8_whistles_74 : decode cX8_whistles 74 = .ok (.iload 6, 2) := by decide +kernel
theorem dX8_whistles_76 : decode cX8_whistles 76 = .ok (.iastore, 1) := by decide +kernel
theorem dX8_whistles_77 : decode cX8_whistles 77 = .ok (.aload_n 0, 1) := by decide +kernel
theorem dX8_whistles_78 : decode cX8_whistles 78 = .ok (.getfield 7, 3) := by decide +kernel
theorem dX8_whistles_81 : decode cX8_whistles 81 = .ok (.bipush 11, 2) := by decide +kernel
theorem dX8_whistles_83 : decode cX8_whistles 83 = .ok (.iload 5, 2) := by decide +kernel
theorem dX8_whistles_85 : decode cX8_whistles 85 = .ok (.iastore, 1) := by decide +kernel
theorem dX8_whistles_86 : decode cX8_whistles 86 = .ok (.iconst 0, 1) := by decide +kernel
theorem dX8_whistles_87 : decode cX8_whistles 87 = .ok (.istore 7, 2) := by decide +kernel
theorem dX8_whistles_89 : decode cX8_whistles 89 = .ok (.iload 7, 2) := by decide +kernel
theorem dX8_whistles_91 : decode cX8_whistles 91 = .ok (.bipush 6, 2) := by decide +kernel
theorem dX8_whistles_93 : decode cX8_whistles 93 = .ok (.if_icmp .ge 107, 3) := by decide +kernel
theorem dX8_whistles_96 : decode cX8_whistles 96 = .ok (.iload_n 3, 1) := by decide +kernel
theorem dX8_whistles_97 : decode cX8_whistles 97 = .ok (.iload 7, 2) := by decide +kernel
theorem dX8_whistles_99 : decode cX8_whistles 99 = .ok (.ishr, 1) := by decide +kernel
theorem dX8_whistles_100 : decode cX8_whistles 100 = .ok (.iconst 1, 1) := by decide +kernel
theorem dX8_whistles_101 : decode cX8_whistles 101 = .ok (.iand, 1) := by decide +kernel
theorem dX8_whistles_102 : decode cX8_whistles 102 = .ok (.iconst 1, 1) := by decide +kernel
theorem dX8_whistles_103 : decode cX8_whistles 103 = .ok (.if_icmp .ne 7, 3) := by decide +kernel
theorem dX8_whistles_106 : decode cX8_whistles 106 = .ok (.iconst 1, 1) := by decide +kernel
theorem dX8_whistles_107 : decode cX8_whistles 107 = .ok (.goto 4, 3) := by decide +kernel
theorem dX8_whistles_110 : decode cX8_whistles 110 = .ok (.iconst 0, 1) := by decide +kernel
theorem dX8_whistles_111 : decode cX8_whistles 111 = .ok (.istore 8, 2) := by decide +kernel
theorem dX8_whistles_113 : decode cX8_whistles 113 = .ok (.iload 4, 2) := by decide +kernel
theorem dX8_whistles_115 : decode cX8_whistles 115 = .ok (.iload 7, 2) := by decide +kernel
theorem dX8_whistles_117 : decode cX8_whistles 117 = .ok (.ishr, 1) := by decide +kernel
theorem dX8_whistles_118 : decode cX8_whistles 118 = .ok (.iconst 1, 1) := by decide +kernel
theorem dX8_whistles_119 : decode cX8_whistles 119 = .ok (.iand, 1) := by decide +kernel
theorem dX8_whistles_120 : decode cX8_whistles 120 = .ok (.iconst 1, 1) := by decide +kernel
theorem dX8_whistles_121 : decode cX8_whistles 121 = .ok (.if_icmp .ne 7, 3) := by decide +kernel
theorem dX8_whistles_124 : decode cX8_whistles 124 = .ok (.iconst 1, 1) := by decide +kernel
theorem dX8_whistles_125 : decode cX8_whistles 125 = .ok (.goto 4, 3) := by decide +kernel
theorem dX8_whistles_128 : decode cX8_whistles 128 = .ok (.iconst 0, 1) := by decide +kernel
theorem dX8_whistles_129 : decode cX8_whistles 129 = .ok (.istore 9, 2) := by decide +kernel
theorem dX8_whistles_131 : decode cX8_whistles 131 = .ok (.aload_n 0, 1) := by decide +kernel
theorem dX8_whistles_132 : decode cX8_whistles 132 = .ok (.iload 7, 2) := by decide +kernel
theorem dX8_whistles_134 : decode cX8_whistles 134 = .ok (.iconst 3, 1) := by decide +kernel
theorem dX8_whistles_135 : decode cX8_whistles 135 = .ok (.iload 9, 2) := by decide +kernel
theorem dX8_whistles_137 : decode cX8_whistles 137 = .ok (.ifCond .eq 7, 3) := by decide +kernel
theorem dX8_whistles_140 : decode cX8_whistles 140 = .ok (.iconst 1, 1) := by decide +kernel
theorem dX8_whistles_141 : decode cX8_whistles 141 = .ok (.goto 4, 3) := by decide +kernel
theorem dX8_whistles_144 : decode cX8_whistles 144 = .ok (.iconst 0, 1) := by decide +kernel
theorem dX8_whistles_145 : decode cX8_whistles 145 = .ok (.invokevirtual 124, 3) := by decide +kernel
theorem dX8_whistles_148 : decode cX8_whistles 148 = .ok (.aload_n 0, 1) := by decide +kernel
theorem dX8_whistles_149 : decode cX8_whistles 149 = .ok (.iload 7, 2) := by decide +kernel
theorem dX8_whistles_151 : decode cX8_whistles 151 = .ok (.iconst 4, 1) := by decide +kernel
theorem dX8_whistles_152 : decode cX8_whistles 152 = .ok (.iload 8, 2) := by decide +kernel
theorem dX8_whistles_154 : decode cX8_whistles 154 = .ok (.ifCond .eq 12, 3) := by decide +kernel
theorem dX8_whistles_157 : decode cX8_whistles 157 = .ok (.iload 9, 2) := by decide +kernel
theorem dX8_whistles_159 : decode cX8_whistles 159 = .ok (.ifCond .ne 7, 3) := by decide +kernel
theorem dX8_whistles_162 : decode cX8_whistles 162 = .ok (.iconst 1, 1) := by decide +kernel
theorem dX8_whistles_163 : decode cX8_whistles 163 = .ok (.goto 4, 3) := by decide +kernel
theorem dX8_whistles_166 : decode cX8_whistles 166 = .ok (.iconst 0, 1) := by decide +kernel
theorem dX8_whistles_167 : decode cX8_whistles 167 = .ok (.invokevirtual 124, 3) := by decide +kernel
theorem dX8_whistles_170 : decode cX8_whistles 170 = .ok (.aload_n 0, 1) := by decide +kernel
theorem dX8_whistles_171 : decode cX8_whistles 171 = .ok (.getfield 7, 3) := by decide +kernel
theorem dX8_whistles_174 : decode cX8_whistles 174 = .ok (.bipush 14, 2) := by decide +kernel
theorem dX8_whistles_176 : decode cX8_whistles 176 = .ok (.iconst 5, 1) := by decide +kernel
theorem dX8_whistles_177 : decode cX8_whistles 177 = .ok (.iload 7, 2) := by decide +kernel
theorem dX8_whistles_179 : decode cX8_whistles 179 = .ok (.imul, 1) := by decide +kernel
theorem dX8_whistles_180 : decode cX8_whistles 180 = .ok (.iadd, 1) := by decide +kernel
theorem dX8_whistles_181 : decode cX8_whistles 181 = .ok (.iconst 2, 1) := by decide +kernel
theorem dX8_whistles_182 : decode cX8_whistles 182 = .ok (.iadd, 1) := by decide +kernel
theorem dX8_whistles_183 : decode cX8_whistles 183 = .ok (.dup2, 1) := by decide +kernel
theorem dX8_whistles_184 : decode cX8_whistles 184 = .ok (.iaload, 1) := by decide +kernel
theorem dX8_whistles_185 : decode cX8_whistles 185 = .ok (.iload 5, 2) := by decide +kernel
theorem dX8_whistles_187 : decode cX8_whistles 187 = .ok (.iload 7, 2) := by decide +kernel
theorem dX8_whistles_189 : decode cX8_whistles 189 = .ok (.ishr, 1) := by decide +kernel
theorem dX8_whistles_190 : decode cX8_whistles 190 = .ok (.iconst 1, 1) := by decide +kernel
theorem dX8_whistles_191 : decode cX8_whistles 191 = .ok (.iand, 1) := by decide +kernel
theorem dX8_whistles_192 : decode cX8_whistles 192 = .ok (.ior, 1) := by decide +kernel
theorem dX8_whistles_193 : decode cX8_whistles 193 = .ok (.iastore, 1) := by decide +kernel
theorem dX8_whistles_194 : decode cX8_whistles 194 = .ok (.iinc 7 1, 3) := by decide +kernel
theorem dX8_whistles_197 : decode cX8_whistles 197 = .ok (.goto (-108), 3) := by decide +kernel
theorem dX8_whistles_200 : decode cX8_whistles 200 = .ok (.aload_n 0, 1) := by decide +kernel
theorem dX8_whistles_201 : decode cX8_whistles 201 = .ok (.iload_n 1, 1) := by decide +kernel
theorem dX8_whistles_202 : decode cX8_whistles 202 = .ok (.iconst 1, 1) := by decide +kernel
theorem dX8_whistles_203 : decode cX8_whistles 203 = .ok (.iload 6, 2) := by decide +kernel
theorem dX8_whistles_205 : decode cX8_whistles 205 = .ok (.invokestatic 127, 3) := by decide +kernel
theorem dX8_whistles_208 : decode cX8_whistles 208 = .ok (.invokevirtual 124, 3) := by decide +kernel
theorem dX8_whistles_211 : decode cX8_whistles 211 = .ok (.aload_n 0, 1) := by decide +kernel
theorem dX8_whistles_212 : decode cX8_whistles 212 = .ok (.iload_n 2, 1) := by decide +kernel
theorem dX8_whistles_213 : decode cX8_whistles 213 = .ok (.iconst 1, 1) := by decide +kernel
theorem dX8_whistles_214 : decode cX8_whistles 214 = .ok (.aload_n 0, 1) := by decide +kernel
theorem dX8_whistles_215 : decode cX8_whistles 215 = .ok (.iload_n 2, 1) := by decide +kernel
theorem dX8_whistles_216 : decode cX8_whistles 216 = .ok (.iconst 1, 1) := by decide +kernel
theorem dX8_whistles_217 : decode cX8_whistles 217 = .ok (.invokevirtual 74, 3) := by decide +kernel
theorem dX8_whistles_220 : decode cX8_whistles 220 = .ok (.iconst 1, 1) := by decide +kernel
theorem dX8_whistles_221 : decode cX8_whistles 221 = .ok (.iadd, 1) := by decide +kernel
theorem dX8_whistles_222 : decode cX8_whistles 222 = .ok (.invokevirtual 92, 3) := by decide +kernel
theorem dX8_whistles_225 : decode cX8_whistles 225 = .ok (.aload_n 0, 1) := by decide +kernel
theorem dX8_whistles_226 : decode cX8_whistles 226 = .ok (.iload_n 2, 1) := by decide +kernel
theorem dX8_whistles_227 : decode cX8_whistles 227 = .ok (.iconst 2, 1) := by decide +kernel
theorem dX8_whistles_228 : decode cX8_whistles 228 = .ok (.aload_n 0, 1) := by decide +kernel
theorem dX8_whistles_229 : decode cX8_whistles 229 = .ok (.iload_n 2, 1) := by decide +kernel
theorem dX8_whistles_230 : decode cX8_whistles 230 = .ok (.iconst 2, 1) := by decide +kernel
theorem dX8_whistles_231 : decode cX8_whistles 231 = .ok (.invokevirtual 74, 3) := by decide +kernel
theorem dX8_whistles_234 : decode cX8_whistles 234 = .ok (.iload 4, 2) := by decide +kernel
theorem dX8_whistles_236 : decode cX8_whistles 236 = .ok (.invokestatic 127, 3) := by decide +kernel
theorem dX8_whistles_239 : decode cX8_whistles 239 = .ok (.iadd, 1) := by decide +kernel
theorem dX8_whistles_240 : decode cX8_whistles 240 = .ok (.invokevirtual 92, 3) := by decide +kernel
theorem dX8_whistles_243 : decode cX8_whistles 243 = .ok (.aload_n 0, 1) := by decide +kernel
theorem dX8_whistles_244 : decode cX8_whistles 244 = .ok (.getfield 7, 3) := by decide +kernel
theorem dX8_whistles_247 : decode cX8_whistles 247 = .ok (.iconst 5, 1) := by decide +kernel
theorem dX8_whistles_248 : decode cX8_whistles 248 = .ok (.dup2, 1) := by decide +kernel
theorem dX8_whistles_249 : decode cX8_whistles 249 = .ok (.iaload, 1) := by decide +kernel
theorem dX8_whistles_250 : decode cX8_whistles 250 = .ok (.iconst 1, 1) := by decide +kernel
theorem dX8_whistles_251 : decode cX8_whistles 251 = .ok (.iadd, 1) := by decide +kernel
theorem dX8_whistles_252 : decode cX8_whistles 252 = .ok (.iastore, 1) := by decide +kernel
theorem dX8_whistles_253 : decode cX8_whistles 253 = .ok (.iload 4, 2) := by decide +kernel
theorem dX8_whistles_255 : decode cX8_whistles 255 = .ok (.invokestatic 127, 3) := by decide +kernel
theorem dX8_whistles_258 : decode cX8_whistles 258 = .ok (.ireturn, 1) := by decide +kernel
theorem dX8_rings_0 : decode cX8_rings 0 = .ok (.aload_n 0, 1) := by decide +kernel
theorem dX8_rings_1 : decode cX8_rings 1 = .ok (.getfield 7, 3) := by decide +kernel
theorem dX8_rings_4 : decode cX8_rings 4 = .ok (.iconst 0, 1) := by decide +kernel
theorem dX8_rings_5 : decode cX8_rings 5 = .ok (.dup2, 1) := by decide +kernel
theorem dX8_rings_6 : decode cX8_rings 6 = .ok (.iaload, 1) := by decide +kernel
theorem dX8_rings_7 : decode cX8_rings 7 = .ok (.iconst 1, 1) := by decide +kernel
theorem dX8_rings_8 : decode cX8_rings 8 = .ok (.iadd, 1) := by decide +kernel
theorem dX8_rings_9 : decode cX8_rings 9 = .ok (.iastore, 1) := by decide +kernel
theorem dX8_rings_10 : decode cX8_rings 10 = .ok (.iconst 0, 1) := by decide +kernel
theorem dX8_rings_11 : decode cX8_rings 11 = .ok (.istore_n 1, 1) := by decide +kernel
theorem dX8_rings_12 : decode cX8_rings 12 = .ok (.iload_n 1, 1) := by decide +kernel
theorem dX8_rings_13 : decode cX8_rings 13 = .ok (.bipush 6, 2) := by decide +kernel
theorem dX8_rings_15 : decode cX8_rings 15 = .ok (.if_icmp .ge 56, 3) := by decide +kernel
theorem dX8_rings_18 : decode cX8_rings 18 = .ok (.aload_n 0, 1) := by decide +kernel
theorem dX8_rings_19 : decode cX8_rings 19 = .ok (.getfield 7, 3) := by decide +kernel
theorem dX8_rings_22 : decode cX8_rings 22 = .ok (.bipush 14, 2) := by decide +kernel
theorem dX8_rings_24 : decode cX8_rings 24 = .ok (.iconst 5, 1) := by decide +kernel
theorem dX8_rings_25 : decode cX8_rings 25 = .ok (.iload_n 1, 1) := by decide +kernel
theorem dX8_rings_26 : decode cX8_rings 26 = .ok (.imul, 1) := by decide +kernel
theorem dX8_rings_27 : decode cX8_rings 27 = .ok (.iadd, 1) := by decide +kernel
theorem dX8_rings_28 : decode cX8_rings 28 = .ok (.iconst 2, 1) := by decide +kernel
theorem dX8_rings_29 : decode cX8_rings 29 = .ok (.iadd, 1) := by decide +kernel
theorem dX8_rings_30 : decode cX8_rings 30 = .ok (.iconst 0, 1) := by decide +kernel
theorem dX8_rings_31 : decode cX8_rings 31 = .ok (.iastore, 1) := by decide +kernel
theorem dX8_rings_32 : decode cX8_rings 32 = .ok (.aload_n 0, 1) := by decide +kernel
theorem dX8_rings_33 : decode cX8_rings 33 = .ok (.getfield 7, 3) := by decide +kernel
theorem dX8_rings_36 : decode cX8_rings 36 = .ok (.bipush 14, 2) := by decide +kernel
theorem dX8_rings_38 : decode cX8_rings 38 = .ok (.iconst 5, 1) := by decide +kernel
theorem dX8_rings_39 : decode cX8_rings 39 = .ok (.iload_n 1, 1) := by decide +kernel
theorem dX8_rings_40 : decode cX8_rings 40 = .ok (.imul, 1) := by decide +kernel
theorem dX8_rings_41 : decode cX8_rings 41 = .ok (.iadd, 1) := by decide +kernel
theorem dX8_rings_42 : decode cX8_rings 42 = .ok (.iconst 1, 1) := by decide +kernel
theorem dX8_rings_43 : decode cX8_rings 43 = .ok (.iadd, 1) := by decide +kernel
theorem dX8_rings_44 : decode cX8_rings 44 = .ok (.dup2, 1) := by decide +kernel
theorem dX8_rings_45 : decode cX8_rings 45 = .ok (.iaload, 1) := by decide +kernel
theorem dX8_rings_46 : decode cX8_rings 46 = .ok (.aload_n 0, 1) := by decide +kernel
theorem dX8_rings_47 : decode cX8_rings 47 = .ok (.getfield 7, 3) := by decide +kernel
theorem dX8_rings_50 : decode cX8_rings 50 = .ok (.iconst 0, 1) := by decide +kernel
theorem dX8_rings_51 : decode cX8_rings 51 = .ok (.iaload, 1) := by decide +kernel
theorem dX8_rings_52 : decode cX8_rings 52 = .ok (.bipush 7, 2) := by decide +kernel
theorem dX8_rings_54 : decode cX8_rings 54 = .ok (.irem, 1) := by decide +kernel
theorem dX8_rings_55 : decode cX8_rings 55 = .ok (.ifCond .ne 7, 3) := by decide +kernel
theorem dX8_rings_58 : decode cX8_rings 58 = .ok (.iconst 0, 1) := by decide +kernel
theorem dX8_rings_59 : decode cX8_rings 59 = .ok (.goto 4, 3) := by decide +kernel
theorem dX8_rings_62 : decode cX8_rings 62 = .ok (.iconst 1, 1) := by decide +kernel
theorem dX8_rings_63 : decode cX8_rings 63 = .ok (.imul, 1) := by decide +kernel
theorem dX8_rings_64 : decode cX8_rings 64 = .ok (.iastore, 1) := by decide +kernel
theorem dX8_rings_65 : decode cX8_rings 65 = .ok (.iinc 1 1, 3) := by decide +kernel
theorem dX8_rings_68 : decode cX8_rings 68 = .ok (.goto (-56), 3) := by decide +kernel
theorem dX8_rings_71 : decode cX8_rings 71 = .ok (.aload_n 0, 1) := by decide +kernel
theorem dX8_rings_72 : decode cX8_rings 72 = .ok (.getfield 7, 3) := by decide +kernel
theorem dX8_rings_75 : decode cX8_rings 75 = .ok (.iconst 0, 1) := by decide +kernel
theorem dX8_rings_76 : decode cX8_rings 76 = .ok (.iaload, 1) := by decide +kernel
theorem dX8_rings_77 : decode cX8_rings 77 = .ok (.ireturn, 1) := by decide +kernel
theorem dX8_changeKey_0 : decode cX8_changeKey 0 = .ok (.aload_n 0, 1) := by decide +kernel
theorem dX8_changeKey_1 : decode cX8_changeKey 1 = .ok (.getfield 7, 3) := by decide +kernel
theorem dX8_changeKey_4 : decode cX8_changeKey 4 = .ok (.iconst 1, 1) := by decide +kernel
theorem dX8_changeKey_5 : decode cX8_changeKey 5 = .ok (.iaload, 1) := by decide +kernel
theorem dX8_changeKey_6 : decode cX8_changeKey 6 = .ok (.istore_n 2, 1) := by decide +kernel
theorem dX8_changeKey_7 : decode cX8_changeKey 7 = .ok (.aload_n 0, 1) := by decide +kernel
theorem dX8_changeKey_8 : decode cX8_changeKey 8 = .ok (.getfield 7, 3) := by decide +kernel
theorem dX8_changeKey_11 : decode cX8_changeKey 11 = .ok (.iconst 1, 1) := by decide +kernel
theorem dX8_changeKey_12 : decode cX8_changeKey 12 = .ok (.iload_n 1, 1) := by decide +kernel
theorem dX8_changeKey_13 : decode cX8_changeKey 13 = .ok (.iastore, 1) := by decide +kernel
theorem dX8_changeKey_14 : decode cX8_changeKey 14 = .ok (.iload_n 2, 1) := by decide +kernel
theorem dX8_changeKey_15 : decode cX8_changeKey 15 = .ok (.ireturn, 1) := by decide +kernel
set_option maxRecDepth 20000 in
theorem ggX8_tells_X8_ofRoom : GoodIn wsX8_tells wsX8_ofRoom := goodIn_r _ [6, 1, 7, 8, 9, 10, 11, 12, 13, 14, 15, 16, 17, 18, 19, 20, 21, 22] (by decide +kernel) (by decide +kernel)
set_option maxRecDepth 20000 in
theorem gX8_tells_X8_ofRoom : GoodIn wsX8_tells (wsV RX8 109 RX8 yX8_ofRoom wsX8_ofRoom) := goodIn_app (goodIn_of _ (by decide +kernel)) ggX8_tells_X8_ofRoom
theorem dX8_tells_0 : decode cX8_tells 0 = .ok (.aload_n 0, 1) := by decide +kernel
theorem dX8_tells_1 : decode cX8_tells 1 = .ok (.iload_n 1, 1) := by decide +kernel
theorem dX8_tells_2 : decode cX8_tells 2 = .ok (.iconst 0, 1) := by decide +kernel
theorem dX8_tells_3 : decode cX8_tells 3 = .ok (.invokevirtual 109, 3) := by decide +kernel
theorem dX8_tells_6 : decode cX8_tells 6 = .ok (.istore_n 2, 1) := by decide +kernel
theorem dX8_tells_7 : decode cX8_tells 7 = .ok (.aload_n 0, 1) := by decide +kernel
theorem dX8_tells_8 : decode cX8_tells 8 = .ok (.getfield 7, 3) := by decide +kernel
theorem dX8_tells_11 : decode cX8_tells 11 = .ok (.bipush 14, 2) := by decide +kernel
theorem dX8_tells_13 : decode cX8_tells 13 = .ok (.iconst 5, 1) := by decide +kernel
theorem dX8_tells_14 : decode cX8_tells 14 = .ok (.iload_n 1, 1) := by decide +kernel
theorem dX8_tells_15 : decode cX8_tells 15 = .ok (.imul, 1) := by decide +kernel
theorem dX8_tells_16 : decode cX8_tells 16 = .ok (.iadd, 1) := by decide +kernel
theorem dX8_tells_17 : decode cX8_tells 17 = .ok (.iconst 0, 1) := by decide +kernel
theorem dX8_tells_18 : decode cX8_tells 18 = .ok (.iadd, 1) := by decide +kernel
theorem dX8_tells_19 : decode cX8_tells 19 = .ok (.aload_n 0, 1) := by decide +kernel
theorem dX8_tells_20 : decode cX8_tells 20 = .ok (.getfield 7, 3) := by decide +kernel
theorem dX8_tells_23 : decode cX8_tells 23 = .ok (.iconst 1, 1) := by decide +kernel
theorem dX8_tells_24 : decode cX8_tells 24 = .ok (.iaload, 1) := by decide +kernel
theorem dX8_tells_25 : decode cX8_tells 25 = .ok (.iastore, 1) := by decide +kernel
theorem dX8_tells_26 : decode cX8_tells 26 = .ok (.iload_n 2, 1) := by decide +kernel
theorem dX8_tells_27 : decode cX8_tells 27 = .ok (.ireturn, 1) := by decide +kernel
set_option maxRecDepth 20000 in
theorem ggX8_isTuneText_X8_readsTune : GoodIn wsX8_isTuneText wsX8_readsTune := goodIn_r _ [7, 8, 1, 9, 10, 11, 12, 6, 13, 2, 14, 15, 16, 17, 18, 19, 20, 21, 22, 23, 24, 25, 26, 27, 28, 29, 30, 31, 32, 33, 34, 35, 36, 37, 38, 39, 40, 41, 42, 43, 44, 45] (by decide +kernel) (by decide +kernel)
set_option maxRecDepth 20000 in
theorem gX8_isTuneText_X8_readsTune : GoodIn wsX8_isTuneText (wsV RX8 130 RX8 yX8_readsTune wsX8_readsTune) := goodIn_app (goodIn_of _ (by decide +kernel)) ggX8_isTuneText_X8_readsTune
theorem dX8_isTuneText_0 : decode cX8_isTuneText 0 = .ok (.aload_n 0, 1) := by decide +kernel
theorem dX8_isTuneText_1 : decode cX8_isTuneText 1 = .ok (.iconst 0, 1) := by decide +kernel
theorem dX8_isTuneText_2 : decode cX8_isTuneText 2 = .ok (.putfield 50, 3) := by decide +kernel
theorem dX8_isTuneText_5 : decode cX8_isTuneText 5 = .ok (.aload_n 0, 1) := by decide +kernel
theorem dX8_isTuneText_6 : decode cX8_isTuneText 6 = .ok (.invokevirtual 130, 3) := by decide +kernel
theorem dX8_isTuneText_9 : decode cX8_isTuneText 9 = .ok (.ifCond .eq 18, 3) := by decide +kernel
theorem dX8_isTuneText_12 : decode cX8_isTuneText 12 = .ok (.aload_n 0, 1) := by decide +kernel
theorem dX8_isTuneText_13 : decode cX8_isTuneText 13 = .ok (.getfield 50, 3) := by decide +kernel
theorem dX8_isTuneText_16 : decode cX8_isTuneText 16 = .ok (.aload_n 0, 1) := by decide +kernel
theorem dX8_isTuneText_17 : decode cX8_isTuneText 17 = .ok (.getfield 53, 3) := by decide +kernel
theorem dX8_isTuneText_20 : decode cX8_isTuneText 20 = .ok (.if_icmp .ne 7, 3) := by decide +kernel
theorem dX8_isTuneText_23 : decode cX8_isTuneText 23 = .ok (.iconst 1, 1) := by decide +kernel
theorem dX8_isTuneText_24 : decode cX8_isTuneText 24 = .ok (.goto 4, 3) := by decide +kernel
theorem dX8_isTuneText_27 : decode cX8_isTuneText 27 = .ok (.iconst 0, 1) := by decide +kernel
theorem dX8_isTuneText_28 : decode cX8_isTuneText 28 = .ok (.ireturn, 1) := by decide +kernel
set_option maxRecDepth 20000 in
theorem ggX8_teach_X8_isMessage : GoodIn wsX8_teach wsX8_isMessage := goodIn_r _ [6, 7, 8, 5, 9] (by decide +kernel) (by decide +kernel)
set_option maxRecDepth 20000 in
theorem gX8_teach_X8_isMessage : GoodIn wsX8_teach (va_wsS RX8 133 yX8_isMessage wsX8_isMessage) := goodIn_app (goodIn_of _ (by decide +kernel)) ggX8_teach_X8_isMessage
set_option maxRecDepth 20000 in
theorem ggX8_teach_X8_fails : GoodIn wsX8_teach wsX8_fails := goodIn_r _ [13, 1, 81, 82, 83, 84, 85, 86, 87, 88, 89, 90, 91, 92, 93, 94, 95, 96] (by decide +kernel) (by decide +kernel)
set_option maxRecDepth 20000 in
theorem gX8_teach_X8_fails : GoodIn wsX8_teach (wsV RX8 39 RX8 yX8_fails wsX8_fails) := goodIn_app (goodIn_of _ (by decide +kernel)) ggX8_teach_X8_fails
set_option maxRecDepth 20000 in
theorem ggX8_teach_X8_isTuneText : GoodIn wsX8_teach wsX8_isTuneText := goodIn_r _ [17, 18, 2, 19, 20, 21, 5, 22, 23, 24, 25, 26, 27, 28, 29, 30, 31, 32, 33, 34, 35, 36, 37, 7, 8, 9, 38, 39, 40, 41, 81, 82, 83, 84, 85, 86, 87, 88, 89, 90, 91, 92, 93, 94, 95, 96] (by decide +kernel) (by decide +kernel)
set_option maxRecDepth 20000 in
theorem gX8_teach_X8_isTuneText : GoodIn wsX8_teach (wsV RX8 136 RX8 yX8_isTuneText wsX8_isTuneText) := goodIn_app (goodIn_of _ (by decide +kernel)) ggX8_teach_X8_isTuneText
set_option maxRecDepth 20000 in
theorem ggX8_teach_X8_whyNotTaught : GoodIn wsX8_teach wsX8_whyNotTaught := goodIn_r _ [45, 46, 47, 48, 5, 49, 23, 7, 8, 9, 50, 51, 52, 53, 54, 55, 56, 57, 58, 59, 60, 61, 62, 63, 64, 65, 66, 37, 81, 82, 83, 84, 85, 86, 87, 88, 89, 90, 91, 92, 93, 94, 95, 96] (by decide +kernel) (by decide +kernel)
set_option maxRecDepth 20000 in
theorem gX8_teach_X8_whyNotTaught : GoodIn wsX8_teach (wsV RX8 139 RX8 yX8_whyNotTaught wsX8_whyNotTaught) := goodIn_app (goodIn_of _ (by decide +kernel)) ggX8_teach_X8_whyNotTaught
set_option maxRecDepth 20000 in
theorem ggX8_teach_X8_save : GoodIn wsX8_teach wsX8_save := goodIn_r _ [70, 71, 72, 58, 81, 82, 83, 84, 85, 86, 87, 88, 89, 90, 91, 92, 93, 94, 95, 96] (by decide +kernel) (by decide +kernel)
set_option maxRecDepth 20000 in
theorem gX8_teach_X8_save : GoodIn wsX8_teach (wsV RX8 47 RX8 yX8_save wsX8_save) := goodIn_app (goodIn_of _ (by decide +kernel)) ggX8_teach_X8_save
set_option maxRecDepth 20000 in
theorem ggX8_teach_X8_teaches : GoodIn wsX8_teach wsX8_teaches := goodIn_r _ [76, 23, 37, 77, 78, 79, 5, 80, 58, 81, 82, 83, 84, 85, 86, 87, 88, 89, 90, 91, 92, 93, 94, 95, 96] (by decide +kernel) (by decide +kernel)
set_option maxRecDepth 20000 in
theorem gX8_teach_X8_teaches : GoodIn wsX8_teach (wsV RX8 142 RX8 yX8_teaches wsX8_teaches) := goodIn_app (goodIn_of _ (by decide +kernel)) ggX8_teach_X8_teaches
theorem dX8_teach_0 : decode cX8_teach 0 = .ok (.aload_n 0, 1) := by decide +kernel
theorem dX8_teach_1 : decode cX8_teach 1 = .ok (.iconst 0, 1) := by decide +kernel
theorem dX8_teach_2 : decode cX8_teach 2 = .ok (.putfield 28, 3) := by decide +kernel
theorem dX8_teach_5 : decode cX8_teach 5 = .ok (.iload_n 1, 1) := by decide +kernel
theorem dX8_teach_6 : decode cX8_teach 6 = .ok (.invokestatic 133, 3) := by decide +kernel
theorem dX8_teach_9 : decode cX8_teach 9 = .ok (.ifCond .ne 9, 3) := by decide +kernel
theorem dX8_teach_12 : decode cX8_teach 12 = .ok (.aload_n 0, 1) := by decide +kernel
theorem dX8_teach_13 : decode cX8_teach 13 = .ok (.iconst 1, 1) := by decide +kernel
theorem dX8_teach_14 : decode cX8_teach 14 = .ok (.invokevirtual 39, 3) := by decide +kernel
theorem dX8_teach_17 : decode cX8_teach 17 = .ok (.ireturn, 1) := by decide +kernel
theorem dX8_teach_18 : decode cX8_teach 18 = .ok (.aload_n 0, 1) := by decide +kernel
theorem dX8_teach_19 : decode cX8_teach 19 = .ok (.invokevirtual 136, 3) := by decide +kernel
theorem dX8_teach_22 : decode cX8_teach 22 = .ok (.ifCond .ne 9, 3) := by decide +kernel
theorem dX8_teach_25 : decode cX8_teach 25 = .ok (.aload_n 0, 1) := by decide +kernel
theorem dX8_teach_26 : decode cX8_teach 26 = .ok (.iconst 2, 1) := by decide +kernel
theorem dX8_teach_27 : decode cX8_teach 27 = .ok (.invokevirtual 39, 3) := by decide +kernel
theorem dX8_teach_30 : decode cX8_teach 30 = .ok (.ireturn, 1) := by decide +kernel
theorem dX8_teach_31 : decode cX8_teach 31 = .ok (.aload_n 0, 1) := by decide +kernel
theorem dX8_teach_32 : decode cX8_teach 32 = .ok (.iload_n 1, 1) := by decide +kernel
theorem dX8_teach_33 : decode cX8_teach 33 = .ok (.invokevirtual 139, 3) := by decide +kernel
theorem dX8_teach_36 : decode cX8_teach 36 = .ok (.ifCond .eq 9, 3) := by decide +kernel
theorem dX8_teach_39 : decode cX8_teach 39 = .ok (.aload_n 0, 1) := by decide +kernel
theorem dX8_teach_40 : decode cX8_teach 40 = .ok (.iconst 3, 1) := by decide +kernel
theorem dX8_teach_41 : decode cX8_teach 41 = .ok (.invokevirtual 39, 3) := by decide +kernel
theorem dX8_teach_44 : decode cX8_teach 44 = .ok (.ireturn, 1) := by decide +kernel
theorem dX8_teach_45 : decode cX8_teach 45 = .ok (.aload_n 0, 1) := by decide +kernel
theorem dX8_teach_46 : decode cX8_teach 46 = .ok (.invokevirtual 47, 3) := by decide +kernel
theorem dX8_teach_49 : decode cX8_teach 49 = .ok (.aload_n 0, 1) := by decide +kernel
theorem dX8_teach_50 : decode cX8_teach 50 = .ok (.iconst 0, 1) := by decide +kernel
theorem dX8_teach_51 : decode cX8_teach 51 = .ok (.putfield 53, 3) := by decide +kernel
theorem dX8_teach_54 : decode cX8_teach 54 = .ok (.aload_n 0, 1) := by decide +kernel
theorem dX8_teach_55 : decode cX8_teach 55 = .ok (.iload_n 1, 1) := by decide +kernel
theorem dX8_teach_56 : decode cX8_teach 56 = .ok (.invokevirtual 142, 3) := by decide +kernel
theorem dX8_teach_59 : decode cX8_teach 59 = .ok (.ireturn, 1) := by decide +kernel
set_option maxRecDepth 20000 in
theorem ggX8_forget_X8_isMessage : GoodIn wsX8_forget wsX8_isMessage := goodIn_r _ [6, 7, 8, 5, 9] (by decide +kernel) (by decide +kernel)
set_option maxRecDepth 20000 in
theorem gX8_forget_X8_isMessage : GoodIn wsX8_forget (va_wsS RX8 133 yX8_isMessage wsX8_isMessage) := goodIn_app (goodIn_of _ (by decide +kernel)) ggX8_forget_X8_isMessage
set_option maxRecDepth 20000 in
theorem ggX8_forget_X8_fails : GoodIn wsX8_forget wsX8_fails := goodIn_r _ [13, 1, 34, 35, 36, 37, 38, 39, 40, 41, 42, 43, 44, 45, 46, 47, 48, 49] (by decide +kernel) (by decide +kernel)
set_option maxRecDepth 20000 in
theorem gX8_forget_X8_fails : GoodIn wsX8_forget (wsV RX8 39 RX8 yX8_fails wsX8_fails) := goodIn_app (goodIn_of _ (by decide +kernel)) ggX8_forget_X8_fails
set_option maxRecDepth 20000 in
theorem ggX8_forget_X8_save : GoodIn wsX8_forget wsX8_save := goodIn_r _ [17, 18, 19, 20, 34, 35, 36, 37, 38, 39, 40, 41, 42, 43, 44, 45, 46, 47, 48, 49] (by decide +kernel) (by decide +kernel)
set_option maxRecDepth 20000 in
theorem gX8_forget_X8_save : GoodIn wsX8_forget (wsV RX8 47 RX8 yX8_save wsX8_save) := goodIn_app (goodIn_of _ (by decide +kernel)) ggX8_forget_X8_save
set_option maxRecDepth 20000 in
theorem ggX8_forget_X8_ofMessage : GoodIn wsX8_forget wsX8_ofMessage := goodIn_r _ [24, 20, 34, 35, 36, 37, 38, 39, 40, 41, 42, 43, 44, 45, 46, 47, 48, 49] (by decide +kernel) (by decide +kernel)
set_option maxRecDepth 20000 in
theorem gX8_forget_X8_ofMessage : GoodIn wsX8_forget (wsV RX8 74 RX8 yX8_ofMessage wsX8_ofMessage) := goodIn_app (goodIn_of _ (by decide +kernel)) ggX8_forget_X8_ofMessage
set_option maxRecDepth 20000 in
theorem ggX8_forget_X8_teaches : GoodIn wsX8_forget wsX8_teaches := goodIn_r _ [28, 2, 29, 30, 31, 32, 5, 33, 20, 34, 35, 36, 37, 38, 39, 40, 41, 42, 43, 44, 45, 46, 47, 48, 49] (by decide +kernel) (by decide +kernel)
set_option maxRecDepth 20000 in
theorem gX8_forget_X8_teaches : GoodIn wsX8_forget (wsV RX8 142 RX8 yX8_teaches wsX8_teaches) := goodIn_app (goodIn_of _ (by decide +kernel)) ggX8_forget_X8_teaches
theorem dX8_forget_0 : decode cX8_forget 0 = .ok (.aload_n 0, 1) := by decide +kernel
theorem dX8_forget_1 : decode cX8_forget 1 = .ok (.iconst 0, 1) := by decide +kernel
theorem dX8_forget_2 : decode cX8_forget 2 = .ok (.putfield 28, 3) := by decide +kernel
theorem dX8_forget_5 : decode cX8_forget 5 = .ok (.iload_n 1, 1) := by decide +kernel
theorem dX8_forget_6 : decode cX8_forget 6 = .ok (.invokestatic 133, 3) := by decide +kernel
theorem dX8_forget_9 : decode cX8_forget 9 = .ok (.ifCond .ne 9, 3) := by decide +kernel
theorem dX8_forget_12 : decode cX8_forget 12 = .ok (.aload_n 0, 1) := by decide +kernel
theorem dX8_forget_13 : decode cX8_forget 13 = .ok (.iconst 1, 1) := by decide +kernel
theorem dX8_forget_14 : decode cX8_forget 14 = .ok (.invokevirtual 39, 3) := by decide +kernel
theorem dX8_forget_17 : decode cX8_forget 17 = .ok (.ireturn, 1) := by decide +kernel
theorem dX8_forget_18 : decode cX8_forget 18 = .ok (.aload_n 0, 1) := by decide +kernel
theorem dX8_forget_19 : decode cX8_forget 19 = .ok (.invokevirtual 47, 3) := by decide +kernel
theorem dX8_forget_22 : decode cX8_forget 22 = .ok (.aload_n 0, 1) := by decide +kernel
theorem dX8_forget_23 : decode cX8_forget 23 = .ok (.iload_n 1, 1) := by decide +kernel
theorem dX8_forget_24 : decode cX8_forget 24 = .ok (.iconst 0, 1) := by decide +kernel
theorem dX8_forget_25 : decode cX8_forget 25 = .ok (.invokevirtual 74, 3) := by decide +kernel
theorem dX8_forget_28 : decode cX8_forget 28 = .ok (.istore_n 2, 1) := by decide +kernel
theorem dX8_forget_29 : decode cX8_forget 29 = .ok (.aload_n 0, 1) := by decide +kernel
theorem dX8_forget_30 : decode cX8_forget 30 = .ok (.iconst 0, 1) := by decide +kernel
theorem dX8_forget_31 : decode cX8_forget 31 = .ok (.putfield 60, 3) := by decide +kernel
theorem dX8_forget_34 : decode cX8_forget 34 = .ok (.aload_n 0, 1) := by decide +kernel
theorem dX8_forget_35 : decode cX8_forget 35 = .ok (.iload_n 1, 1) := by decide +kernel
theorem dX8_forget_36 : decode cX8_forget 36 = .ok (.invokevirtual 142, 3) := by decide +kernel
theorem dX8_forget_39 : decode cX8_forget 39 = .ok (.iload_n 2, 1) := by decide +kernel
theorem dX8_forget_40 : decode cX8_forget 40 = .ok (.iadd, 1) := by decide +kernel
theorem dX8_forget_41 : decode cX8_forget 41 = .ok (.ireturn, 1) := by decide +kernel
set_option maxRecDepth 20000 in
theorem ggX8_key_X8_isKey : GoodIn wsX8_key wsX8_isKey := goodIn_r _ [5, 6, 7, 4, 8] (by decide +kernel) (by decide +kernel)
set_option maxRecDepth 20000 in
theorem gX8_key_X8_isKey : GoodIn wsX8_key (va_wsS RX8 145 yX8_isKey wsX8_isKey) := goodIn_app (goodIn_of _ (by decide +kernel)) ggX8_key_X8_isKey
set_option maxRecDepth 20000 in
theorem ggX8_key_X8_fails : GoodIn wsX8_key wsX8_fails := goodIn_r _ [12, 1, 24, 25, 26, 27, 28, 29, 30, 31, 32, 33, 34, 35, 36, 37, 38, 39] (by decide +kernel) (by decide +kernel)
set_option maxRecDepth 20000 in
theorem gX8_key_X8_fails : GoodIn wsX8_key (wsV RX8 39 RX8 yX8_fails wsX8_fails) := goodIn_app (goodIn_of _ (by decide +kernel)) ggX8_key_X8_fails
set_option maxRecDepth 20000 in
theorem ggX8_key_X8_save : GoodIn wsX8_key wsX8_save := goodIn_r _ [16, 17, 18, 19, 24, 25, 26, 27, 28, 29, 30, 31, 32, 33, 34, 35, 36, 37, 38, 39] (by decide +kernel) (by decide +kernel)
set_option maxRecDepth 20000 in
theorem gX8_key_X8_save : GoodIn wsX8_key (wsV RX8 47 RX8 yX8_save wsX8_save) := goodIn_app (goodIn_of _ (by decide +kernel)) ggX8_key_X8_save
set_option maxRecDepth 20000 in
theorem ggX8_key_X8_changeKey : GoodIn wsX8_key wsX8_changeKey := goodIn_r _ [23, 19, 24, 25, 26, 27, 28, 29, 30, 31, 32, 33, 34, 35, 36, 37, 38, 39] (by decide +kernel) (by decide +kernel)
set_option maxRecDepth 20000 in
theorem gX8_key_X8_changeKey : GoodIn wsX8_key (wsV RX8 148 RX8 yX8_changeKey wsX8_changeKey) := goodIn_app (goodIn_of _ (by decide +kernel)) ggX8_key_X8_changeKey
theorem dX8_key_0 : decode cX8_key 0 = .ok (.aload_n 0, 1) := by decide +kernel
theorem dX8_key_1 : decode cX8_key 1 = .ok (.iconst 0, 1) := by decide +kernel
theorem dX8_key_2 : decode cX8_key 2 = .ok (.putfield 28, 3) := by decide +kernel
theorem dX8_key_5 : decode cX8_key 5 = .ok (.iload_n 1, 1) := by decide +kernel
theorem dX8_key_6 : decode cX8_key 6 = .ok (.invokestatic 145, 3) := by decide +kernel
theorem dX8_key_9 : decode cX8_key 9 = .ok (.ifCond .ne 9, 3) := by decide +kernel
theorem dX8_key_12 : decode cX8_key 12 = .ok (.aload_n 0, 1) := by decide +kernel
theorem dX8_key_13 : decode cX8_key 13 = .ok (.iconst 1, 1) := by decide +kernel
theorem dX8_key_14 : decode cX8_key 14 = .ok (.invokevirtual 39, 3) := by decide +kernel
theorem dX8_key_17 : decode cX8_key 17 = .ok (.ireturn, 1) := by decide +kernel
theorem dX8_key_18 : decode cX8_key 18 = .ok (.aload_n 0, 1) := by decide +kernel
theorem dX8_key_19 : decode cX8_key 19 = .ok (.invokevirtual 47, 3) := by decide +kernel
theorem dX8_key_22 : decode cX8_key 22 = .ok (.aload_n 0, 1) := by decide +kernel
theorem dX8_key_23 : decode cX8_key 23 = .ok (.iload_n 1, 1) := by decide +kernel
theorem dX8_key_24 : decode cX8_key 24 = .ok (.invokevirtual 148, 3) := by decide +kernel
theorem dX8_key_27 : decode cX8_key 27 = .ok (.ireturn, 1) := by decide +kernel
set_option maxRecDepth 20000 in
theorem ggX8_tell_X8_isRoom : GoodIn wsX8_tell wsX8_isRoom := goodIn_r _ [5, 6, 7, 4, 8] (by decide +kernel) (by decide +kernel)
set_option maxRecDepth 20000 in
theorem gX8_tell_X8_isRoom : GoodIn wsX8_tell (va_wsS RX8 151 yX8_isRoom wsX8_isRoom) := goodIn_app (goodIn_of _ (by decide +kernel)) ggX8_tell_X8_isRoom
set_option maxRecDepth 20000 in
theorem ggX8_tell_X8_fails : GoodIn wsX8_tell wsX8_fails := goodIn_r _ [12, 1, 28, 29, 30, 31, 32, 33, 34, 35, 36, 37, 38, 39, 40, 41, 42, 43] (by decide +kernel) (by decide +kernel)
set_option maxRecDepth 20000 in
theorem gX8_tell_X8_fails : GoodIn wsX8_tell (wsV RX8 39 RX8 yX8_fails wsX8_fails) := goodIn_app (goodIn_of _ (by decide +kernel)) ggX8_tell_X8_fails
set_option maxRecDepth 20000 in
theorem ggX8_tell_X8_save : GoodIn wsX8_tell wsX8_save := goodIn_r _ [16, 17, 18, 19, 28, 29, 30, 31, 32, 33, 34, 35, 36, 37, 38, 39, 40, 41, 42, 43] (by decide +kernel) (by decide +kernel)
set_option maxRecDepth 20000 in
theorem gX8_tell_X8_save : GoodIn wsX8_tell (wsV RX8 47 RX8 yX8_save wsX8_save) := goodIn_app (goodIn_of _ (by decide +kernel)) ggX8_tell_X8_save
set_option maxRecDepth 20000 in
theorem ggX8_tell_X8_tells : GoodIn wsX8_tell wsX8_tells := goodIn_r _ [23, 19, 24, 25, 26, 4, 27, 28, 29, 30, 31, 32, 33, 34, 35, 36, 37, 38, 39, 40, 41, 42, 43] (by decide +kernel) (by decide +kernel)
set_option maxRecDepth 20000 in
theorem gX8_tell_X8_tells : GoodIn wsX8_tell (wsV RX8 154 RX8 yX8_tells wsX8_tells) := goodIn_app (goodIn_of _ (by decide +kernel)) ggX8_tell_X8_tells
theorem dX8_tell_0 : decode cX8_tell 0 = .ok (.aload_n 0, 1) := by decide +kernel
theorem dX8_tell_1 : decode cX8_tell 1 = .ok (.iconst 0, 1) := by decide +kernel
theorem dX8_tell_2 : decode cX8_tell 2 = .ok (.putfield 28, 3) := by decide +kernel
theorem dX8_tell_5 : decode cX8_tell 5 = .ok (.iload_n 1, 1) := by decide +kernel
theorem dX8_tell_6 : decode cX8_tell 6 = .ok (.invokestatic 151, 3) := by decide +kernel
theorem dX8_tell_9 : decode cX8_tell 9 = .ok (.ifCond .ne 9, 3) := by decide +kernel
theorem dX8_tell_12 : decode cX8_tell 12 = .ok (.aload_n 0, 1) := by decide +kernel
theorem dX8_tell_13 : decode cX8_tell 13 = .ok (.iconst 1, 1) := by decide +kernel
theorem dX8_tell_14 : decode cX8_tell 14 = .ok (.invokevirtual 39, 3) := by decide +kernel
theorem dX8_tell_17 : decode cX8_tell 17 = .ok (.ireturn, 1) := by decide +kernel
theorem dX8_tell_18 : decode cX8_tell 18 = .ok (.aload_n 0, 1) := by decide +kernel
theorem dX8_tell_19 : decode cX8_tell 19 = .ok (.invokevirtual 47, 3) := by decide +kernel
theorem dX8_tell_22 : decode cX8_tell 22 = .ok (.aload_n 0, 1) := by decide +kernel
theorem dX8_tell_23 : decode cX8_tell 23 = .ok (.iload_n 1, 1) := by decide +kernel
theorem dX8_tell_24 : decode cX8_tell 24 = .ok (.invokevirtual 154, 3) := by decide +kernel
theorem dX8_tell_27 : decode cX8_tell 27 = .ok (.ireturn, 1) := by decide +kernel
set_option maxRecDepth 20000 in
theorem ggX8_lookout_X8_within : GoodIn wsX8_lookout wsX8_within := goodIn_r _ [6] (by decide +kernel) (by decide +kernel)
set_option maxRecDepth 20000 in
theorem gX8_lookout_X8_within : GoodIn wsX8_lookout (va_wsS RX8 32 yX8_within wsX8_within) := goodIn_app (goodIn_of _ (by decide +kernel)) ggX8_lookout_X8_within
set_option maxRecDepth 20000 in
theorem ggX8_lookout_X8_fails : GoodIn wsX8_lookout wsX8_fails := goodIn_r _ [10, 1, 20, 21, 22, 23, 24, 25, 26, 27, 28, 29, 30, 31, 32, 33, 34, 35] (by decide +kernel) (by decide +kernel)
set_option maxRecDepth 20000 in
theorem gX8_lookout_X8_fails : GoodIn wsX8_lookout (wsV RX8 39 RX8 yX8_fails wsX8_fails) := goodIn_app (goodIn_of _ (by decide +kernel)) ggX8_lookout_X8_fails
set_option maxRecDepth 20000 in
theorem ggX8_lookout_X8_save : GoodIn wsX8_lookout wsX8_save := goodIn_r _ [14, 15, 16, 2, 20, 21, 22, 23, 24, 25, 26, 27, 28, 29, 30, 31, 32, 33, 34, 35] (by decide +kernel) (by decide +kernel)
set_option maxRecDepth 20000 in
theorem gX8_lookout_X8_save : GoodIn wsX8_lookout (wsV RX8 47 RX8 yX8_save wsX8_save) := goodIn_app (goodIn_of _ (by decide +kernel)) ggX8_lookout_X8_save
set_option maxRecDepth 20000 in
theorem ggX8_lookout_X8_ones : GoodIn wsX8_lookout wsX8_ones := goodIn_r _ [19] (by decide +kernel) (by decide +kernel)
set_option maxRecDepth 20000 in
theorem gX8_lookout_X8_ones : GoodIn wsX8_lookout (va_wsS RX8 127 yX8_ones wsX8_ones) := goodIn_app (goodIn_of _ (by decide +kernel)) ggX8_lookout_X8_ones
theorem dX8_lookout_0 : decode cX8_lookout 0 = .ok (.aload_n 0, 1) := by decide +kernel
theorem dX8_lookout_1 : decode cX8_lookout 1 = .ok (.iconst 0, 1) := by decide +kernel
theorem dX8_lookout_2 : decode cX8_lookout 2 = .ok (.putfield 28, 3) := by decide +kernel
theorem dX8_lookout_5 : decode cX8_lookout 5 = .ok (.iload_n 1, 1) := by decide +kernel
theorem dX8_lookout_6 : decode cX8_lookout 6 = .ok (.iconst 0, 1) := by decide +kernel
theorem dX8_lookout_7 : decode cX8_lookout 7 = .ok (.iconst 2, 1) := by decide +kernel
theorem dX8_lookout_8 : decode cX8_lookout 8 = .ok (.invokestatic 32, 3) := by decide +kernel
theorem dX8_lookout_11 : decode cX8_lookout 11 = .ok (.ifCond .ne 9, 3) := by decide +kernel
theorem dX8_lookout_14 : decode cX8_lookout 14 = .ok (.aload_n 0, 1) := by decide +kernel
theorem dX8_lookout_15 : decode cX8_lookout 15 = .ok (.iconst 1, 1) := by decide +kernel
theorem dX8_lookout_16 : decode cX8_lookout 16 = .ok (.invokevirtual 39, 3) := by decide +kernel
theorem dX8_lookout_19 : decode cX8_lookout 19 = .ok (.ireturn, 1) := by decide +kernel
theorem dX8_lookout_20 : decode cX8_lookout 20 = .ok (.aload_n 0, 1) := by decide +kernel
theorem dX8_lookout_21 : decode cX8_lookout 21 = .ok (.invokevirtual 47, 3) := by decide +kernel
theorem dX8_lookout_24 : decode cX8_lookout 24 = .ok (.aload_n 0, 1) := by decide +kernel
theorem dX8_lookout_25 : decode cX8_lookout 25 = .ok (.getfield 7, 3) := by decide +kernel
theorem dX8_lookout_28 : decode cX8_lookout 28 = .ok (.iconst 2, 1) := by decide +kernel
theorem dX8_lookout_29 : decode cX8_lookout 29 = .ok (.iload_n 2, 1) := by decide +kernel
theorem dX8_lookout_30 : decode cX8_lookout 30 = .ok (.ifCond .eq 16, 3) := by decide +kernel
theorem dX8_lookout_33 : decode cX8_lookout 33 = .ok (.aload_n 0, 1) := by decide +kernel
theorem dX8_lookout_34 : decode cX8_lookout 34 = .ok (.getfield 7, 3) := by decide +kernel
theorem dX8_lookout_37 : decode cX8_lookout 37 = .ok (.iconst 2, 1) := by decide +kernel
theorem dX8_lookout_38 : decode cX8_lookout 38 = .ok (.iaload, 1) := by decide +kernel
theorem dX8_lookout_39 : decode cX8_lookout 39 = .ok (.iconst 1, 1) := by decide +kernel
theorem dX8_lookout_40 : decode cX8_lookout 40 = .ok (.iload_n 1, 1) := by decide +kernel
theorem dX8_lookout_41 : decode cX8_lookout 41 = .ok (.ishl, 1) := by decide +kernel
theorem dX8_lookout_42 : decode cX8_lookout 42 = .ok (.ior, 1) := by decide +kernel
theorem dX8_lookout_43 : decode cX8_lookout 43 = .ok (.goto 15, 3) := by decide +kernel
theorem dX8_lookout_46 : decode cX8_lookout 46 = .ok (.aload_n 0, 1) := by decide +kernel
theorem dX8_lookout_47 : decode cX8_lookout 47 = .ok (.getfield 7, 3) := by decide +kernel
theorem dX8_lookout_50 : decode cX8_lookout 50 = .ok (.iconst 2, 1) := by decide +kernel
theorem dX8_lookout_51 : decode cX8_lookout 51 = .ok (.iaload, 1) := by decide +kernel
theorem dX8_lookout_52 : decode cX8_lookout 52 = .ok (.iconst 1, 1) := by decide +kernel
theorem dX8_lookout_53 : decode cX8_lookout 53 = .ok (.iload_n 1, 1) := by decide +kernel
theorem dX8_lookout_54 : decode cX8_lookout 54 = .ok (.ishl, 1) := by decide +kernel
theorem dX8_lookout_55 : decode cX8_lookout 55 = .ok (.iconst (-1), 1) := by decide +kernel
theorem dX8_lookout_56 : decode cX8_lookout 56 = .ok (.ixor, 1) := by decide +kernel
theorem dX8_lookout_57 : decode cX8_lookout 57 = .ok (.iand, 1) := by decide +kernel
theorem dX8_lookout_58 : decode cX8_lookout 58 = .ok (.iastore, 1) := by decide +kernel
theorem dX8_lookout_59 : decode cX8_lookout 59 = .ok (.aload_n 0, 1) := by decide +kernel
theorem dX8_lookout_60 : decode cX8_lookout 60 = .ok (.getfield 7, 3) := by decide +kernel
theorem dX8_lookout_63 : decode cX8_lookout 63 = .ok (.iconst 2, 1) := by decide +kernel
theorem dX8_lookout_64 : decode cX8_lookout 64 = .ok (.iaload, 1) := by decide +kernel
theorem dX8_lookout_65 : decode cX8_lookout 65 = .ok (.invokestatic 127, 3) := by decide +kernel
theorem dX8_lookout_68 : decode cX8_lookout 68 = .ok (.ireturn, 1) := by decide +kernel
set_option maxRecDepth 20000 in
theorem ggX8_ban_X8_within : GoodIn wsX8_ban wsX8_within := goodIn_r _ [6] (by decide +kernel) (by decide +kernel)
set_option maxRecDepth 20000 in
theorem gX8_ban_X8_within : GoodIn wsX8_ban (va_wsS RX8 32 yX8_within wsX8_within) := goodIn_app (goodIn_of _ (by decide +kernel)) ggX8_ban_X8_within
set_option maxRecDepth 20000 in
theorem ggX8_ban_X8_isMessage : GoodIn wsX8_ban wsX8_isMessage := goodIn_r _ [9, 3, 4, 5, 6] (by decide +kernel) (by decide +kernel)
set_option maxRecDepth 20000 in
theorem gX8_ban_X8_isMessage : GoodIn wsX8_ban (va_wsS RX8 133 yX8_isMessage wsX8_isMessage) := goodIn_app (goodIn_of _ (by decide +kernel)) ggX8_ban_X8_isMessage
set_option maxRecDepth 20000 in
theorem ggX8_ban_X8_fails : GoodIn wsX8_ban wsX8_fails := goodIn_r _ [13, 1, 20, 21, 22, 23, 24, 25, 26, 27, 28, 29, 30, 31, 32, 33, 34, 35] (by decide +kernel) (by decide +kernel)
set_option maxRecDepth 20000 in
theorem gX8_ban_X8_fails : GoodIn wsX8_ban (wsV RX8 39 RX8 yX8_fails wsX8_fails) := goodIn_app (goodIn_of _ (by decide +kernel)) ggX8_ban_X8_fails
set_option maxRecDepth 20000 in
theorem ggX8_ban_X8_save : GoodIn wsX8_ban wsX8_save := goodIn_r _ [17, 18, 19, 2, 20, 21, 22, 23, 24, 25, 26, 27, 28, 29, 30, 31, 32, 33, 34, 35] (by decide +kernel) (by decide +kernel)
set_option maxRecDepth 20000 in
theorem gX8_ban_X8_save : GoodIn wsX8_ban (wsV RX8 47 RX8 yX8_save wsX8_save) := goodIn_app (goodIn_of _ (by decide +kernel)) ggX8_ban_X8_save
theorem dX8_ban_0 : decode cX8_ban 0 = .ok (.aload_n 0, 1) := by decide +kernel
theorem dX8_ban_1 : decode cX8_ban 1 = .ok (.iconst 0, 1) := by decide +kernel
theorem dX8_ban_2 : decode cX8_ban 2 = .ok (.putfield 28, 3) := by decide +kernel
theorem dX8_ban_5 : decode cX8_ban 5 = .ok (.iload_n 1, 1) := by decide +kernel
theorem dX8_ban_6 : decode cX8_ban 6 = .ok (.iconst 0, 1) := by decide +kernel
theorem dX8_ban_7 : decode cX8_ban 7 = .ok (.iconst 2, 1) := by decide +kernel
theorem dX8_ban_8 : decode cX8_ban 8 = .ok (.invokestatic 32, 3) := by decide +kernel
theorem dX8_ban_11 : decode cX8_ban 11 = .ok (.ifCond .eq 10, 3) := by decide +kernel
theorem dX8_ban_14 : decode cX8_ban 14 = .ok (.iload_n 2, 1) := by decide +kernel
theorem dX8_ban_15 : decode cX8_ban 15 = .ok (.invokestatic 133, 3) := by decide +kernel
theorem dX8_ban_18 : decode cX8_ban 18 = .ok (.ifCond .ne 9, 3) := by decide +kernel
theorem dX8_ban_21 : decode cX8_ban 21 = .ok (.aload_n 0, 1) := by decide +kernel
theorem dX8_ban_22 : decode cX8_ban 22 = .ok (.iconst 1, 1) := by decide +kernel
theorem dX8_ban_23 : decode cX8_ban 23 = .ok (.invokevirtual 39, 3) := by decide +kernel
theorem dX8_ban_26 : decode cX8_ban 26 = .ok (.ireturn, 1) := by decide +kernel
theorem dX8_ban_27 : decode cX8_ban 27 = .ok (.aload_n 0, 1) := by decide +kernel
theorem dX8_ban_28 : decode cX8_ban 28 = .ok (.invokevirtual 47, 3) := by decide +kernel
theorem dX8_ban_31 : decode cX8_ban 31 = .ok (.aload_n 0, 1) := by decide +kernel
theorem dX8_ban_32 : decode cX8_ban 32 = .ok (.getfield 7, 3) := by decide +kernel
theorem dX8_ban_35 : decode cX8_ban 35 = .ok (.bipush 44, 2) := by decide +kernel
theorem dX8_ban_37 : decode cX8_ban 37 = .ok (.iload_n 1, 1) := by decide +kernel
theorem dX8_ban_38 : decode cX8_ban 38 = .ok (.iadd, 1) := by decide +kernel
theorem dX8_ban_39 : decode cX8_ban 39 = .ok (.dup2, 1) := by decide +kernel
theorem dX8_ban_40 : decode cX8_ban 40 = .ok (.iaload, 1) := by decide +kernel
theorem dX8_ban_41 : decode cX8_ban 41 = .ok (.iconst 1, 1) := by decide +kernel
theorem dX8_ban_42 : decode cX8_ban 42 = .ok (.iload_n 2, 1) := by decide +kernel
theorem dX8_ban_43 : decode cX8_ban 43 = .ok (.ishl, 1) := by decide +kernel
theorem dX8_ban_44 : decode cX8_ban 44 = .ok (.ixor, 1) := by decide +kernel
theorem dX8_ban_45 : decode cX8_ban 45 = .ok (.iastore, 1) := by decide +kernel
theorem dX8_ban_46 : decode cX8_ban 46 = .ok (.aload_n 0, 1) := by decide +kernel
theorem dX8_ban_47 : decode cX8_ban 47 = .ok (.getfield 7, 3) := by decide +kernel
theorem dX8_ban_50 : decode cX8_ban 50 = .ok (.bipush 44, 2) := by decide +kernel
theorem dX8_ban_52 : decode cX8_ban 52 = .ok (.iload_n 1, 1) := by decide +kernel
theorem dX8_ban_53 : decode cX8_ban 53 = .ok (.iadd, 1) := by decide +kernel
theorem dX8_ban_54 : decode cX8_ban 54 = .ok (.iaload, 1) := by decide +kernel
theorem dX8_ban_55 : decode cX8_ban 55 = .ok (.iload_n 2, 1) := by decide +kernel
theorem dX8_ban_56 : decode cX8_ban 56 = .ok (.ishr, 1) := by decide +kernel
theorem dX8_ban_57 : decode cX8_ban 57 = .ok (.iconst 1, 1) := by decide +kernel
theorem dX8_ban_58 : decode cX8_ban 58 = .ok (.iand, 1) := by decide +kernel
theorem dX8_ban_59 : decode cX8_ban 59 = .ok (.ireturn, 1) := by decide +kernel
set_option maxRecDepth 20000 in
theorem ggX8_bell_X8_save : GoodIn wsX8_bell wsX8_save := goodIn_r _ [6, 7, 8, 9, 14, 15, 16, 17, 18, 19, 20, 21, 22, 23, 24, 25, 26, 27, 28, 29] (by decide +kernel) (by decide +kernel)
set_option maxRecDepth 20000 in
theorem gX8_bell_X8_save : GoodIn wsX8_bell (wsV RX8 47 RX8 yX8_save wsX8_save) := goodIn_app (goodIn_of _ (by decide +kernel)) ggX8_bell_X8_save
set_option maxRecDepth 20000 in
theorem ggX8_bell_X8_rings : GoodIn wsX8_bell wsX8_rings := goodIn_r _ [13, 9, 14, 15, 16, 17, 18, 19, 20, 21, 22, 23, 24, 25, 26, 27, 28, 29] (by decide +kernel) (by decide +kernel)
set_option maxRecDepth 20000 in
theorem gX8_bell_X8_rings : GoodIn wsX8_bell (wsV RX8 157 RX8 yX8_rings wsX8_rings) := goodIn_app (goodIn_of _ (by decide +kernel)) ggX8_bell_X8_rings
theorem dX8_bell_0 : decode cX8_bell 0 = .ok (.aload_n 0, 1) := by decide +kernel
theorem dX8_bell_1 : decode cX8_bell 1 = .ok (.iconst 0, 1) := by decide +kernel
theorem dX8_bell_2 : decode cX8_bell 2 = .ok (.putfield 28, 3) := by decide +kernel
theorem dX8_bell_5 : decode cX8_bell 5 = .ok (.aload_n 0, 1) := by decide +kernel
theorem dX8_bell_6 : decode cX8_bell 6 = .ok (.invokevirtual 47, 3) := by decide +kernel
theorem dX8_bell_9 : decode cX8_bell 9 = .ok (.aload_n 0, 1) := by decide +kernel
theorem dX8_bell_10 : decode cX8_bell 10 = .ok (.invokevirtual 157, 3) := by decide +kernel
theorem dX8_bell_13 : decode cX8_bell 13 = .ok (.ireturn, 1) := by decide +kernel
set_option maxRecDepth 20000 in
theorem ggX8_set_X8_within : GoodIn wsX8_set wsX8_within := goodIn_r _ [6] (by decide +kernel) (by decide +kernel)
set_option maxRecDepth 20000 in
theorem gX8_set_X8_within : GoodIn wsX8_set (va_wsS RX8 32 yX8_within wsX8_within) := goodIn_app (goodIn_of _ (by decide +kernel)) ggX8_set_X8_within
set_option maxRecDepth 20000 in
theorem ggX8_set_X8_fails : GoodIn wsX8_set wsX8_fails := goodIn_r _ [10, 1, 17, 18, 19, 20, 21, 22, 23, 24, 25, 26, 27, 28, 29, 30, 31, 32] (by decide +kernel) (by decide +kernel)
set_option maxRecDepth 20000 in
theorem gX8_set_X8_fails : GoodIn wsX8_set (wsV RX8 39 RX8 yX8_fails wsX8_fails) := goodIn_app (goodIn_of _ (by decide +kernel)) ggX8_set_X8_fails
set_option maxRecDepth 20000 in
theorem ggX8_set_X8_save : GoodIn wsX8_set wsX8_save := goodIn_r _ [14, 15, 16, 2, 17, 18, 19, 20, 21, 22, 23, 24, 25, 26, 27, 28, 29, 30, 31, 32] (by decide +kernel) (by decide +kernel)
set_option maxRecDepth 20000 in
theorem gX8_set_X8_save : GoodIn wsX8_set (wsV RX8 47 RX8 yX8_save wsX8_save) := goodIn_app (goodIn_of _ (by decide +kernel)) ggX8_set_X8_save
theorem dX8_set_0 : decode cX8_set 0 = .ok (.aload_n 0, 1) := by decide +kernel
theorem dX8_set_1 : decode cX8_set 1 = .ok (.iconst 0, 1) := by decide +kernel
theorem dX8_set_2 : decode cX8_set 2 = .ok (.putfield 28, 3) := by decide +kernel
theorem dX8_set_5 : decode cX8_set 5 = .ok (.iload_n 1, 1) := by decide +kernel
theorem dX8_set_6 : decode cX8_set 6 = .ok (.iconst 0, 1) := by decide +kernel
theorem dX8_set_7 : decode cX8_set 7 = .ok (.iconst 1, 1) := by decide +kernel
theorem dX8_set_8 : decode cX8_set 8 = .ok (.invokestatic 32, 3) := by decide +kernel
theorem dX8_set_11 : decode cX8_set 11 = .ok (.ifCond .ne 9, 3) := by decide +kernel
theorem dX8_set_14 : decode cX8_set 14 = .ok (.aload_n 0, 1) := by decide +kernel
theorem dX8_set_15 : decode cX8_set 15 = .ok (.iconst 1, 1) := by decide +kernel
theorem dX8_set_16 : decode cX8_set 16 = .ok (.invokevirtual 39, 3) := by decide +kernel
theorem dX8_set_19 : decode cX8_set 19 = .ok (.ireturn, 1) := by decide +kernel
theorem dX8_set_20 : decode cX8_set 20 = .ok (.iload_n 2, 1) := by decide +kernel
theorem dX8_set_21 : decode cX8_set 21 = .ok (.iload_n 1, 1) := by decide +kernel
theorem dX8_set_22 : decode cX8_set 22 = .ok (.iload_n 1, 1) := by decide +kernel
theorem dX8_set_23 : decode cX8_set 23 = .ok (.ifCond .ne 7, 3) := by decide +kernel
theorem dX8_set_26 : decode cX8_set 26 = .ok (.iconst 2, 1) := by decide +kernel
theorem dX8_set_27 : decode cX8_set 27 = .ok (.goto 5, 3) := by decide +kernel
theorem dX8_set_30 : decode cX8_set 30 = .ok (.bipush 9, 2) := by decide +kernel
theorem dX8_set_32 : decode cX8_set 32 = .ok (.invokestatic 32, 3) := by decide +kernel
theorem dX8_set_35 : decode cX8_set 35 = .ok (.ifCond .ne 9, 3) := by decide +kernel
theorem dX8_set_38 : decode cX8_set 38 = .ok (.aload_n 0, 1) := by decide +kernel
theorem dX8_set_39 : decode cX8_set 39 = .ok (.iconst 2, 1) := by decide +kernel
theorem dX8_set_40 : decode cX8_set 40 = .ok (.invokevirtual 39, 3) := by decide +kernel
theorem dX8_set_43 : decode cX8_set 43 = .ok (.ireturn, 1) := by decide +kernel
theorem dX8_set_44 : decode cX8_set 44 = .ok (.aload_n 0, 1) := by decide +kernel
theorem dX8_set_45 : decode cX8_set 45 = .ok (.invokevirtual 47, 3) := by decide +kernel
theorem dX8_set_48 : decode cX8_set 48 = .ok (.aload_n 0, 1) := by decide +kernel
theorem dX8_set_49 : decode cX8_set 49 = .ok (.getfield 7, 3) := by decide +kernel
theorem dX8_set_52 : decode cX8_set 52 = .ok (.iconst 3, 1) := by decide +kernel
theorem dX8_set_53 : decode cX8_set 53 = .ok (.iload_n 1, 1) := by decide +kernel
theorem dX8_set_54 : decode cX8_set 54 = .ok (.iadd, 1) := by decide +kernel
theorem dX8_set_55 : decode cX8_set 55 = .ok (.iaload, 1) := by decide +kernel
theorem dX8_set_56 : decode cX8_set 56 = .ok (.istore_n 3, 1) := by decide +kernel
theorem dX8_set_57 : decode cX8_set 57 = .ok (.aload_n 0, 1) := by decide +kernel
theorem dX8_set_58 : decode cX8_set 58 = .ok (.getfield 7, 3) := by decide +kernel
theorem dX8_set_61 : decode cX8_set 61 = .ok (.iconst 3, 1) := by decide +kernel
theorem dX8_set_62 : decode cX8_set 62 = .ok (.iload_n 1, 1) := by decide +kernel
theorem dX8_set_63 : decode cX8_set 63 = .ok (.iadd, 1) := by decide +kernel
theorem dX8_set_64 : decode cX8_set 64 = .ok (.iload_n 2, 1) := by decide +kernel
theorem dX8_set_65 : decode cX8_set 65 = .ok (.iastore, 1) := by decide +kernel
theorem dX8_set_66 : decode cX8_set 66 = .ok (.iload_n 3, 1) := by decide +kernel
theorem dX8_set_67 : decode cX8_set 67 = .ok (.ireturn, 1) := by decide +kernel
set_option maxRecDepth 20000 in
theorem ggX8_whistle_X8_isRoom : GoodIn wsX8_whistle wsX8_isRoom := goodIn_r _ [5, 6, 7, 4, 8] (by decide +kernel) (by decide +kernel)
set_option maxRecDepth 20000 in
theorem gX8_whistle_X8_isRoom : GoodIn wsX8_whistle (va_wsS RX8 151 yX8_isRoom wsX8_isRoom) := goodIn_app (goodIn_of _ (by decide +kernel)) ggX8_whistle_X8_isRoom
set_option maxRecDepth 20000 in
theorem ggX8_whistle_X8_isMessage : GoodIn wsX8_whistle wsX8_isMessage := goodIn_r _ [11, 6, 7, 4, 8] (by decide +kernel) (by decide +kernel)
set_option maxRecDepth 20000 in
theorem gX8_whistle_X8_isMessage : GoodIn wsX8_whistle (va_wsS RX8 133 yX8_isMessage wsX8_isMessage) := goodIn_app (goodIn_of _ (by decide +kernel)) ggX8_whistle_X8_isMessage
set_option maxRecDepth 20000 in
theorem ggX8_whistle_X8_fails : GoodIn wsX8_whistle wsX8_fails := goodIn_r _ [15, 1, 78, 79, 80, 81, 82, 83, 84, 85, 86, 87, 88, 89, 90, 91, 92, 93] (by decide +kernel) (by decide +kernel)
set_option maxRecDepth 20000 in
theorem gX8_whistle_X8_fails : GoodIn wsX8_whistle (wsV RX8 39 RX8 yX8_fails wsX8_fails) := goodIn_app (goodIn_of _ (by decide +kernel)) ggX8_whistle_X8_fails
set_option maxRecDepth 20000 in
theorem ggX8_whistle_X8_whyNotWhistled : GoodIn wsX8_whistle wsX8_whyNotWhistled := goodIn_r _ [19, 20, 21, 22, 4, 23, 24, 25, 26, 27, 28, 29, 30, 31, 32, 78, 79, 80, 81, 82, 83, 84, 85, 86, 87, 88, 89, 90, 91, 92, 93] (by decide +kernel) (by decide +kernel)
set_option maxRecDepth 20000 in
theorem gX8_whistle_X8_whyNotWhistled : GoodIn wsX8_whistle (wsV RX8 160 RX8 yX8_whyNotWhistled wsX8_whyNotWhistled) := goodIn_app (goodIn_of _ (by decide +kernel)) ggX8_whistle_X8_whyNotWhistled
set_option maxRecDepth 20000 in
theorem ggX8_whistle_X8_save : GoodIn wsX8_whistle wsX8_save := goodIn_r _ [36, 37, 38, 24, 78, 79, 80, 81, 82, 83, 84, 85, 86, 87, 88, 89, 90, 91, 92, 93] (by decide +kernel) (by decide +kernel)
set_option maxRecDepth 20000 in
theorem gX8_whistle_X8_save : GoodIn wsX8_whistle (wsV RX8 47 RX8 yX8_save wsX8_save) := goodIn_app (goodIn_of _ (by decide +kernel)) ggX8_whistle_X8_save
set_option maxRecDepth 20000 in
theorem ggX8_whistle_X8_whistles : GoodIn wsX8_whistle wsX8_whistles := goodIn_r _ [42, 24, 43, 44, 45, 4, 46, 47, 48, 49, 50, 51, 52, 53, 54, 55, 56, 57, 58, 25, 26, 27, 28, 59, 60, 61, 62, 63, 64, 65, 66, 67, 68, 69, 70, 71, 72, 73, 29, 30, 31, 32, 74, 75, 76, 77, 78, 79, 80, 81, 82, 83, 84, 85, 86, 87, 88, 89, 90, 91, 92, 93] (by decide +kernel) (by decide +kernel)
set_option maxRecDepth 20000 in
theorem gX8_whistle_X8_whistles : GoodIn wsX8_whistle (wsV RX8 163 RX8 yX8_whistles wsX8_whistles) := goodIn_app (goodIn_of _ (by decide +kernel)) ggX8_whistle_X8_whistles
theorem dX8_whistle_0 : decode cX8_whistle 0 = .ok (.aload_n 0, 1) := by decide +kernel
theorem dX8_whistle_1 : decode cX8_whistle 1 = .ok (.iconst 0, 1) := by decide +kernel
theorem dX8_whistle_2 : decode cX8_whistle 2 = .ok (.putfield 28, 3) := by decide +kernel
theorem dX8_whistle_5 : decode cX8_whistle 5 = .ok (.iload_n 1, 1) := by decide +kernel
theorem dX8_whistle_6 : decode cX8_whistle 6 = .ok (.invokestatic 151, 3) := by decide +kernel
theorem dX8_whistle_9 : decode cX8_whistle 9 = .ok (.ifCond .eq 10, 3) := by decide +kernel
theorem dX8_whistle_12 : decode cX8_whistle 12 = .ok (.iload_n 2, 1) := by decide +kernel
theorem dX8_whistle_13 : decode cX8_whistle 13 = .ok (.invokestatic 133, 3) := by decide +kernel
theorem dX8_whistle_16 : decode cX8_whistle 16 = .ok (.ifCond .ne 9, 3) := by decide +kernel
theorem dX8_whistle_19 : decode cX8_whistle 19 = .ok (.aload_n 0, 1) := by decide +kernel
theorem dX8_whistle_20 : decode cX8_whistle 20 = .ok (.iconst 1, 1) := by decide +kernel
theorem dX8_whistle_21 : decode cX8_whistle 21 = .ok (.invokevirtual 39, 3) := by decide +kernel
theorem dX8_whistle_24 : decode cX8_whistle 24 = .ok (.ireturn, 1) := by decide +kernel
theorem dX8_whistle_25 : decode cX8_whistle 25 = .ok (.aload_n 0, 1) := by decide +kernel
theorem dX8_whistle_26 : decode cX8_whistle 26 = .ok (.iload_n 1, 1) := by decide +kernel
theorem dX8_whistle_27 : decode cX8_whistle 27 = .ok (.iload_n 2, 1) := by decide +kernel
theorem dX8_whistle_28 : decode cX8_whistle 28 = .ok (.invokevirtual 160, 3) := by decide +kernel
theorem dX8_whistle_31 : decode cX8_whistle 31 = .ok (.ifCond .eq 9, 3) := by decide +kernel
theorem dX8_whistle_34 : decode cX8_whistle 34 = .ok (.aload_n 0, 1) := by decide +kernel
theorem dX8_whistle_35 : decode cX8_whistle 35 = .ok (.iconst 2, 1) := by decide +kernel
theorem dX8_whistle_36 : decode cX8_whistle 36 = .ok (.invokevirtual 39, 3) := by decide +kernel
theorem dX8_whistle_39 : decode cX8_whistle 39 = .ok (.ireturn, 1) := by decide +kernel
theorem dX8_whistle_40 : decode cX8_whistle 40 = .ok (.aload_n 0, 1) := by decide +kernel
theorem dX8_whistle_41 : decode cX8_whistle 41 = .ok (.invokevirtual 47, 3) := by decide +kernel
theorem dX8_whistle_44 : decode cX8_whistle 44 = .ok (.aload_n 0, 1) := by decide +kernel
theorem dX8_whistle_45 : decode cX8_whistle 45 = .ok (.iload_n 1, 1) := by decide +kernel
theorem dX8_whistle_46 : decode cX8_whistle 46 = .ok (.iload_n 2, 1) := by decide +kernel
theorem dX8_whistle_47 : decode cX8_whistle 47 = .ok (.invokevirtual 163, 3) := by decide +kernel
theorem dX8_whistle_50 : decode cX8_whistle 50 = .ok (.ireturn, 1) := by decide +kernel
set_option maxRecDepth 20000 in
theorem ggX8_append_X8_within : GoodIn wsX8_append wsX8_within := goodIn_r _ [7] (by decide +kernel) (by decide +kernel)
set_option maxRecDepth 20000 in
theorem gX8_append_X8_within : GoodIn wsX8_append (va_wsS RX8 32 yX8_within wsX8_within) := goodIn_app (goodIn_of _ (by decide +kernel)) ggX8_append_X8_within
set_option maxRecDepth 20000 in
theorem ggX8_append_X8_fails : GoodIn wsX8_append wsX8_fails := goodIn_r _ [11, 1, 12, 13, 14, 15, 16, 17, 18, 19, 20, 21, 22, 23, 24, 25, 26, 27] (by decide +kernel) (by decide +kernel)
set_option maxRecDepth 20000 in
theorem gX8_append_X8_fails : GoodIn wsX8_append (wsV RX8 39 RX8 yX8_fails wsX8_fails) := goodIn_app (goodIn_of _ (by decide +kernel)) ggX8_append_X8_fails
theorem dX8_append_0 : decode cX8_append 0 = .ok (.aload_n 0, 1) := by decide +kernel
theorem dX8_append_1 : decode cX8_append 1 = .ok (.iconst 0, 1) := by decide +kernel
theorem dX8_append_2 : decode cX8_append 2 = .ok (.putfield 28, 3) := by decide +kernel
theorem dX8_append_5 : decode cX8_append 5 = .ok (.iload_n 1, 1) := by decide +kernel
theorem dX8_append_6 : decode cX8_append 6 = .ok (.bipush 33, 2) := by decide +kernel
theorem dX8_append_8 : decode cX8_append 8 = .ok (.bipush 126, 2) := by decide +kernel
theorem dX8_append_10 : decode cX8_append 10 = .ok (.invokestatic 32, 3) := by decide +kernel
theorem dX8_append_13 : decode cX8_append 13 = .ok (.ifCond .ne 9, 3) := by decide +kernel
theorem dX8_append_16 : decode cX8_append 16 = .ok (.aload_n 0, 1) := by decide +kernel
theorem dX8_append_17 : decode cX8_append 17 = .ok (.iconst 1, 1) := by decide +kernel
theorem dX8_append_18 : decode cX8_append 18 = .ok (.invokevirtual 39, 3) := by decide +kernel
theorem dX8_append_21 : decode cX8_append 21 = .ok (.ireturn, 1) := by decide +kernel
theorem dX8_append_22 : decode cX8_append 22 = .ok (.aload_n 0, 1) := by decide +kernel
theorem dX8_append_23 : decode cX8_append 23 = .ok (.getfield 53, 3) := by decide +kernel
theorem dX8_append_26 : decode cX8_append 26 = .ok (.bipush 60, 2) := by decide +kernel
theorem dX8_append_28 : decode cX8_append 28 = .ok (.if_icmp .ne 9, 3) := by decide +kernel
theorem dX8_append_31 : decode cX8_append 31 = .ok (.aload_n 0, 1) := by decide +kernel
theorem dX8_append_32 : decode cX8_append 32 = .ok (.iconst 2, 1) := by decide +kernel
theorem dX8_append_33 : decode cX8_append 33 = .ok (.invokevirtual 39, 3) := by decide +kernel
theorem dX8_append_36 : decode cX8_append 36 = .ok (.ireturn, 1) := by decide +kernel
theorem dX8_append_37 : decode cX8_append 37 = .ok (.aload_n 0, 1) := by decide +kernel
theorem dX8_append_38 : decode cX8_append 38 = .ok (.getfield 19, 3) := by decide +kernel
theorem dX8_append_41 : decode cX8_append 41 = .ok (.aload_n 0, 1) := by decide +kernel
theorem dX8_append_42 : decode cX8_append 42 = .ok (.getfield 53, 3) := by decide +kernel
theorem dX8_append_45 : decode cX8_append 45 = .ok (.iload_n 1, 1) := by decide +kernel
theorem dX8_append_46 : decode cX8_append 46 = .ok (.iastore, 1) := by decide +kernel
theorem dX8_append_47 : decode cX8_append 47 = .ok (.aload_n 0, 1) := by decide +kernel
theorem dX8_append_48 : decode cX8_append 48 = .ok (.dup, 1) := by decide +kernel
theorem dX8_append_49 : decode cX8_append 49 = .ok (.getfield 53, 3) := by decide +kernel
theorem dX8_append_52 : decode cX8_append 52 = .ok (.iconst 1, 1) := by decide +kernel
theorem dX8_append_53 : decode cX8_append 53 = .ok (.iadd, 1) := by decide +kernel
theorem dX8_append_54 : decode cX8_append 54 = .ok (.putfield 53, 3) := by decide +kernel
theorem dX8_append_57 : decode cX8_append 57 = .ok (.aload_n 0, 1) := by decide +kernel
theorem dX8_append_58 : decode cX8_append 58 = .ok (.getfield 53, 3) := by decide +kernel
theorem dX8_append_61 : decode cX8_append 61 = .ok (.ireturn, 1) := by decide +kernel
theorem dX8_clearBuffer_0 : decode cX8_clearBuffer 0 = .ok (.aload_n 0, 1) := by decide +kernel
theorem dX8_clearBuffer_1 : decode cX8_clearBuffer 1 = .ok (.iconst 0, 1) := by decide +kernel
theorem dX8_clearBuffer_2 : decode cX8_clearBuffer 2 = .ok (.putfield 28, 3) := by decide +kernel
theorem dX8_clearBuffer_5 : decode cX8_clearBuffer 5 = .ok (.aload_n 0, 1) := by decide +kernel
theorem dX8_clearBuffer_6 : decode cX8_clearBuffer 6 = .ok (.getfield 53, 3) := by decide +kernel
theorem dX8_clearBuffer_9 : decode cX8_clearBuffer 9 = .ok (.istore_n 1, 1) := by decide +kernel
theorem dX8_clearBuffer_10 : decode cX8_clearBuffer 10 = .ok (.aload_n 0, 1) := by decide +kernel
theorem dX8_clearBuffer_11 : decode cX8_clearBuffer 11 = .ok (.iconst 0, 1) := by decide +kernel
theorem dX8_clearBuffer_12 : decode cX8_clearBuffer 12 = .ok (.putfield 53, 3) := by decide +kernel
theorem dX8_clearBuffer_15 : decode cX8_clearBuffer 15 = .ok (.iload_n 1, 1) := by decide +kernel
theorem dX8_clearBuffer_16 : decode cX8_clearBuffer 16 = .ok (.ireturn, 1) := by decide +kernel
set_option maxRecDepth 20000 in
theorem ggX8_readNumber_X8_next : GoodIn wsX8_readNumber wsX8_next := goodIn_r _ [6, 1, 7, 8, 12, 13, 14, 15, 16, 17, 18, 19, 20, 21, 22, 23, 24, 25, 26, 27] (by decide +kernel) (by decide +kernel)
set_option maxRecDepth 20000 in
theorem gX8_readNumber_X8_next : GoodIn wsX8_readNumber (wsV RX8 56 RX8 yX8_next wsX8_next) := goodIn_app (goodIn_of _ (by decide +kernel)) ggX8_readNumber_X8_next
set_option maxRecDepth 20000 in
theorem ggX8_readNumber_X8_within : GoodIn wsX8_readNumber wsX8_within := goodIn_r _ [11] (by decide +kernel) (by decide +kernel)
set_option maxRecDepth 20000 in
theorem gX8_readNumber_X8_within : GoodIn wsX8_readNumber (va_wsS RX8 32 yX8_within wsX8_within) := goodIn_app (goodIn_of _ (by decide +kernel)) ggX8_readNumber_X8_within
theorem dX8_readNumber_0 : decode cX8_readNumber 0 = .ok (.aload_n 0, 1) := by decide +kernel
theorem dX8_readNumber_1 : decode cX8_readNumber 1 = .ok (.invokevirtual 56, 3) := by decide +kernel
theorem dX8_readNumber_4 : decode cX8_readNumber 4 = .ok (.bipush 48, 2) := by decide +kernel
theorem dX8_readNumber_6 : decode cX8_readNumber 6 = .ok (.isub, 1) := by decide +kernel
theorem dX8_readNumber_7 : decode cX8_readNumber 7 = .ok (.istore_n 2, 1) := by decide +kernel
theorem dX8_readNumber_8 : decode cX8_readNumber 8 = .ok (.iload_n 2, 1) := by decide +kernel
theorem dX8_readNumber_9 : decode cX8_readNumber 9 = .ok (.iconst 0, 1) := by decide +kernel
theorem dX8_readNumber_10 : decode cX8_readNumber 10 = .ok (.bipush 9, 2) := by decide +kernel
theorem dX8_readNumber_12 : decode cX8_readNumber 12 = .ok (.invokestatic 32, 3) := by decide +kernel
theorem dX8_readNumber_15 : decode cX8_readNumber 15 = .ok (.ifCond .eq 8, 3) := by decide +kernel
theorem dX8_readNumber_18 : decode cX8_readNumber 18 = .ok (.iload_n 2, 1) := by decide +kernel
theorem dX8_readNumber_19 : decode cX8_readNumber 19 = .ok (.iload_n 1, 1) := by decide +kernel
theorem dX8_readNumber_20 : decode cX8_readNumber 20 = .ok (.if_icmp .le 5, 3) := by decide +kernel
theorem dX8_readNumber_23 : decode cX8_readNumber 23 = .ok (.iconst (-1), 1) := by decide +kernel
theorem dX8_readNumber_24 : decode cX8_readNumber 24 = .ok (.ireturn, 1) := by decide +kernel
theorem dX8_readNumber_25 : decode cX8_readNumber 25 = .ok (.aload_n 0, 1) := by decide +kernel
theorem dX8_readNumber_26 : decode cX8_readNumber 26 = .ok (.dup, 1) := by decide +kernel
theorem dX8_readNumber_27 : decode cX8_readNumber 27 = .ok (.getfield 50, 3) := by decide +kernel
theorem dX8_readNumber_30 : decode cX8_readNumber 30 = .ok (.iconst 1, 1) := by decide +kernel
theorem dX8_readNumber_31 : decode cX8_readNumber 31 = .ok (.iadd, 1) := by decide +kernel
theorem dX8_readNumber_32 : decode cX8_readNumber 32 = .ok (.putfield 50, 3) := by decide +kernel
theorem dX8_readNumber_35 : decode cX8_readNumber 35 = .ok (.iload_n 2, 1) := by decide +kernel
theorem dX8_readNumber_36 : decode cX8_readNumber 36 = .ok (.iconst 1, 1) := by decide +kernel
theorem dX8_readNumber_37 : decode cX8_readNumber 37 = .ok (.if_icmp .ne 44, 3) := by decide +kernel
theorem dX8_readNumber_40 : decode cX8_readNumber 40 = .ok (.iload_n 1, 1) := by decide +kernel
theorem dX8_readNumber_41 : decode cX8_readNumber 41 = .ok (.bipush 9, 2) := by decide +kernel
theorem dX8_readNumber_43 : decode cX8_readNumber 43 = .ok (.if_icmp .le 38, 3) := by decide +kernel
theorem dX8_readNumber_46 : decode cX8_readNumber 46 = .ok (.aload_n 0, 1) := by decide +kernel
theorem dX8_readNumber_47 : decode cX8_readNumber 47 = .ok (.invokevirtual 56, 3) := by decide +kernel
theorem dX8_readNumber_50 : decode cX8_readNumber 50 = .ok (.bipush 48, 2) := by decide +kernel
theorem dX8_readNumber_52 : decode cX8_readNumber 52 = .ok (.bipush 57, 2) := by decide +kernel
theorem dX8_readNumber_54 : decode cX8_readNumber 54 = .ok (.invokestatic 32, 3) := by decide +kernel
theorem dX8_readNumber_57 : decode cX8_readNumber 57 = .ok (.ifCond .eq 24, 3) := by decide +kernel
theorem dX8_readNumber_60 : decode cX8_readNumber 60 = .ok (.bipush 10, 2) := by decide +kernel
theorem dX8_readNumber_62 : decode cX8_readNumber 62 = .ok (.aload_n 0, 1) := by decide +kernel
theorem dX8_readNumber_63 : decode cX8_readNumber 63 = .ok (.invokevirtual 56, 3) := by decide +kernel
theorem dX8_readNumber_66 : decode cX8_readNumber 66 = .ok (.iadd, 1) := by decide +kernel
theorem dX8_readNumber_67 : decode cX8_readNumber 67 = .ok (.bipush 48, 2) := by decide +kernel
theorem dX8_readNumber_69 : decode cX8_readNumber 69 = .ok (.isub, 1) := by decide +kernel
theorem dX8_readNumber_70 : decode cX8_readNumber 70 = .ok (.istore_n 2, 1) := by decide +kernel
theorem dX8_readNumber_71 : decode cX8_readNumber 71 = .ok (.aload_n 0, 1) := by decide +kernel
theorem dX8_readNumber_72 : decode cX8_readNumber 72 = .ok (.dup, 1) := by decide +kernel
theorem dX8_readNumber_73 : decode cX8_readNumber 73 = .ok (.getfield 50, 3) := by decide +kernel
theorem dX8_readNumber_76 : decode cX8_readNumber 76 = .ok (.iconst 1, 1) := by decide +kernel
theorem dX8_readNumber_77 : decode cX8_readNumber 77 = .ok (.iadd, 1) := by decide +kernel
theorem dX8_readNumber_78 : decode cX8_readNumber 78 = .ok (.putfield 50, 3) := by decide +kernel
theorem dX8_readNumber_81 : decode cX8_readNumber 81 = .ok (.iload_n 2, 1) := by decide +kernel
theorem dX8_readNumber_82 : decode cX8_readNumber 82 = .ok (.ireturn, 1) := by decide +kernel
set_option maxRecDepth 20000 in
theorem ggX8_readsWhistle_X8_readNumber : GoodIn wsX8_readsWhistle wsX8_readNumber := goodIn_r _ [7, 8, 9, 10, 11, 6, 12, 13, 14, 15, 16, 17, 22, 23, 24, 25, 26, 27, 28, 29, 30, 31, 32, 33, 34, 35, 36, 37] (by decide +kernel) (by decide +kernel)
set_option maxRecDepth 20000 in
theorem gX8_readsWhistle_X8_readNumber : GoodIn wsX8_readsWhistle (wsV RX8 166 RX8 yX8_readNumber wsX8_readNumber) := goodIn_app (goodIn_of _ (by decide +kernel)) ggX8_readsWhistle_X8_readNumber
set_option maxRecDepth 20000 in
theorem ggX8_readsWhistle_X8_takes : GoodIn wsX8_readsWhistle wsX8_takes := goodIn_r _ [21, 8, 9, 10, 11, 6, 12, 13, 14, 22, 23, 24, 25, 26, 27, 28, 29, 30, 31, 32, 33, 34, 35, 36, 37] (by decide +kernel) (by decide +kernel)
set_option maxRecDepth 20000 in
theorem gX8_readsWhistle_X8_takes : GoodIn wsX8_readsWhistle (wsV RX8 172 RX8 yX8_takes wsX8_takes) := goodIn_app (goodIn_of _ (by decide +kernel)) ggX8_readsWhistle_X8_takes
theorem dX8_readsWhistle_0 : decode cX8_readsWhistle 0 = .ok (.aload_n 0, 1) := by decide +kernel
theorem dX8_readsWhistle_1 : decode cX8_readsWhistle 1 = .ok (.aload_n 0, 1) := by decide +kernel
theorem dX8_readsWhistle_2 : decode cX8_readsWhistle 2 = .ok (.iconst 5, 1) := by decide +kernel
theorem dX8_readsWhistle_3 : decode cX8_readsWhistle 3 = .ok (.invokevirtual 166, 3) := by decide +kernel
theorem dX8_readsWhistle_6 : decode cX8_readsWhistle 6 = .ok (.putfield 169, 3) := by decide +kernel
theorem dX8_readsWhistle_9 : decode cX8_readsWhistle 9 = .ok (.aload_n 0, 1) := by decide +kernel
theorem dX8_readsWhistle_10 : decode cX8_readsWhistle 10 = .ok (.getfield 169, 3) := by decide +kernel
theorem dX8_readsWhistle_13 : decode cX8_readsWhistle 13 = .ok (.iconst (-1), 1) := by decide +kernel
theorem dX8_readsWhistle_14 : decode cX8_readsWhistle 14 = .ok (.if_icmp .eq 12, 3) := by decide +kernel
theorem dX8_readsWhistle_17 : decode cX8_readsWhistle 17 = .ok (.aload_n 0, 1) := by decide +kernel
theorem dX8_readsWhistle_18 : decode cX8_readsWhistle 18 = .ok (.bipush 58, 2) := by decide +kernel
theorem dX8_readsWhistle_20 : decode cX8_readsWhistle 20 = .ok (.invokevirtual 172, 3) := by decide +kernel
theorem dX8_readsWhistle_23 : decode cX8_readsWhistle 23 = .ok (.ifCond .ne 5, 3) := by decide +kernel
theorem dX8_readsWhistle_26 : decode cX8_readsWhistle 26 = .ok (.iconst 0, 1) := by decide +kernel
theorem dX8_readsWhistle_27 : decode cX8_readsWhistle 27 = .ok (.ireturn, 1) := by decide +kernel
theorem dX8_readsWhistle_28 : decode cX8_readsWhistle 28 = .ok (.aload_n 0, 1) := by decide +kernel
theorem dX8_readsWhistle_29 : decode cX8_readsWhistle 29 = .ok (.aload_n 0, 1) := by decide +kernel
theorem dX8_readsWhistle_30 : decode cX8_readsWhistle 30 = .ok (.bipush 19, 2) := by decide +kernel
theorem dX8_readsWhistle_32 : decode cX8_readsWhistle 32 = .ok (.invokevirtual 166, 3) := by decide +kernel
theorem dX8_readsWhistle_35 : decode cX8_readsWhistle 35 = .ok (.putfield 175, 3) := by decide +kernel
theorem dX8_readsWhistle_38 : decode cX8_readsWhistle 38 = .ok (.aload_n 0, 1) := by decide +kernel
theorem dX8_readsWhistle_39 : decode cX8_readsWhistle 39 = .ok (.getfield 175, 3) := by decide +kernel
theorem dX8_readsWhistle_42 : decode cX8_readsWhistle 42 = .ok (.iconst (-1), 1) := by decide +kernel
theorem dX8_readsWhistle_43 : decode cX8_readsWhistle 43 = .ok (.if_icmp .eq 7, 3) := by decide +kernel
theorem dX8_readsWhistle_46 : decode cX8_readsWhistle 46 = .ok (.iconst 1, 1) := by decide +kernel
theorem dX8_readsWhistle_47 : decode cX8_readsWhistle 47 = .ok (.goto 4, 3) := by decide +kernel
theorem dX8_readsWhistle_50 : decode cX8_readsWhistle 50 = .ok (.iconst 0, 1) := by decide +kernel
theorem dX8_readsWhistle_51 : decode cX8_readsWhistle 51 = .ok (.ireturn, 1) := by decide +kernel
set_option maxRecDepth 20000 in
theorem ggX8_readsPart_X8_next : GoodIn wsX8_readsPart wsX8_next := goodIn_r _ [8, 2, 9, 10, 45, 46, 47, 48, 49, 50, 51, 52, 53, 54, 55, 56, 57, 58, 59, 60] (by decide +kernel) (by decide +kernel)
set_option maxRecDepth 20000 in
theorem gX8_readsPart_X8_next : GoodIn wsX8_readsPart (wsV RX8 56 RX8 yX8_next wsX8_next) := goodIn_app (goodIn_of _ (by decide +kernel)) ggX8_readsPart_X8_next
set_option maxRecDepth 20000 in
theorem ggX8_readsPart_X8_readsWhistle : GoodIn wsX8_readsPart wsX8_readsWhistle := goodIn_r _ [14, 3, 15, 16, 17, 18, 7, 19, 2, 4, 5, 6, 8, 9, 10, 20, 21, 22, 23, 24, 25, 26, 45, 46, 47, 48, 49, 50, 51, 52, 53, 54, 55, 56, 57, 58, 59, 60] (by decide +kernel) (by decide +kernel)
set_option maxRecDepth 20000 in
theorem gX8_readsPart_X8_readsWhistle : GoodIn wsX8_readsPart (wsV RX8 181 RX8 yX8_readsWhistle wsX8_readsWhistle) := goodIn_app (goodIn_of _ (by decide +kernel)) ggX8_readsPart_X8_readsWhistle
set_option maxRecDepth 20000 in
theorem ggX8_readsPart_X8_readNumber : GoodIn wsX8_readsPart wsX8_readNumber := goodIn_r _ [19, 2, 4, 5, 6, 7, 8, 9, 10, 20, 21, 22, 45, 46, 47, 48, 49, 50, 51, 52, 53, 54, 55, 56, 57, 58, 59, 60] (by decide +kernel) (by decide +kernel)
set_option maxRecDepth 20000 in
theorem gX8_readsPart_X8_readNumber : GoodIn wsX8_readsPart (wsV RX8 166 RX8 yX8_readNumber wsX8_readNumber) := goodIn_app (goodIn_of _ (by decide +kernel)) ggX8_readsPart_X8_readNumber
set_option maxRecDepth 20000 in
theorem ggX8_readsPart_X8_takes : GoodIn wsX8_readsPart wsX8_takes := goodIn_r _ [26, 2, 4, 5, 6, 7, 8, 9, 10, 45, 46, 47, 48, 49, 50, 51, 52, 53, 54, 55, 56, 57, 58, 59, 60] (by decide +kernel) (by decide +kernel)
set_option maxRecDepth 20000 in
theorem gX8_readsPart_X8_takes : GoodIn wsX8_readsPart (wsV RX8 172 RX8 yX8_takes wsX8_takes) := goodIn_app (goodIn_of _ (by decide +kernel)) ggX8_readsPart_X8_takes
set_option maxRecDepth 20000 in
theorem ggX8_readsPart_X8_readsTune : GoodIn wsX8_readsPart wsX8_readsTune := goodIn_r _ [30, 31, 2, 32, 4, 5, 6, 7, 8, 9, 10, 33, 34, 35, 36, 37, 38, 39, 40, 20, 21, 22, 41, 42, 43, 44, 45, 46, 47, 48, 49, 50, 51, 52, 53, 54, 55, 56, 57, 58, 59, 60] (by decide +kernel) (by decide +kernel)
set_option maxRecDepth 20000 in
theorem gX8_readsPart_X8_readsTune : GoodIn wsX8_readsPart (wsV RX8 130 RX8 yX8_readsTune wsX8_readsTune) := goodIn_app (goodIn_of _ (by decide +kernel)) ggX8_readsPart_X8_readsTune
theorem dX8_readsPart_0 : decode cX8_readsPart 0 = .ok (.aload_n 0, 1) := by decide +kernel
theorem dX8_readsPart_1 : decode cX8_readsPart 1 = .ok (.aload_n 0, 1) := by decide +kernel
theorem dX8_readsPart_2 : decode cX8_readsPart 2 = .ok (.invokevirtual 56, 3) := by decide +kernel
theorem dX8_readsPart_5 : decode cX8_readsPart 5 = .ok (.putfield 178, 3) := by decide +kernel
theorem dX8_readsPart_8 : decode cX8_readsPart 8 = .ok (.aload_n 0, 1) := by decide +kernel
theorem dX8_readsPart_9 : decode cX8_readsPart 9 = .ok (.getfield 178, 3) := by decide +kernel
theorem dX8_readsPart_12 : decode cX8_readsPart 12 = .ok (.lookupswitch 138 #[(33, 44), (107, 104), (116, 71), (119, 56)], 44) := by decide +kernel
theorem dX8_readsPart_56 : decode cX8_readsPart 56 = .ok (.aload_n 0, 1) := by decide +kernel
theorem dX8_readsPart_57 : decode cX8_readsPart 57 = .ok (.dup, 1) := by decide +kernel
theorem dX8_readsPart_58 : decode cX8_readsPart 58 = .ok (.getfield 50, 3) := by decide +kernel
theorem dX8_readsPart_61 : decode cX8_readsPart 61 = .ok (.iconst 1, 1) := by decide +kernel
theorem dX8_readsPart_62 : decode cX8_readsPart 62 = .ok (.iadd, 1) := by decide +kernel
theorem dX8_readsPart_63 : decode cX8_readsPart 63 = .ok (.putfield 50, 3) := by decide +kernel
theorem dX8_readsPart_66 : decode cX8_readsPart 66 = .ok (.iconst 1, 1) := by decide +kernel
theorem dX8_readsPart_67 : decode cX8_readsPart 67 = .ok (.ireturn, 1) := by decide +kernel
theorem dX8_readsPart_68 : decode cX8_readsPart 68 = .ok (.aload_n 0, 1) := by decide +kernel
theorem dX8_readsPart_69 : decode cX8_readsPart 69 = .ok (.dup, 1) := by decide +kernel
theorem dX8_readsPart_70 : decode cX8_readsPart 70 = .ok (.getfield 50, 3) := by decide +kernel
theorem dX8_readsPart_73 : decode cX8_readsPart 73 = .ok (.iconst 1, 1) := by decide +kernel
theorem dX8_readsPart_74 : decode cX8_readsPart 74 = .ok (.iadd, 1) := by decide +kernel
theorem dX8_readsPart_75 : decode cX8_readsPart 75 = .ok (.putfield 50, 3) := by decide +kernel
theorem dX8_readsPart_78 : decode cX8_readsPart 78 = .ok (.aload_n 0, 1) := by decide +kernel
theorem dX8_readsPart_79 : decode cX8_readsPart 79 = .ok (.invokevirtual 181, 3) := by decide +kernel
theorem dX8_readsPart_82 : decode cX8_readsPart 82 = .ok (.ireturn, 1) := by decide +kernel
theorem dX8_readsPart_83 : decode cX8_readsPart 83 = .ok (.aload_n 0, 1) := by decide +kernel
theorem dX8_readsPart_84 : decode cX8_readsPart 84 = .ok (.dup, 1) := by decide +kernel
theorem dX8_readsPart_85 : decode cX8_readsPart 85 = .ok (.getfield 50, 3) := by decide +kernel
theorem dX8_readsPart_88 : decode cX8_readsPart 88 = .ok (.iconst 1, 1) := by decide +kernel
theorem dX8_readsPart_89 : decode cX8_readsPart 89 = .ok (.iadd, 1) := by decide +kernel
theorem dX8_readsPart_90 : decode cX8_readsPart 90 = .ok (.putfield 50, 3) := by decide +kernel
theorem dX8_readsPart_93 : decode cX8_readsPart 93 = .ok (.aload_n 0, 1) := by decide +kernel
theorem dX8_readsPart_94 : decode cX8_readsPart 94 = .ok (.aload_n 0, 1) := by decide +kernel
theorem dX8_readsPart_95 : decode cX8_readsPart 95 = .ok (.iconst 5, 1) := by decide +kernel
theorem dX8_readsPart_96 : decode cX8_readsPart 96 = .ok (.invokevirtual 166, 3) := by decide +kernel
theorem dX8_readsPart_99 : decode cX8_readsPart 99 = .ok (.putfield 169, 3) := by decide +kernel
theorem dX8_readsPart_102 : decode cX8_readsPart 102 = .ok (.aload_n 0, 1) := by decide +kernel
theorem dX8_readsPart_103 : decode cX8_readsPart 103 = .ok (.getfield 169, 3) := by decide +kernel
theorem dX8_readsPart_106 : decode cX8_readsPart 106 = .ok (.iconst (-1), 1) := by decide +kernel
theorem dX8_readsPart_107 : decode cX8_readsPart 107 = .ok (.if_icmp .eq 7, 3) := by decide +kernel
theorem dX8_readsPart_110 : decode cX8_readsPart 110 = .ok (.iconst 1, 1) := by decide +kernel
theorem dX8_readsPart_111 : decode cX8_readsPart 111 = .ok (.goto 4, 3) := by decide +kernel
theorem dX8_readsPart_114 : decode cX8_readsPart 114 = .ok (.iconst 0, 1) := by decide +kernel
theorem dX8_readsPart_115 : decode cX8_readsPart 115 = .ok (.ireturn, 1) := by decide +kernel
theorem dX8_readsPart_116 : decode cX8_readsPart 116 = .ok (.aload_n 0, 1) := by decide +kernel
theorem dX8_readsPart_117 : decode cX8_readsPart 117 = .ok (.dup, 1) := by decide +kernel
theorem dX8_readsPart_118 : decode cX8_readsPart 118 = .ok (.getfield 50, 3) := by decide +kernel
theorem dX8_readsPart_121 : decode cX8_readsPart 121 = .ok (.iconst 1, 1) := by decide +kernel
theorem dX8_readsPart_122 : decode cX8_readsPart 122 = .ok (.iadd, 1) := by decide +kernel
theorem dX8_readsPart_123 : decode cX8_readsPart 123 = .ok (.putfield 50, 3) := by decide +kernel
theorem dX8_readsPart_126 : decode cX8_readsPart 126 = .ok (.aload_n 0, 1) := by decide +kernel
theorem dX8_readsPart_127 : decode cX8_readsPart 127 = .ok (.aload_n 0, 1) := by decide +kernel
theorem dX8_readsPart_128 : decode cX8_readsPart 128 = .ok (.bipush 6, 2) := by decide +kernel
theorem dX8_readsPart_130 : decode cX8_readsPart 130 = .ok (.invokevirtual 166, 3) := by decide +kernel
theorem dX8_readsPart_133 : decode cX8_readsPart 133 = .ok (.putfield 169, 3) := by decide +kernel
theorem dX8_readsPart_136 : decode cX8_readsPart 136 = .ok (.aload_n 0, 1) := by decide +kernel
theorem dX8_readsPart_137 : decode cX8_readsPart 137 = .ok (.getfield 169, 3) := by decide +kernel
theorem dX8_readsPart_140 : decode cX8_readsPart 140 = .ok (.iconst (-1), 1) := by decide +kernel
theorem dX8_readsPart_141 : decode cX8_readsPart 141 = .ok (.if_icmp .eq 7, 3) := by decide +kernel
theorem dX8_readsPart_144 : decode cX8_readsPart 144 = .ok (.iconst 1, 1) := by decide +kernel
theorem dX8_readsPart_145 : decode cX8_readsPart 145 = .ok (.goto 4, 3) := by decide +kernel
theorem dX8_readsPart_148 : decode cX8_readsPart 148 = .ok (.iconst 0, 1) := by decide +kernel
theorem dX8_readsPart_149 : decode cX8_readsPart 149 = .ok (.ireturn, 1) := by decide +kernel
theorem dX8_readsPart_150 : decode cX8_readsPart 150 = .ok (.aload_n 0, 1) := by decide +kernel
theorem dX8_readsPart_151 : decode cX8_readsPart 151 = .ok (.aload_n 0, 1) := by decide +kernel
theorem dX8_readsPart_152 : decode cX8_readsPart 152 = .ok (.bipush 19, 2) := by decide +kernel
theorem dX8_readsPart_154 : decode cX8_readsPart 154 = .ok (.invokevirtual 166, 3) := by decide +kernel
theorem dX8_readsPart_157 : decode cX8_readsPart 157 = .ok (.putfield 169, 3) := by decide +kernel
theorem dX8_readsPart_160 : decode cX8_readsPart 160 = .ok (.aload_n 0, 1) := by decide +kernel
theorem dX8_readsPart_161 : decode cX8_readsPart 161 = .ok (.getfield 169, 3) := by decide +kernel
theorem dX8_readsPart_164 : decode cX8_readsPart 164 = .ok (.iconst (-1), 1) := by decide +kernel
theorem dX8_readsPart_165 : decode cX8_readsPart 165 = .ok (.if_icmp .eq 23, 3) := by decide +kernel
theorem dX8_readsPart_168 : decode cX8_readsPart 168 = .ok (.aload_n 0, 1) := by decide +kernel
theorem dX8_readsPart_169 : decode cX8_readsPart 169 = .ok (.bipush 61, 2) := by decide +kernel
theorem dX8_readsPart_171 : decode cX8_readsPart 171 = .ok (.invokevirtual 172, 3) := by decide +kernel
theorem dX8_readsPart_174 : decode cX8_readsPart 174 = .ok (.ifCond .eq 14, 3) := by decide +kernel
theorem dX8_readsPart_177 : decode cX8_readsPart 177 = .ok (.aload_n 0, 1) := by decide +kernel
theorem dX8_readsPart_178 : decode cX8_readsPart 178 = .ok (.invokevirtual 130, 3) := by decide +kernel
theorem dX8_readsPart_181 : decode cX8_readsPart 181 = .ok (.ifCond .eq 7, 3) := by decide +kernel
theorem dX8_readsPart_184 : decode cX8_readsPart 184 = .ok (.iconst 1, 1) := by decide +kernel
theorem dX8_readsPart_185 : decode cX8_readsPart 185 = .ok (.goto 4, 3) := by decide +kernel
theorem dX8_readsPart_188 : decode cX8_readsPart 188 = .ok (.iconst 0, 1) := by decide +kernel
theorem dX8_readsPart_189 : decode cX8_readsPart 189 = .ok (.ireturn, 1) := by decide +kernel
set_option maxRecDepth 20000 in
theorem ggX8_findError_X8_readsPart : GoodIn wsX8_findError wsX8_readsPart := goodIn_r _ [7, 8, 1, 9, 10, 11, 12, 6, 13, 2, 14, 15, 16, 17, 18, 19, 20, 21, 22, 23, 24, 25, 26, 27, 28, 29, 30, 31, 32, 33, 34, 35, 36, 37, 38, 39, 40, 41, 42, 43, 44, 45, 46, 47, 48, 49, 50, 51, 52, 53, 54, 55, 56, 57, 58, 59, 60, 61, 62, 63, 64] (by decide +kernel) (by decide +kernel)
set_option maxRecDepth 20000 in
theorem gX8_findError_X8_readsPart : GoodIn wsX8_findError (wsV RX8 184 RX8 yX8_readsPart wsX8_readsPart) := goodIn_app (goodIn_of _ (by decide +kernel)) ggX8_findError_X8_readsPart
set_option maxRecDepth 20000 in
theorem ggX8_findError_X8_takes : GoodIn wsX8_findError wsX8_takes := goodIn_r _ [30, 1, 10, 11, 12, 6, 13, 2, 14, 49, 50, 51, 52, 53, 54, 55, 56, 57, 58, 59, 60, 61, 62, 63, 64] (by decide +kernel) (by decide +kernel)
set_option maxRecDepth 20000 in
theorem gX8_findError_X8_takes : GoodIn wsX8_findError (wsV RX8 172 RX8 yX8_takes wsX8_takes) := goodIn_app (goodIn_of _ (by decide +kernel)) ggX8_findError_X8_takes
theorem dX8_findError_0 : decode cX8_findError 0 = .ok (.aload_n 0, 1) := by decide +kernel
theorem dX8_findError_1 : decode cX8_findError 1 = .ok (.iconst 0, 1) := by decide +kernel
theorem dX8_findError_2 : decode cX8_findError 2 = .ok (.putfield 50, 3) := by decide +kernel
theorem dX8_findError_5 : decode cX8_findError 5 = .ok (.aload_n 0, 1) := by decide +kernel
theorem dX8_findError_6 : decode cX8_findError 6 = .ok (.invokevirtual 184, 3) := by decide +kernel
theorem dX8_findError_9 : decode cX8_findError 9 = .ok (.ifCond .eq 30, 3) := by decide +kernel
theorem dX8_findError_12 : decode cX8_findError 12 = .ok (.aload_n 0, 1) := by decide +kernel
theorem dX8_findError_13 : decode cX8_findError 13 = .ok (.getfield 50, 3) := by decide +kernel
theorem dX8_findError_16 : decode cX8_findError 16 = .ok (.aload_n 0, 1) := by decide +kernel
theorem dX8_findError_17 : decode cX8_findError 17 = .ok (.getfield 53, 3) := by decide +kernel
theorem dX8_findError_20 : decode cX8_findError 20 = .ok (.if_icmp .ne 5, 3) := by decide +kernel
theorem dX8_findError_23 : decode cX8_findError 23 = .ok (.iconst (-1), 1) := by decide +kernel
theorem dX8_findError_24 : decode cX8_findError 24 = .ok (.ireturn, 1) := by decide +kernel
theorem dX8_findError_25 : decode cX8_findError 25 = .ok (.aload_n 0, 1) := by decide +kernel
theorem dX8_findError_26 : decode cX8_findError 26 = .ok (.bipush 44, 2) := by decide +kernel
theorem dX8_findError_28 : decode cX8_findError 28 = .ok (.invokevirtual 172, 3) := by decide +kernel
theorem dX8_findError_31 : decode cX8_findError 31 = .ok (.ifCond .ne (-26), 3) := by decide +kernel
theorem dX8_findError_34 : decode cX8_findError 34 = .ok (.aload_n 0, 1) := by decide +kernel
theorem dX8_findError_35 : decode cX8_findError 35 = .ok (.getfield 50, 3) := by decide +kernel
theorem dX8_findError_38 : decode cX8_findError 38 = .ok (.ireturn, 1) := by decide +kernel
theorem dX8_findError_39 : decode cX8_findError 39 = .ok (.aload_n 0, 1) := by decide +kernel
theorem dX8_findError_40 : decode cX8_findError 40 = .ok (.getfield 50, 3) := by decide +kernel
theorem dX8_findError_43 : decode cX8_findError 43 = .ok (.ireturn, 1) := by decide +kernel
set_option maxRecDepth 20000 in
theorem ggX8_firstError_X8_findError : GoodIn wsX8_firstError wsX8_findError := goodIn_r _ [7, 8, 2, 9, 10, 11, 6, 12, 13, 14, 15, 16, 17, 18, 19, 20, 21, 22, 23, 24, 25, 26, 27, 28, 29, 30, 31, 32, 33, 34, 35, 36, 37, 38, 39, 40, 41, 42, 43, 44, 45, 46, 47, 48, 49, 50, 51, 52, 53, 54, 55, 56, 57, 58, 59, 60, 61, 62, 63, 64, 65, 66, 67, 68, 69] (by decide +kernel) (by decide +kernel)
set_option maxRecDepth 20000 in
theorem gX8_firstError_X8_findError : GoodIn wsX8_firstError (wsV RX8 187 RX8 yX8_findError wsX8_findError) := goodIn_app (goodIn_of _ (by decide +kernel)) ggX8_firstError_X8_findError
theorem dX8_firstError_0 : decode cX8_firstError 0 = .ok (.aload_n 0, 1) := by decide +kernel
theorem dX8_firstError_1 : decode cX8_firstError 1 = .ok (.iconst 0, 1) := by decide +kernel
theorem dX8_firstError_2 : decode cX8_firstError 2 = .ok (.putfield 28, 3) := by decide +kernel
theorem dX8_firstError_5 : decode cX8_firstError 5 = .ok (.aload_n 0, 1) := by decide +kernel
theorem dX8_firstError_6 : decode cX8_firstError 6 = .ok (.invokevirtual 187, 3) := by decide +kernel
theorem dX8_firstError_9 : decode cX8_firstError 9 = .ok (.istore_n 1, 1) := by decide +kernel
theorem dX8_firstError_10 : decode cX8_firstError 10 = .ok (.iload_n 1, 1) := by decide +kernel
theorem dX8_firstError_11 : decode cX8_firstError 11 = .ok (.iconst (-1), 1) := by decide +kernel
theorem dX8_firstError_12 : decode cX8_firstError 12 = .ok (.if_icmp .ne 10, 3) := by decide +kernel
theorem dX8_firstError_15 : decode cX8_firstError 15 = .ok (.aload_n 0, 1) := by decide +kernel
theorem dX8_firstError_16 : decode cX8_firstError 16 = .ok (.getfield 53, 3) := by decide +kernel
theorem dX8_firstError_19 : decode cX8_firstError 19 = .ok (.goto 4, 3) := by decide +kernel
theorem dX8_firstError_22 : decode cX8_firstError 22 = .ok (.iload_n 1, 1) := by decide +kernel
theorem dX8_firstError_23 : decode cX8_firstError 23 = .ok (.ireturn, 1) := by decide +kernel
set_option maxRecDepth 20000 in
theorem ggX8_tuneError_X8_isTuneText : GoodIn wsX8_tuneError wsX8_isTuneText := goodIn_r _ [8, 3, 2, 9, 10, 11, 7, 12, 13, 14, 15, 16, 17, 18, 19, 20, 21, 22, 23, 24, 25, 26, 27, 28, 29, 30, 31, 32, 33, 34, 35, 36, 37, 38, 39, 40, 41, 42, 43, 44, 45, 46, 47, 48, 49, 50] (by decide +kernel) (by decide +kernel)
set_option maxRecDepth 20000 in
theorem gX8_tuneError_X8_isTuneText : GoodIn wsX8_tuneError (wsV RX8 136 RX8 yX8_isTuneText wsX8_isTuneText) := goodIn_app (goodIn_of _ (by decide +kernel)) ggX8_tuneError_X8_isTuneText
theorem dX8_tuneError_0 : decode cX8_tuneError 0 = .ok (.aload_n 0, 1) := by decide +kernel
theorem dX8_tuneError_1 : decode cX8_tuneError 1 = .ok (.iconst 0, 1) := by decide +kernel
theorem dX8_tuneError_2 : decode cX8_tuneError 2 = .ok (.putfield 28, 3) := by decide +kernel
theorem dX8_tuneError_5 : decode cX8_tuneError 5 = .ok (.aload_n 0, 1) := by decide +kernel
theorem dX8_tuneError_6 : decode cX8_tuneError 6 = .ok (.invokevirtual 136, 3) := by decide +kernel
theorem dX8_tuneError_9 : decode cX8_tuneError 9 = .ok (.ifCond .eq 10, 3) := by decide +kernel
theorem dX8_tuneError_12 : decode cX8_tuneError 12 = .ok (.aload_n 0, 1) := by decide +kernel
theorem dX8_tuneError_13 : decode cX8_tuneError 13 = .ok (.getfield 53, 3) := by decide +kernel
theorem dX8_tuneError_16 : decode cX8_tuneError 16 = .ok (.goto 7, 3) := by decide +kernel
theorem dX8_tuneError_19 : decode cX8_tuneError 19 = .ok (.aload_n 0, 1) := by decide +kernel
theorem dX8_tuneError_20 : decode cX8_tuneError 20 = .ok (.getfield 50, 3) := by decide +kernel
theorem dX8_tuneError_23 : decode cX8_tuneError 23 = .ok (.ireturn, 1) := by decide +kernel
set_option maxRecDepth 20000 in
theorem ggX8_whyNotPart_X8_whyNotWhistled : GoodIn wsX8_whyNotPart wsX8_whyNotWhistled := goodIn_r _ [8, 9, 10, 11, 7, 12, 13, 14, 15, 16, 17, 18, 19, 20, 21, 47, 48, 49, 50, 51, 52, 53, 54, 55, 56, 57, 58, 59, 60, 61, 62] (by decide +kernel) (by decide +kernel)
set_option maxRecDepth 20000 in
theorem gX8_whyNotPart_X8_whyNotWhistled : GoodIn wsX8_whyNotPart (wsV RX8 160 RX8 yX8_whyNotWhistled wsX8_whyNotWhistled) := goodIn_app (goodIn_of _ (by decide +kernel)) ggX8_whyNotPart_X8_whyNotWhistled
set_option maxRecDepth 20000 in
theorem ggX8_whyNotPart_X8_whyNotTaught : GoodIn wsX8_whyNotPart wsX8_whyNotTaught := goodIn_r _ [25, 26, 27, 28, 7, 29, 30, 31, 32, 33, 34, 35, 36, 37, 18, 19, 20, 21, 13, 38, 39, 40, 41, 42, 43, 44, 45, 46, 47, 48, 49, 50, 51, 52, 53, 54, 55, 56, 57, 58, 59, 60, 61, 62] (by decide +kernel) (by decide +kernel)
set_option maxRecDepth 20000 in
theorem gX8_whyNotPart_X8_whyNotTaught : GoodIn wsX8_whyNotPart (wsV RX8 139 RX8 yX8_whyNotTaught wsX8_whyNotTaught) := goodIn_app (goodIn_of _ (by decide +kernel)) ggX8_whyNotPart_X8_whyNotTaught
theorem dX8_whyNotPart_0 : decode cX8_whyNotPart 0 = .ok (.aload_n 0, 1) := by decide +kernel
theorem dX8_whyNotPart_1 : decode cX8_whyNotPart 1 = .ok (.getfield 178, 3) := by decide +kernel
theorem dX8_whyNotPart_4 : decode cX8_whyNotPart 4 = .ok (.lookupswitch 59 #[(33, 57), (107, 57), (116, 57), (119, 44)], 44) := by decide +kernel
theorem dX8_whyNotPart_48 : decode cX8_whyNotPart 48 = .ok (.aload_n 0, 1) := by decide +kernel
theorem dX8_whyNotPart_49 : decode cX8_whyNotPart 49 = .ok (.aload_n 0, 1) := by decide +kernel
theorem dX8_whyNotPart_50 : decode cX8_whyNotPart 50 = .ok (.getfield 169, 3) := by decide +kernel
theorem dX8_whyNotPart_53 : decode cX8_whyNotPart 53 = .ok (.aload_n 0, 1) := by decide +kernel
theorem dX8_whyNotPart_54 : decode cX8_whyNotPart 54 = .ok (.getfield 175, 3) := by decide +kernel
theorem dX8_whyNotPart_57 : decode cX8_whyNotPart 57 = .ok (.invokevirtual 160, 3) := by decide +kernel
theorem dX8_whyNotPart_60 : decode cX8_whyNotPart 60 = .ok (.ireturn, 1) := by decide +kernel
theorem dX8_whyNotPart_61 : decode cX8_whyNotPart 61 = .ok (.iconst 0, 1) := by decide +kernel
theorem dX8_whyNotPart_62 : decode cX8_whyNotPart 62 = .ok (.ireturn, 1) := by decide +kernel
theorem dX8_whyNotPart_63 : decode cX8_whyNotPart 63 = .ok (.aload_n 0, 1) := by decide +kernel
theorem dX8_whyNotPart_64 : decode cX8_whyNotPart 64 = .ok (.aload_n 0, 1) := by decide +kernel
theorem dX8_whyNotPart_65 : decode cX8_whyNotPart 65 = .ok (.getfield 169, 3) := by decide +kernel
theorem dX8_whyNotPart_68 : decode cX8_whyNotPart 68 = .ok (.invokevirtual 139, 3) := by decide +kernel
theorem dX8_whyNotPart_71 : decode cX8_whyNotPart 71 = .ok (.ireturn, 1) := by decide +kernel
set_option maxRecDepth 20000 in
theorem ggX8_doPart_X8_whistles : GoodIn wsX8_doPart wsX8_whistles := goodIn_r _ [8, 9, 10, 11, 12, 7, 13, 14, 15, 16, 17, 18, 19, 20, 21, 22, 23, 24, 25, 26, 27, 28, 29, 30, 31, 32, 33, 34, 35, 36, 37, 38, 39, 40, 41, 42, 43, 44, 45, 46, 47, 48, 49, 50, 51, 52, 71, 72, 73, 74, 75, 76, 77, 78, 79, 80, 81, 82, 83, 84, 85, 86] (by decide +kernel) (by decide +kernel)
set_option maxRecDepth 20000 in
theorem gX8_doPart_X8_whistles : GoodIn wsX8_doPart (wsV RX8 163 RX8 yX8_whistles wsX8_whistles) := goodIn_app (goodIn_of _ (by decide +kernel)) ggX8_doPart_X8_whistles
set_option maxRecDepth 20000 in
theorem ggX8_doPart_X8_rings : GoodIn wsX8_doPart wsX8_rings := goodIn_r _ [56, 9, 71, 72, 73, 74, 75, 76, 77, 78, 79, 80, 81, 82, 83, 84, 85, 86] (by decide +kernel) (by decide +kernel)
set_option maxRecDepth 20000 in
theorem gX8_doPart_X8_rings : GoodIn wsX8_doPart (wsV RX8 157 RX8 yX8_rings wsX8_rings) := goodIn_app (goodIn_of _ (by decide +kernel)) ggX8_doPart_X8_rings
set_option maxRecDepth 20000 in
theorem ggX8_doPart_X8_tells : GoodIn wsX8_doPart wsX8_tells := goodIn_r _ [60, 9, 26, 27, 28, 7, 29, 71, 72, 73, 74, 75, 76, 77, 78, 79, 80, 81, 82, 83, 84, 85, 86] (by decide +kernel) (by decide +kernel)
set_option maxRecDepth 20000 in
theorem gX8_doPart_X8_tells : GoodIn wsX8_doPart (wsV RX8 154 RX8 yX8_tells wsX8_tells) := goodIn_app (goodIn_of _ (by decide +kernel)) ggX8_doPart_X8_tells
set_option maxRecDepth 20000 in
theorem ggX8_doPart_X8_changeKey : GoodIn wsX8_doPart wsX8_changeKey := goodIn_r _ [64, 9, 71, 72, 73, 74, 75, 76, 77, 78, 79, 80, 81, 82, 83, 84, 85, 86] (by decide +kernel) (by decide +kernel)
set_option maxRecDepth 20000 in
theorem gX8_doPart_X8_changeKey : GoodIn wsX8_doPart (wsV RX8 148 RX8 yX8_changeKey wsX8_changeKey) := goodIn_app (goodIn_of _ (by decide +kernel)) ggX8_doPart_X8_changeKey
set_option maxRecDepth 20000 in
theorem ggX8_doPart_X8_teaches : GoodIn wsX8_doPart wsX8_teaches := goodIn_r _ [68, 69, 70, 49, 50, 51, 7, 52, 9, 71, 72, 73, 74, 75, 76, 77, 78, 79, 80, 81, 82, 83, 84, 85, 86] (by decide +kernel) (by decide +kernel)
set_option maxRecDepth 20000 in
theorem gX8_doPart_X8_teaches : GoodIn wsX8_doPart (wsV RX8 142 RX8 yX8_teaches wsX8_teaches) := goodIn_app (goodIn_of _ (by decide +kernel)) ggX8_doPart_X8_teaches
theorem dX8_doPart_0 : decode cX8_doPart 0 = .ok (.aload_n 0, 1) := by decide +kernel
theorem dX8_doPart_1 : decode cX8_doPart 1 = .ok (.getfield 178, 3) := by decide +kernel
theorem dX8_doPart_4 : decode cX8_doPart 4 = .ok (.lookupswitch 80 #[(33, 57), (107, 71), (116, 62), (119, 44)], 44) := by decide +kernel
theorem dX8_doPart_48 : decode cX8_doPart 48 = .ok (.aload_n 0, 1) := by decide +kernel
theorem dX8_doPart_49 : decode cX8_doPart 49 = .ok (.aload_n 0, 1) := by decide +kernel
theorem dX8_doPart_50 : decode cX8_doPart 50 = .ok (.getfield 169, 3) := by decide +kernel
theorem dX8_doPart_53 : decode cX8_doPart 53 = .ok (.aload_n 0, 1) := by decide +kernel
theorem dX8_doPart_54 : decode cX8_doPart 54 = .ok (.getfield 175, 3) := by decide +kernel
theorem dX8_doPart_57 : decode cX8_doPart 57 = .ok (.invokevirtual 163, 3) := by decide +kernel
theorem dX8_doPart_60 : decode cX8_doPart 60 = .ok (.ireturn, 1) := by decide +kernel
theorem dX8_doPart_61 : decode cX8_doPart 61 = .ok (.aload_n 0, 1) := by decide +kernel
theorem dX8_doPart_62 : decode cX8_doPart 62 = .ok (.invokevirtual 157, 3) := by decide +kernel
theorem dX8_doPart_65 : decode cX8_doPart 65 = .ok (.ireturn, 1) := by decide +kernel
theorem dX8_doPart_66 : decode cX8_doPart 66 = .ok (.aload_n 0, 1) := by decide +kernel
theorem dX8_doPart_67 : decode cX8_doPart 67 = .ok (.aload_n 0, 1) := by decide +kernel
theorem dX8_doPart_68 : decode cX8_doPart 68 = .ok (.getfield 169, 3) := by decide +kernel
theorem dX8_doPart_71 : decode cX8_doPart 71 = .ok (.invokevirtual 154, 3) := by decide +kernel
theorem dX8_doPart_74 : decode cX8_doPart 74 = .ok (.ireturn, 1) := by decide +kernel
theorem dX8_doPart_75 : decode cX8_doPart 75 = .ok (.aload_n 0, 1) := by decide +kernel
theorem dX8_doPart_76 : decode cX8_doPart 76 = .ok (.aload_n 0, 1) := by decide +kernel
theorem dX8_doPart_77 : decode cX8_doPart 77 = .ok (.getfield 169, 3) := by decide +kernel
theorem dX8_doPart_80 : decode cX8_doPart 80 = .ok (.invokevirtual 148, 3) := by decide +kernel
theorem dX8_doPart_83 : decode cX8_doPart 83 = .ok (.ireturn, 1) := by decide +kernel
theorem dX8_doPart_84 : decode cX8_doPart 84 = .ok (.aload_n 0, 1) := by decide +kernel
theorem dX8_doPart_85 : decode cX8_doPart 85 = .ok (.aload_n 0, 1) := by decide +kernel
theorem dX8_doPart_86 : decode cX8_doPart 86 = .ok (.getfield 169, 3) := by decide +kernel
theorem dX8_doPart_89 : decode cX8_doPart 89 = .ok (.invokevirtual 142, 3) := by decide +kernel
theorem dX8_doPart_92 : decode cX8_doPart 92 = .ok (.ireturn, 1) := by decide +kernel
set_option maxRecDepth 20000 in
theorem ggX8_play_X8_findError : GoodIn wsX8_play wsX8_findError := goodIn_r _ [9, 2, 3, 10, 11, 12, 8, 13, 14, 15, 16, 17, 18, 19, 20, 21, 22, 23, 24, 25, 26, 27, 28, 29, 30, 31, 32, 33, 34, 35, 36, 37, 38, 39, 40, 41, 42, 43, 44, 45, 46, 47, 48, 49, 50, 51, 52, 53, 54, 164, 165, 166, 167, 168, 169, 170, 171, 172, 173, 174, 175, 176, 177, 178, 179] (by decide +kernel) (by decide +kernel)
set_option maxRecDepth 20000 in
theorem gX8_play_X8_findError : GoodIn wsX8_play (wsV RX8 187 RX8 yX8_findError wsX8_findError) := goodIn_app (goodIn_of _ (by decide +kernel)) ggX8_play_X8_findError
set_option maxRecDepth 20000 in
theorem ggX8_play_X8_fails : GoodIn wsX8_play wsX8_fails := goodIn_r _ [58, 1, 164, 165, 166, 167, 168, 169, 170, 171, 172, 173, 174, 175, 176, 177, 178, 179] (by decide +kernel) (by decide +kernel)
set_option maxRecDepth 20000 in
theorem gX8_play_X8_fails : GoodIn wsX8_play (wsV RX8 39 RX8 yX8_fails wsX8_fails) := goodIn_app (goodIn_of _ (by decide +kernel)) ggX8_play_X8_fails
set_option maxRecDepth 20000 in
theorem ggX8_play_X8_save : GoodIn wsX8_play wsX8_save := goodIn_r _ [62, 63, 64, 4, 164, 165, 166, 167, 168, 169, 170, 171, 172, 173, 174, 175, 176, 177, 178, 179] (by decide +kernel) (by decide +kernel)
set_option maxRecDepth 20000 in
theorem gX8_play_X8_save : GoodIn wsX8_play (wsV RX8 47 RX8 yX8_save wsX8_save) := goodIn_app (goodIn_of _ (by decide +kernel)) ggX8_play_X8_save
set_option maxRecDepth 20000 in
theorem ggX8_play_X8_readsPart : GoodIn wsX8_play wsX8_readsPart := goodIn_r _ [13, 14, 2, 15, 16, 17, 18, 8, 19, 3, 20, 21, 22, 23, 24, 25, 26, 27, 28, 29, 30, 31, 32, 33, 34, 35, 36, 37, 38, 39, 40, 41, 42, 43, 44, 45, 46, 47, 48, 49, 50, 51, 52, 53, 54, 164, 165, 166, 167, 168, 169, 170, 171, 172, 173, 174, 175, 176, 177, 178, 179] (by decide +kernel) (by decide +kernel)
set_option maxRecDepth 20000 in
theorem gX8_play_X8_readsPart : GoodIn wsX8_play (wsV RX8 184 RX8 yX8_readsPart wsX8_readsPart) := goodIn_app (goodIn_of _ (by decide +kernel)) ggX8_play_X8_readsPart
set_option maxRecDepth 20000 in
theorem ggX8_play_X8_whyNotPart : GoodIn wsX8_play wsX8_whyNotPart := goodIn_r _ [68, 14, 15, 25, 69, 70, 71, 8, 72, 73, 74, 75, 76, 4, 77, 78, 79, 80, 81, 82, 83, 84, 85, 86, 87, 88, 89, 90, 91, 92, 41, 30, 31, 32, 93, 94, 95, 96, 97, 98, 99, 100, 101, 102, 103, 104, 50, 164, 165, 166, 167, 168, 169, 170, 171, 172, 173, 174, 175, 176, 177, 178, 179] (by decide +kernel) (by decide +kernel)
set_option maxRecDepth 20000 in
theorem gX8_play_X8_whyNotPart : GoodIn wsX8_play (wsV RX8 190 RX8 yX8_whyNotPart wsX8_whyNotPart) := goodIn_app (goodIn_of _ (by decide +kernel)) ggX8_play_X8_whyNotPart
set_option maxRecDepth 20000 in
theorem ggX8_play_X8_doPart : GoodIn wsX8_play wsX8_doPart := goodIn_r _ [108, 14, 15, 25, 109, 110, 111, 8, 112, 4, 113, 114, 115, 116, 117, 118, 119, 120, 121, 122, 123, 124, 125, 126, 127, 128, 77, 78, 79, 80, 129, 130, 131, 132, 133, 134, 135, 136, 137, 138, 139, 140, 141, 142, 143, 81, 82, 83, 84, 144, 145, 146, 147, 148, 149, 150, 151, 152, 153, 154, 155, 156, 157, 158, 159, 160, 161, 162, 163, 41, 50, 164, 165, 166, 167, 168, 169, 170, 171, 172, 173, 174, 175, 176, 177, 178, 179] (by decide +kernel) (by decide +kernel)
set_option maxRecDepth 20000 in
theorem gX8_play_X8_doPart : GoodIn wsX8_play (wsV RX8 193 RX8 yX8_doPart wsX8_doPart) := goodIn_app (goodIn_of _ (by decide +kernel)) ggX8_play_X8_doPart
theorem dX8_play_0 : decode cX8_play 0 = .ok (.aload_n 0, 1) := by decide +kernel
theorem dX8_play_1 : decode cX8_play 1 = .ok (.iconst 0, 1) := by decide +kernel
theorem dX8_play_2 : decode cX8_play 2 = .ok (.putfield 28, 3) := by decide +kernel
theorem dX8_play_5 : decode cX8_play 5 = .ok (.aload_n 0, 1) := by decide +kernel
theorem dX8_play_6 : decode cX8_play 6 = .ok (.invokevirtual 187, 3) := by decide +kernel
theorem dX8_play_9 : decode cX8_play 9 = .ok (.iconst (-1), 1) := by decide +kernel
theorem dX8_play_10 : decode cX8_play 10 = .ok (.if_icmp .eq 9, 3) := by decide +kernel
theorem dX8_play_13 : decode cX8_play 13 = .ok (.aload_n 0, 1) := by decide +kernel
theorem dX8_play_14 : decode cX8_play 14 = .ok (.iconst 1, 1) := by decide +kernel
theorem dX8_play_15 : decode cX8_play 15 = .ok (.invokevirtual 39, 3) := by decide +kernel
theorem dX8_play_18 : decode cX8_play 18 = .ok (.ireturn, 1) := by decide +kernel
theorem dX8_play_19 : decode cX8_play 19 = .ok (.aload_n 0, 1) := by decide +kernel
theorem dX8_play_20 : decode cX8_play 20 = .ok (.invokevirtual 47, 3) := by decide +kernel
theorem dX8_play_23 : decode cX8_play 23 = .ok (.aload_n 0, 1) := by decide +kernel
theorem dX8_play_24 : decode cX8_play 24 = .ok (.iconst 0, 1) := by decide +kernel
theorem dX8_play_25 : decode cX8_play 25 = .ok (.putfield 50, 3) := by decide +kernel
theorem dX8_play_28 : decode cX8_play 28 = .ok (.iconst 0, 1) := by decide +kernel
theorem dX8_play_29 : decode cX8_play 29 = .ok (.istore_n 1, 1) := by decide +kernel
theorem dX8_play_30 : decode cX8_play 30 = .ok (.iconst 0, 1) := by decide +kernel
theorem dX8_play_31 : decode cX8_play 31 = .ok (.istore_n 2, 1) := by decide +kernel
theorem dX8_play_32 : decode cX8_play 32 = .ok (.iload_n 2, 1) := by decide +kernel
theorem dX8_play_33 : decode cX8_play 33 = .ok (.ifCond .ne 62, 3) := by decide +kernel
theorem dX8_play_36 : decode cX8_play 36 = .ok (.aload_n 0, 1) := by decide +kernel
theorem dX8_play_37 : decode cX8_play 37 = .ok (.getfield 50, 3) := by decide +kernel
theorem dX8_play_40 : decode cX8_play 40 = .ok (.aload_n 0, 1) := by decide +kernel
theorem dX8_play_41 : decode cX8_play 41 = .ok (.getfield 53, 3) := by decide +kernel
theorem dX8_play_44 : decode cX8_play 44 = .ok (.if_icmp .ge 51, 3) := by decide +kernel
theorem dX8_play_47 : decode cX8_play 47 = .ok (.aload_n 0, 1) := by decide +kernel
theorem dX8_play_48 : decode cX8_play 48 = .ok (.invokevirtual 184, 3) := by decide +kernel
theorem dX8_play_51 : decode cX8_play 51 = .ok (.ifCond .eq 10, 3) := by decide +kernel
theorem dX8_play_54 : decode cX8_play 54 = .ok (.aload_n 0, 1) := by decide +kernel
theorem dX8_play_55 : decode cX8_play 55 = .ok (.invokevirtual 190, 3) := by decide +kernel
theorem dX8_play_58 : decode cX8_play 58 = .ok (.goto 4, 3) := by decide +kernel
theorem dX8_play_61 : decode cX8_play 61 = .ok (.iconst (-1), 1) := by decide +kernel
theorem dX8_play_62 : decode cX8_play 62 = .ok (.istore_n 2, 1) := by decide +kernel
theorem dX8_play_63 : decode cX8_play 63 = .ok (.iload_n 1, 1) := by decide +kernel
theorem dX8_play_64 : decode cX8_play 64 = .ok (.iload_n 2, 1) := by decide +kernel
theorem dX8_play_65 : decode cX8_play 65 = .ok (.ifCond .ne 14, 3) := by decide +kernel
theorem dX8_play_68 : decode cX8_play 68 = .ok (.aload_n 0, 1) := by decide +kernel
theorem dX8_play_69 : decode cX8_play 69 = .ok (.invokevirtual 193, 3) := by decide +kernel
theorem dX8_play_72 : decode cX8_play 72 = .ok (.ifCond .lt 7, 3) := by decide +kernel
theorem dX8_play_75 : decode cX8_play 75 = .ok (.iconst 1, 1) := by decide +kernel
theorem dX8_play_76 : decode cX8_play 76 = .ok (.goto 4, 3) := by decide +kernel
theorem dX8_play_79 : decode cX8_play 79 = .ok (.iconst 0, 1) := by decide +kernel
theorem dX8_play_80 : decode cX8_play 80 = .ok (.iadd, 1) := by decide +kernel
theorem dX8_play_81 : decode cX8_play 81 = .ok (.istore_n 1, 1) := by decide +kernel
theorem dX8_play_82 : decode cX8_play 82 = .ok (.aload_n 0, 1) := by decide +kernel
theorem dX8_play_83 : decode cX8_play 83 = .ok (.dup, 1) := by decide +kernel
theorem dX8_play_84 : decode cX8_play 84 = .ok (.getfield 50, 3) := by decide +kernel
theorem dX8_play_87 : decode cX8_play 87 = .ok (.iconst 1, 1) := by decide +kernel
theorem dX8_play_88 : decode cX8_play 88 = .ok (.iadd, 1) := by decide +kernel
theorem dX8_play_89 : decode cX8_play 89 = .ok (.putfield 50, 3) := by decide +kernel
theorem dX8_play_92 : decode cX8_play 92 = .ok (.goto (-60), 3) := by decide +kernel
theorem dX8_play_95 : decode cX8_play 95 = .ok (.aload_n 0, 1) := by decide +kernel
theorem dX8_play_96 : decode cX8_play 96 = .ok (.getfield 7, 3) := by decide +kernel
theorem dX8_play_99 : decode cX8_play 99 = .ok (.bipush 12, 2) := by decide +kernel
theorem dX8_play_101 : decode cX8_play 101 = .ok (.iload_n 2, 1) := by decide +kernel
theorem dX8_play_102 : decode cX8_play 102 = .ok (.ifCond .ne 7, 3) := by decide +kernel
theorem dX8_play_105 : decode cX8_play 105 = .ok (.iconst (-1), 1) := by decide +kernel
theorem dX8_play_106 : decode cX8_play 106 = .ok (.goto 4, 3) := by decide +kernel
theorem dX8_play_109 : decode cX8_play 109 = .ok (.iload_n 1, 1) := by decide +kernel
theorem dX8_play_110 : decode cX8_play 110 = .ok (.iastore, 1) := by decide +kernel
theorem dX8_play_111 : decode cX8_play 111 = .ok (.aload_n 0, 1) := by decide +kernel
theorem dX8_play_112 : decode cX8_play 112 = .ok (.getfield 7, 3) := by decide +kernel
theorem dX8_play_115 : decode cX8_play 115 = .ok (.bipush 13, 2) := by decide +kernel
theorem dX8_play_117 : decode cX8_play 117 = .ok (.iload_n 2, 1) := by decide +kernel
theorem dX8_play_118 : decode cX8_play 118 = .ok (.ifCond .ne 7, 3) := by decide +kernel
theorem dX8_play_121 : decode cX8_play 121 = .ok (.iconst (-1), 1) := by decide +kernel
theorem dX8_play_122 : decode cX8_play 122 = .ok (.goto 4, 3) := by decide +kernel
theorem dX8_play_125 : decode cX8_play 125 = .ok (.iload_n 2, 1) := by decide +kernel
theorem dX8_play_126 : decode cX8_play 126 = .ok (.iastore, 1) := by decide +kernel
theorem dX8_play_127 : decode cX8_play 127 = .ok (.aload_n 0, 1) := by decide +kernel
theorem dX8_play_128 : decode cX8_play 128 = .ok (.iconst 0, 1) := by decide +kernel
theorem dX8_play_129 : decode cX8_play 129 = .ok (.putfield 53, 3) := by decide +kernel
theorem dX8_play_132 : decode cX8_play 132 = .ok (.iload_n 1, 1) := by decide +kernel
theorem dX8_play_133 : decode cX8_play 133 = .ok (.ireturn, 1) := by decide +kernel
set_option maxRecDepth 20000 in
theorem ggX8_stopped_X8_within : GoodIn wsX8_stopped wsX8_within := goodIn_r _ [6] (by decide +kernel) (by decide +kernel)
set_option maxRecDepth 20000 in
theorem gX8_stopped_X8_within : GoodIn wsX8_stopped (va_wsS RX8 32 yX8_within wsX8_within) := goodIn_app (goodIn_of _ (by decide +kernel)) ggX8_stopped_X8_within
set_option maxRecDepth 20000 in
theorem ggX8_stopped_X8_fails : GoodIn wsX8_stopped wsX8_fails := goodIn_r _ [10, 1, 11, 12, 13, 14, 15, 16, 17, 18, 19, 20, 21, 22, 23, 24, 25, 26] (by decide +kernel) (by decide +kernel)
set_option maxRecDepth 20000 in
theorem gX8_stopped_X8_fails : GoodIn wsX8_stopped (wsV RX8 39 RX8 yX8_fails wsX8_fails) := goodIn_app (goodIn_of _ (by decide +kernel)) ggX8_stopped_X8_fails
theorem dX8_stopped_0 : decode cX8_stopped 0 = .ok (.aload_n 0, 1) := by decide +kernel
theorem dX8_stopped_1 : decode cX8_stopped 1 = .ok (.iconst 0, 1) := by decide +kernel
theorem dX8_stopped_2 : decode cX8_stopped 2 = .ok (.putfield 28, 3) := by decide +kernel
theorem dX8_stopped_5 : decode cX8_stopped 5 = .ok (.iload_n 1, 1) := by decide +kernel
theorem dX8_stopped_6 : decode cX8_stopped 6 = .ok (.iconst 0, 1) := by decide +kernel
theorem dX8_stopped_7 : decode cX8_stopped 7 = .ok (.iconst 1, 1) := by decide +kernel
theorem dX8_stopped_8 : decode cX8_stopped 8 = .ok (.invokestatic 32, 3) := by decide +kernel
theorem dX8_stopped_11 : decode cX8_stopped 11 = .ok (.ifCond .eq 15, 3) := by decide +kernel
theorem dX8_stopped_14 : decode cX8_stopped 14 = .ok (.aload_n 0, 1) := by decide +kernel
theorem dX8_stopped_15 : decode cX8_stopped 15 = .ok (.getfield 7, 3) := by decide +kernel
theorem dX8_stopped_18 : decode cX8_stopped 18 = .ok (.bipush 12, 2) := by decide +kernel
theorem dX8_stopped_20 : decode cX8_stopped 20 = .ok (.iload_n 1, 1) := by decide +kernel
theorem dX8_stopped_21 : decode cX8_stopped 21 = .ok (.iadd, 1) := by decide +kernel
theorem dX8_stopped_22 : decode cX8_stopped 22 = .ok (.iaload, 1) := by decide +kernel
theorem dX8_stopped_23 : decode cX8_stopped 23 = .ok (.goto 8, 3) := by decide +kernel
theorem dX8_stopped_26 : decode cX8_stopped 26 = .ok (.aload_n 0, 1) := by decide +kernel
theorem dX8_stopped_27 : decode cX8_stopped 27 = .ok (.iconst 1, 1) := by decide +kernel
theorem dX8_stopped_28 : decode cX8_stopped 28 = .ok (.invokevirtual 39, 3) := by decide +kernel
theorem dX8_stopped_31 : decode cX8_stopped 31 = .ok (.ireturn, 1) := by decide +kernel
theorem dX8_forbidders_0 : decode cX8_forbidders 0 = .ok (.iconst 0, 1) := by decide +kernel
theorem dX8_forbidders_1 : decode cX8_forbidders 1 = .ok (.istore_n 2, 1) := by decide +kernel
theorem dX8_forbidders_2 : decode cX8_forbidders 2 = .ok (.iconst 0, 1) := by decide +kernel
theorem dX8_forbidders_3 : decode cX8_forbidders 3 = .ok (.istore_n 3, 1) := by decide +kernel
theorem dX8_forbidders_4 : decode cX8_forbidders 4 = .ok (.iload_n 3, 1) := by decide +kernel
theorem dX8_forbidders_5 : decode cX8_forbidders 5 = .ok (.iconst 3, 1) := by decide +kernel
theorem dX8_forbidders_6 : decode cX8_forbidders 6 = .ok (.if_icmp .ge 27, 3) := by decide +kernel
theorem dX8_forbidders_9 : decode cX8_forbidders 9 = .ok (.iload_n 2, 1) := by decide +kernel
theorem dX8_forbidders_10 : decode cX8_forbidders 10 = .ok (.aload_n 0, 1) := by decide +kernel
theorem dX8_forbidders_11 : decode cX8_forbidders 11 = .ok (.getfield 7, 3) := by decide +kernel
theorem dX8_forbidders_14 : decode cX8_forbidders 14 = .ok (.bipush 44, 2) := by decide +kernel
theorem dX8_forbidders_16 : decode cX8_forbidders 16 = .ok (.iload_n 3, 1) := by decide +kernel
theorem dX8_forbidders_17 : decode cX8_forbidders 17 = .ok (.iadd, 1) := by decide +kernel
theorem dX8_forbidders_18 : decode cX8_forbidders 18 = .ok (.iaload, 1) := by decide +kernel
theorem dX8_forbidders_19 : decode cX8_forbidders 19 = .ok (.iload_n 1, 1) := by decide +kernel
theorem dX8_forbidders_20 : decode cX8_forbidders 20 = .ok (.ishr, 1) := by decide +kernel
theorem dX8_forbidders_21 : decode cX8_forbidders 21 = .ok (.iconst 1, 1) := by decide +kernel
theorem dX8_forbidders_22 : decode cX8_forbidders 22 = .ok (.iand, 1) := by decide +kernel
theorem dX8_forbidders_23 : decode cX8_forbidders 23 = .ok (.iload_n 3, 1) := by decide +kernel
theorem dX8_forbidders_24 : decode cX8_forbidders 24 = .ok (.ishl, 1) := by decide +kernel
theorem dX8_forbidders_25 : decode cX8_forbidders 25 = .ok (.ior, 1) := by decide +kernel
theorem dX8_forbidders_26 : decode cX8_forbidders 26 = .ok (.istore_n 2, 1) := by decide +kernel
theorem dX8_forbidders_27 : decode cX8_forbidders 27 = .ok (.iinc 3 1, 3) := by decide +kernel
theorem dX8_forbidders_30 : decode cX8_forbidders 30 = .ok (.goto (-26), 3) := by decide +kernel
theorem dX8_forbidders_33 : decode cX8_forbidders 33 = .ok (.iload_n 2, 1) := by decide +kernel
theorem dX8_forbidders_34 : decode cX8_forbidders 34 = .ok (.ireturn, 1) := by decide +kernel
set_option maxRecDepth 20000 in
theorem ggX8_tellsMessage_X8_ofMessage : GoodIn wsX8_tellsMessage wsX8_ofMessage := goodIn_r _ [5, 6, 11, 12, 13, 14, 15, 16, 17, 18, 19, 20, 21, 22, 23, 24, 25, 26] (by decide +kernel) (by decide +kernel)
set_option maxRecDepth 20000 in
theorem gX8_tellsMessage_X8_ofMessage : GoodIn wsX8_tellsMessage (wsV RX8 74 RX8 yX8_ofMessage wsX8_ofMessage) := goodIn_app (goodIn_of _ (by decide +kernel)) ggX8_tellsMessage_X8_ofMessage
set_option maxRecDepth 20000 in
theorem ggX8_tellsMessage_X8_forbidders : GoodIn wsX8_tellsMessage wsX8_forbidders := goodIn_r _ [10, 6, 11, 12, 13, 14, 15, 16, 17, 18, 19, 20, 21, 22, 23, 24, 25, 26] (by decide +kernel) (by decide +kernel)
set_option maxRecDepth 20000 in
theorem gX8_tellsMessage_X8_forbidders : GoodIn wsX8_tellsMessage (wsV RX8 196 RX8 yX8_forbidders wsX8_forbidders) := goodIn_app (goodIn_of _ (by decide +kernel)) ggX8_tellsMessage_X8_forbidders
theorem dX8_tellsMessage_0 : decode cX8_tellsMessage 0 = .ok (.iload_n 2, 1) := by decide +kernel
theorem dX8_tellsMessage_1 : decode cX8_tellsMessage 1 = .ok (.tableswitch 47 0 2 #[27, 34, 40], 27) := by decide +kernel
theorem dX8_tellsMessage_28 : decode cX8_tellsMessage 28 = .ok (.aload_n 0, 1) := by decide +kernel
theorem dX8_tellsMessage_29 : decode cX8_tellsMessage 29 = .ok (.iload_n 1, 1) := by decide +kernel
theorem dX8_tellsMessage_30 : decode cX8_tellsMessage 30 = .ok (.iconst 0, 1) := by decide +kernel
theorem dX8_tellsMessage_31 : decode cX8_tellsMessage 31 = .ok (.invokevirtual 74, 3) := by decide +kernel
theorem dX8_tellsMessage_34 : decode cX8_tellsMessage 34 = .ok (.ireturn, 1) := by decide +kernel
theorem dX8_tellsMessage_35 : decode cX8_tellsMessage 35 = .ok (.aload_n 0, 1) := by decide +kernel
theorem dX8_tellsMessage_36 : decode cX8_tellsMessage 36 = .ok (.iload_n 1, 1) := by decide +kernel
theorem dX8_tellsMessage_37 : decode cX8_tellsMessage 37 = .ok (.invokevirtual 196, 3) := by decide +kernel
theorem dX8_tellsMessage_40 : decode cX8_tellsMessage 40 = .ok (.ireturn, 1) := by decide +kernel
theorem dX8_tellsMessage_41 : decode cX8_tellsMessage 41 = .ok (.aload_n 0, 1) := by decide +kernel
theorem dX8_tellsMessage_42 : decode cX8_tellsMessage 42 = .ok (.iload_n 1, 1) := by decide +kernel
theorem dX8_tellsMessage_43 : decode cX8_tellsMessage 43 = .ok (.iconst 1, 1) := by decide +kernel
theorem dX8_tellsMessage_44 : decode cX8_tellsMessage 44 = .ok (.invokevirtual 74, 3) := by decide +kernel
theorem dX8_tellsMessage_47 : decode cX8_tellsMessage 47 = .ok (.ireturn, 1) := by decide +kernel
theorem dX8_tellsMessage_48 : decode cX8_tellsMessage 48 = .ok (.aload_n 0, 1) := by decide +kernel
theorem dX8_tellsMessage_49 : decode cX8_tellsMessage 49 = .ok (.iload_n 1, 1) := by decide +kernel
theorem dX8_tellsMessage_50 : decode cX8_tellsMessage 50 = .ok (.iconst 2, 1) := by decide +kernel
theorem dX8_tellsMessage_51 : decode cX8_tellsMessage 51 = .ok (.invokevirtual 74, 3) := by decide +kernel
theorem dX8_tellsMessage_54 : decode cX8_tellsMessage 54 = .ok (.ireturn, 1) := by decide +kernel
set_option maxRecDepth 20000 in
theorem ggX8_message_X8_isMessage : GoodIn wsX8_message wsX8_isMessage := goodIn_r _ [5, 6, 7, 4, 8] (by decide +kernel) (by decide +kernel)
set_option maxRecDepth 20000 in
theorem gX8_message_X8_isMessage : GoodIn wsX8_message (va_wsS RX8 133 yX8_isMessage wsX8_isMessage) := goodIn_app (goodIn_of _ (by decide +kernel)) ggX8_message_X8_isMessage
set_option maxRecDepth 20000 in
theorem ggX8_message_X8_fails : GoodIn wsX8_message wsX8_fails := goodIn_r _ [12, 1, 26, 27, 28, 29, 30, 31, 32, 33, 34, 35, 36, 37, 38, 39, 40, 41] (by decide +kernel) (by decide +kernel)
set_option maxRecDepth 20000 in
theorem gX8_message_X8_fails : GoodIn wsX8_message (wsV RX8 39 RX8 yX8_fails wsX8_fails) := goodIn_app (goodIn_of _ (by decide +kernel)) ggX8_message_X8_fails
set_option maxRecDepth 20000 in
theorem ggX8_message_X8_within : GoodIn wsX8_message wsX8_within := goodIn_r _ [8] (by decide +kernel) (by decide +kernel)
set_option maxRecDepth 20000 in
theorem gX8_message_X8_within : GoodIn wsX8_message (va_wsS RX8 32 yX8_within wsX8_within) := goodIn_app (goodIn_of _ (by decide +kernel)) ggX8_message_X8_within
set_option maxRecDepth 20000 in
theorem ggX8_message_X8_tellsMessage : GoodIn wsX8_message wsX8_tellsMessage := goodIn_r _ [16, 17, 18, 19, 4, 20, 21, 22, 23, 24, 25, 26, 27, 28, 29, 30, 31, 32, 33, 34, 35, 36, 37, 38, 39, 40, 41] (by decide +kernel) (by decide +kernel)
set_option maxRecDepth 20000 in
theorem gX8_message_X8_tellsMessage : GoodIn wsX8_message (wsV RX8 199 RX8 yX8_tellsMessage wsX8_tellsMessage) := goodIn_app (goodIn_of _ (by decide +kernel)) ggX8_message_X8_tellsMessage
theorem dX8_message_0 : decode cX8_message 0 = .ok (.aload_n 0, 1) := by decide +kernel
theorem dX8_message_1 : decode cX8_message 1 = .ok (.iconst 0, 1) := by decide +kernel
theorem dX8_message_2 : decode cX8_message 2 = .ok (.putfield 28, 3) := by decide +kernel
theorem dX8_message_5 : decode cX8_message 5 = .ok (.iload_n 1, 1) := by decide +kernel
theorem dX8_message_6 : decode cX8_message 6 = .ok (.invokestatic 133, 3) := by decide +kernel
theorem dX8_message_9 : decode cX8_message 9 = .ok (.ifCond .ne 9, 3) := by decide +kernel
theorem dX8_message_12 : decode cX8_message 12 = .ok (.aload_n 0, 1) := by decide +kernel
theorem dX8_message_13 : decode cX8_message 13 = .ok (.iconst 1, 1) := by decide +kernel
theorem dX8_message_14 : decode cX8_message 14 = .ok (.invokevirtual 39, 3) := by decide +kernel
theorem dX8_message_17 : decode cX8_message 17 = .ok (.ireturn, 1) := by decide +kernel
theorem dX8_message_18 : decode cX8_message 18 = .ok (.iload_n 2, 1) := by decide +kernel
theorem dX8_message_19 : decode cX8_message 19 = .ok (.iconst 0, 1) := by decide +kernel
theorem dX8_message_20 : decode cX8_message 20 = .ok (.iconst 3, 1) := by decide +kernel
theorem dX8_message_21 : decode cX8_message 21 = .ok (.invokestatic 32, 3) := by decide +kernel
theorem dX8_message_24 : decode cX8_message 24 = .ok (.ifCond .eq 12, 3) := by decide +kernel
theorem dX8_message_27 : decode cX8_message 27 = .ok (.aload_n 0, 1) := by decide +kernel
theorem dX8_message_28 : decode cX8_message 28 = .ok (.iload_n 1, 1) := by decide +kernel
theorem dX8_message_29 : decode cX8_message 29 = .ok (.iload_n 2, 1) := by decide +kernel
theorem dX8_message_30 : decode cX8_message 30 = .ok (.invokevirtual 199, 3) := by decide +kernel
theorem dX8_message_33 : decode cX8_message 33 = .ok (.goto 8, 3) := by decide +kernel
theorem dX8_message_36 : decode cX8_message 36 = .ok (.aload_n 0, 1) := by decide +kernel
theorem dX8_message_37 : decode cX8_message 37 = .ok (.iconst 2, 1) := by decide +kernel
theorem dX8_message_38 : decode cX8_message 38 = .ok (.invokevirtual 39, 3) := by decide +kernel
theorem dX8_message_41 : decode cX8_message 41 = .ok (.ireturn, 1) := by decide +kernel
set_option maxRecDepth 20000 in
theorem ggX8_tellsNote_X8_ofMessage : GoodIn wsX8_tellsNote wsX8_ofMessage := goodIn_r _ [5, 6, 7, 8, 9, 10, 11, 12, 13, 14, 15, 16, 17, 18, 19, 20, 21, 22] (by decide +kernel) (by decide +kernel)
set_option maxRecDepth 20000 in
theorem gX8_tellsNote_X8_ofMessage : GoodIn wsX8_tellsNote (wsV RX8 74 RX8 yX8_ofMessage wsX8_ofMessage) := goodIn_app (goodIn_of _ (by decide +kernel)) ggX8_tellsNote_X8_ofMessage
theorem dX8_tellsNote_0 : decode cX8_tellsNote 0 = .ok (.iload_n 2, 1) := by decide +kernel
theorem dX8_tellsNote_1 : decode cX8_tellsNote 1 = .ok (.aload_n 0, 1) := by decide +kernel
theorem dX8_tellsNote_2 : decode cX8_tellsNote 2 = .ok (.iload_n 1, 1) := by decide +kernel
theorem dX8_tellsNote_3 : decode cX8_tellsNote 3 = .ok (.iconst 0, 1) := by decide +kernel
theorem dX8_tellsNote_4 : decode cX8_tellsNote 4 = .ok (.invokevirtual 74, 3) := by decide +kernel
theorem dX8_tellsNote_7 : decode cX8_tellsNote 7 = .ok (.if_icmp .ge 14, 3) := by decide +kernel
theorem dX8_tellsNote_10 : decode cX8_tellsNote 10 = .ok (.aload_n 0, 1) := by decide +kernel
theorem dX8_tellsNote_11 : decode cX8_tellsNote 11 = .ok (.iload_n 1, 1) := by decide +kernel
theorem dX8_tellsNote_12 : decode cX8_tellsNote 12 = .ok (.iconst 3, 1) := by decide +kernel
theorem dX8_tellsNote_13 : decode cX8_tellsNote 13 = .ok (.iload_n 2, 1) := by decide +kernel
theorem dX8_tellsNote_14 : decode cX8_tellsNote 14 = .ok (.iadd, 1) := by decide +kernel
theorem dX8_tellsNote_15 : decode cX8_tellsNote 15 = .ok (.invokevirtual 74, 3) := by decide +kernel
theorem dX8_tellsNote_18 : decode cX8_tellsNote 18 = .ok (.goto 4, 3) := by decide +kernel
theorem dX8_tellsNote_21 : decode cX8_tellsNote 21 = .ok (.iconst (-1), 1) := by decide +kernel
theorem dX8_tellsNote_22 : decode cX8_tellsNote 22 = .ok (.ireturn, 1) := by decide +kernel
set_option maxRecDepth 20000 in
theorem ggX8_note_X8_isMessage : GoodIn wsX8_note wsX8_isMessage := goodIn_r _ [5, 6, 7, 4, 8] (by decide +kernel) (by decide +kernel)
set_option maxRecDepth 20000 in
theorem gX8_note_X8_isMessage : GoodIn wsX8_note (va_wsS RX8 133 yX8_isMessage wsX8_isMessage) := goodIn_app (goodIn_of _ (by decide +kernel)) ggX8_note_X8_isMessage
set_option maxRecDepth 20000 in
theorem ggX8_note_X8_fails : GoodIn wsX8_note wsX8_fails := goodIn_r _ [12, 1, 22, 23, 24, 25, 26, 27, 28, 29, 30, 31, 32, 33, 34, 35, 36, 37] (by decide +kernel) (by decide +kernel)
set_option maxRecDepth 20000 in
theorem gX8_note_X8_fails : GoodIn wsX8_note (wsV RX8 39 RX8 yX8_fails wsX8_fails) := goodIn_app (goodIn_of _ (by decide +kernel)) ggX8_note_X8_fails
set_option maxRecDepth 20000 in
theorem ggX8_note_X8_within : GoodIn wsX8_note wsX8_within := goodIn_r _ [8] (by decide +kernel) (by decide +kernel)
set_option maxRecDepth 20000 in
theorem gX8_note_X8_within : GoodIn wsX8_note (va_wsS RX8 32 yX8_within wsX8_within) := goodIn_app (goodIn_of _ (by decide +kernel)) ggX8_note_X8_within
set_option maxRecDepth 20000 in
theorem ggX8_note_X8_tellsNote : GoodIn wsX8_note wsX8_tellsNote := goodIn_r _ [16, 17, 18, 19, 4, 20, 21, 22, 23, 24, 25, 26, 27, 28, 29, 30, 31, 32, 33, 34, 35, 36, 37] (by decide +kernel) (by decide +kernel)
set_option maxRecDepth 20000 in
theorem gX8_note_X8_tellsNote : GoodIn wsX8_note (wsV RX8 202 RX8 yX8_tellsNote wsX8_tellsNote) := goodIn_app (goodIn_of _ (by decide +kernel)) ggX8_note_X8_tellsNote
theorem dX8_note_0 : decode cX8_note 0 = .ok (.aload_n 0, 1) := by decide +kernel
theorem dX8_note_1 : decode cX8_note 1 = .ok (.iconst 0, 1) := by decide +kernel
theorem dX8_note_2 : decode cX8_note 2 = .ok (.putfield 28, 3) := by decide +kernel
theorem dX8_note_5 : decode cX8_note 5 = .ok (.iload_n 1, 1) := by decide +kernel
theorem dX8_note_6 : decode cX8_note 6 = .ok (.invokestatic 133, 3) := by decide +kernel
theorem dX8_note_9 : decode cX8_note 9 = .ok (.ifCond .ne 9, 3) := by decide +kernel
theorem dX8_note_12 : decode cX8_note 12 = .ok (.aload_n 0, 1) := by decide +kernel
theorem dX8_note_13 : decode cX8_note 13 = .ok (.iconst 1, 1) := by decide +kernel
theorem dX8_note_14 : decode cX8_note 14 = .ok (.invokevirtual 39, 3) := by decide +kernel
theorem dX8_note_17 : decode cX8_note 17 = .ok (.ireturn, 1) := by decide +kernel
theorem dX8_note_18 : decode cX8_note 18 = .ok (.iload_n 2, 1) := by decide +kernel
theorem dX8_note_19 : decode cX8_note 19 = .ok (.iconst 0, 1) := by decide +kernel
theorem dX8_note_20 : decode cX8_note 20 = .ok (.bipush 7, 2) := by decide +kernel
theorem dX8_note_22 : decode cX8_note 22 = .ok (.invokestatic 32, 3) := by decide +kernel
theorem dX8_note_25 : decode cX8_note 25 = .ok (.ifCond .eq 12, 3) := by decide +kernel
theorem dX8_note_28 : decode cX8_note 28 = .ok (.aload_n 0, 1) := by decide +kernel
theorem dX8_note_29 : decode cX8_note 29 = .ok (.iload_n 1, 1) := by decide +kernel
theorem dX8_note_30 : decode cX8_note 30 = .ok (.iload_n 2, 1) := by decide +kernel
theorem dX8_note_31 : decode cX8_note 31 = .ok (.invokevirtual 202, 3) := by decide +kernel
theorem dX8_note_34 : decode cX8_note 34 = .ok (.goto 8, 3) := by decide +kernel
theorem dX8_note_37 : decode cX8_note 37 = .ok (.aload_n 0, 1) := by decide +kernel
theorem dX8_note_38 : decode cX8_note 38 = .ok (.iconst 2, 1) := by decide +kernel
theorem dX8_note_39 : decode cX8_note 39 = .ok (.invokevirtual 39, 3) := by decide +kernel
theorem dX8_note_42 : decode cX8_note 42 = .ok (.ireturn, 1) := by decide +kernel
set_option maxRecDepth 20000 in
theorem ggX8_tellsRoom_X8_ofRoom : GoodIn wsX8_tellsRoom wsX8_ofRoom := goodIn_r _ [5, 6, 11, 12, 13, 14, 15, 16, 17, 18, 19, 20, 21, 22, 23, 24, 25, 26] (by decide +kernel) (by decide +kernel)
set_option maxRecDepth 20000 in
theorem gX8_tellsRoom_X8_ofRoom : GoodIn wsX8_tellsRoom (wsV RX8 109 RX8 yX8_ofRoom wsX8_ofRoom) := goodIn_app (goodIn_of _ (by decide +kernel)) ggX8_tellsRoom_X8_ofRoom
set_option maxRecDepth 20000 in
theorem ggX8_tellsRoom_X8_isSilenced : GoodIn wsX8_tellsRoom wsX8_isSilenced := goodIn_r _ [10, 6, 1, 2, 3, 4, 5, 11, 12, 13, 14, 15, 16, 17, 18, 19, 20, 21, 22, 23, 24, 25, 26] (by decide +kernel) (by decide +kernel)
set_option maxRecDepth 20000 in
theorem gX8_tellsRoom_X8_isSilenced : GoodIn wsX8_tellsRoom (wsV RX8 115 RX8 yX8_isSilenced wsX8_isSilenced) := goodIn_app (goodIn_of _ (by decide +kernel)) ggX8_tellsRoom_X8_isSilenced
theorem dX8_tellsRoom_0 : decode cX8_tellsRoom 0 = .ok (.iload_n 2, 1) := by decide +kernel
theorem dX8_tellsRoom_1 : decode cX8_tellsRoom 1 = .ok (.tableswitch 52 0 3 #[31, 31, 31, 38], 31) := by decide +kernel
theorem dX8_tellsRoom_32 : decode cX8_tellsRoom 32 = .ok (.aload_n 0, 1) := by decide +kernel
theorem dX8_tellsRoom_33 : decode cX8_tellsRoom 33 = .ok (.iload_n 1, 1) := by decide +kernel
theorem dX8_tellsRoom_34 : decode cX8_tellsRoom 34 = .ok (.iload_n 2, 1) := by decide +kernel
theorem dX8_tellsRoom_35 : decode cX8_tellsRoom 35 = .ok (.invokevirtual 109, 3) := by decide +kernel
theorem dX8_tellsRoom_38 : decode cX8_tellsRoom 38 = .ok (.ireturn, 1) := by decide +kernel
theorem dX8_tellsRoom_39 : decode cX8_tellsRoom 39 = .ok (.aload_n 0, 1) := by decide +kernel
theorem dX8_tellsRoom_40 : decode cX8_tellsRoom 40 = .ok (.iload_n 1, 1) := by decide +kernel
theorem dX8_tellsRoom_41 : decode cX8_tellsRoom 41 = .ok (.invokevirtual 115, 3) := by decide +kernel
theorem dX8_tellsRoom_44 : decode cX8_tellsRoom 44 = .ok (.ifCond .eq 7, 3) := by decide +kernel
theorem dX8_tellsRoom_47 : decode cX8_tellsRoom 47 = .ok (.iconst 1, 1) := by decide +kernel
theorem dX8_tellsRoom_48 : decode cX8_tellsRoom 48 = .ok (.goto 4, 3) := by decide +kernel
theorem dX8_tellsRoom_51 : decode cX8_tellsRoom 51 = .ok (.iconst 0, 1) := by decide +kernel
theorem dX8_tellsRoom_52 : decode cX8_tellsRoom 52 = .ok (.ireturn, 1) := by decide +kernel
theorem dX8_tellsRoom_53 : decode cX8_tellsRoom 53 = .ok (.aload_n 0, 1) := by decide +kernel
theorem dX8_tellsRoom_54 : decode cX8_tellsRoom 54 = .ok (.iload_n 1, 1) := by decide +kernel
theorem dX8_tellsRoom_55 : decode cX8_tellsRoom 55 = .ok (.iload_n 2, 1) := by decide +kernel
theorem dX8_tellsRoom_56 : decode cX8_tellsRoom 56 = .ok (.iconst 1, 1) := by decide +kernel
theorem dX8_tellsRoom_57 : decode cX8_tellsRoom 57 = .ok (.isub, 1) := by decide +kernel
theorem dX8_tellsRoom_58 : decode cX8_tellsRoom 58 = .ok (.invokevirtual 109, 3) := by decide +kernel
theorem dX8_tellsRoom_61 : decode cX8_tellsRoom 61 = .ok (.ireturn, 1) := by decide +kernel
set_option maxRecDepth 20000 in
theorem ggX8_room_X8_isRoom : GoodIn wsX8_room wsX8_isRoom := goodIn_r _ [5, 6, 7, 4, 8] (by decide +kernel) (by decide +kernel)
set_option maxRecDepth 20000 in
theorem gX8_room_X8_isRoom : GoodIn wsX8_room (va_wsS RX8 151 yX8_isRoom wsX8_isRoom) := goodIn_app (goodIn_of _ (by decide +kernel)) ggX8_room_X8_isRoom
set_option maxRecDepth 20000 in
theorem ggX8_room_X8_fails : GoodIn wsX8_room wsX8_fails := goodIn_r _ [12, 1, 26, 27, 28, 29, 30, 31, 32, 33, 34, 35, 36, 37, 38, 39, 40, 41] (by decide +kernel) (by decide +kernel)
set_option maxRecDepth 20000 in
theorem gX8_room_X8_fails : GoodIn wsX8_room (wsV RX8 39 RX8 yX8_fails wsX8_fails) := goodIn_app (goodIn_of _ (by decide +kernel)) ggX8_room_X8_fails
set_option maxRecDepth 20000 in
theorem ggX8_room_X8_within : GoodIn wsX8_room wsX8_within := goodIn_r _ [8] (by decide +kernel) (by decide +kernel)
set_option maxRecDepth 20000 in
theorem gX8_room_X8_within : GoodIn wsX8_room (va_wsS RX8 32 yX8_within wsX8_within) := goodIn_app (goodIn_of _ (by decide +kernel)) ggX8_room_X8_within
set_option maxRecDepth 20000 in
theorem ggX8_room_X8_tellsRoom : GoodIn wsX8_room wsX8_tellsRoom := goodIn_r _ [16, 17, 18, 19, 4, 20, 21, 22, 23, 24, 25, 26, 27, 28, 29, 30, 31, 32, 33, 34, 35, 36, 37, 38, 39, 40, 41] (by decide +kernel) (by decide +kernel)
set_option maxRecDepth 20000 in
theorem gX8_room_X8_tellsRoom : GoodIn wsX8_room (wsV RX8 205 RX8 yX8_tellsRoom wsX8_tellsRoom) := goodIn_app (goodIn_of _ (by decide +kernel)) ggX8_room_X8_tellsRoom
theorem dX8_room_0 : decode cX8_room 0 = .ok (.aload_n 0, 1) := by decide +kernel
theorem dX8_room_1 : decode cX8_room 1 = .ok (.iconst 0, 1) := by decide +kernel
theorem dX8_room_2 : decode cX8_room 2 = .ok (.putfield 28, 3) := by decide +kernel
theorem dX8_room_5 : decode cX8_room 5 = .ok (.iload_n 1, 1) := by decide +kernel
theorem dX8_room_6 : decode cX8_room 6 = .ok (.invokestatic 151, 3) := by decide +kernel
theorem dX8_room_9 : decode cX8_room 9 = .ok (.ifCond .ne 9, 3) := by decide +kernel
theorem dX8_room_12 : decode cX8_room 12 = .ok (.aload_n 0, 1) := by decide +kernel
theorem dX8_room_13 : decode cX8_room 13 = .ok (.iconst 1, 1) := by decide +kernel
theorem dX8_room_14 : decode cX8_room 14 = .ok (.invokevirtual 39, 3) := by decide +kernel
theorem dX8_room_17 : decode cX8_room 17 = .ok (.ireturn, 1) := by decide +kernel
theorem dX8_room_18 : decode cX8_room 18 = .ok (.iload_n 2, 1) := by decide +kernel
theorem dX8_room_19 : decode cX8_room 19 = .ok (.iconst 0, 1) := by decide +kernel
theorem dX8_room_20 : decode cX8_room 20 = .ok (.iconst 5, 1) := by decide +kernel
theorem dX8_room_21 : decode cX8_room 21 = .ok (.invokestatic 32, 3) := by decide +kernel
theorem dX8_room_24 : decode cX8_room 24 = .ok (.ifCond .eq 12, 3) := by decide +kernel
theorem dX8_room_27 : decode cX8_room 27 = .ok (.aload_n 0, 1) := by decide +kernel
theorem dX8_room_28 : decode cX8_room 28 = .ok (.iload_n 1, 1) := by decide +kernel
theorem dX8_room_29 : decode cX8_room 29 = .ok (.iload_n 2, 1) := by decide +kernel
theorem dX8_room_30 : decode cX8_room 30 = .ok (.invokevirtual 205, 3) := by decide +kernel
theorem dX8_room_33 : decode cX8_room 33 = .ok (.goto 8, 3) := by decide +kernel
theorem dX8_room_36 : decode cX8_room 36 = .ok (.aload_n 0, 1) := by decide +kernel
theorem dX8_room_37 : decode cX8_room 37 = .ok (.iconst 2, 1) := by decide +kernel
theorem dX8_room_38 : decode cX8_room 38 = .ok (.invokevirtual 39, 3) := by decide +kernel
theorem dX8_room_41 : decode cX8_room 41 = .ok (.ireturn, 1) := by decide +kernel
set_option maxRecDepth 20000 in
theorem ggX8_latest_X8_within : GoodIn wsX8_latest wsX8_within := goodIn_r _ [6] (by decide +kernel) (by decide +kernel)
set_option maxRecDepth 20000 in
theorem gX8_latest_X8_within : GoodIn wsX8_latest (va_wsS RX8 32 yX8_within wsX8_within) := goodIn_app (goodIn_of _ (by decide +kernel)) ggX8_latest_X8_within
set_option maxRecDepth 20000 in
theorem ggX8_latest_X8_fails : GoodIn wsX8_latest wsX8_fails := goodIn_r _ [10, 1, 11, 12, 13, 14, 15, 16, 17, 18, 19, 20, 21, 22, 23, 24, 25, 26] (by decide +kernel) (by decide +kernel)
set_option maxRecDepth 20000 in
theorem gX8_latest_X8_fails : GoodIn wsX8_latest (wsV RX8 39 RX8 yX8_fails wsX8_fails) := goodIn_app (goodIn_of _ (by decide +kernel)) ggX8_latest_X8_fails
theorem dX8_latest_0 : decode cX8_latest 0 = .ok (.aload_n 0, 1) := by decide +kernel
theorem dX8_latest_1 : decode cX8_latest 1 = .ok (.iconst 0, 1) := by decide +kernel
theorem dX8_latest_2 : decode cX8_latest 2 = .ok (.putfield 28, 3) := by decide +kernel
theorem dX8_latest_5 : decode cX8_latest 5 = .ok (.iload_n 1, 1) := by decide +kernel
theorem dX8_latest_6 : decode cX8_latest 6 = .ok (.iconst 0, 1) := by decide +kernel
theorem dX8_latest_7 : decode cX8_latest 7 = .ok (.iconst 5, 1) := by decide +kernel
theorem dX8_latest_8 : decode cX8_latest 8 = .ok (.invokestatic 32, 3) := by decide +kernel
theorem dX8_latest_11 : decode cX8_latest 11 = .ok (.ifCond .eq 15, 3) := by decide +kernel
theorem dX8_latest_14 : decode cX8_latest 14 = .ok (.aload_n 0, 1) := by decide +kernel
theorem dX8_latest_15 : decode cX8_latest 15 = .ok (.getfield 7, 3) := by decide +kernel
theorem dX8_latest_18 : decode cX8_latest 18 = .ok (.bipush 6, 2) := by decide +kernel
theorem dX8_latest_20 : decode cX8_latest 20 = .ok (.iload_n 1, 1) := by decide +kernel
theorem dX8_latest_21 : decode cX8_latest 21 = .ok (.iadd, 1) := by decide +kernel
theorem dX8_latest_22 : decode cX8_latest 22 = .ok (.iaload, 1) := by decide +kernel
theorem dX8_latest_23 : decode cX8_latest 23 = .ok (.goto 8, 3) := by decide +kernel
theorem dX8_latest_26 : decode cX8_latest 26 = .ok (.aload_n 0, 1) := by decide +kernel
theorem dX8_latest_27 : decode cX8_latest 27 = .ok (.iconst 1, 1) := by decide +kernel
theorem dX8_latest_28 : decode cX8_latest 28 = .ok (.invokevirtual 39, 3) := by decide +kernel
theorem dX8_latest_31 : decode cX8_latest 31 = .ok (.ireturn, 1) := by decide +kernel
set_option maxRecDepth 20000 in
theorem ggX8_withTunes_X8_ofMessage : GoodIn wsX8_withTunes wsX8_ofMessage := goodIn_r _ [5, 6, 7, 8, 9, 10, 11, 12, 13, 14, 15, 16, 17, 18, 19, 20, 21, 22] (by decide +kernel) (by decide +kernel)
set_option maxRecDepth 20000 in
theorem gX8_withTunes_X8_ofMessage : GoodIn wsX8_withTunes (wsV RX8 74 RX8 yX8_ofMessage wsX8_ofMessage) := goodIn_app (goodIn_of _ (by decide +kernel)) ggX8_withTunes_X8_ofMessage
theorem dX8_withTunes_0 : decode cX8_withTunes 0 = .ok (.iconst 0, 1) := by decide +kernel
theorem dX8_withTunes_1 : decode cX8_withTunes 1 = .ok (.istore_n 1, 1) := by decide +kernel
theorem dX8_withTunes_2 : decode cX8_withTunes 2 = .ok (.iconst 0, 1) := by decide +kernel
theorem dX8_withTunes_3 : decode cX8_withTunes 3 = .ok (.istore_n 2, 1) := by decide +kernel
theorem dX8_withTunes_4 : decode cX8_withTunes 4 = .ok (.iload_n 2, 1) := by decide +kernel
theorem dX8_withTunes_5 : decode cX8_withTunes 5 = .ok (.bipush 20, 2) := by decide +kernel
theorem dX8_withTunes_7 : decode cX8_withTunes 7 = .ok (.if_icmp .ge 26, 3) := by decide +kernel
theorem dX8_withTunes_10 : decode cX8_withTunes 10 = .ok (.iload_n 1, 1) := by decide +kernel
theorem dX8_withTunes_11 : decode cX8_withTunes 11 = .ok (.aload_n 0, 1) := by decide +kernel
theorem dX8_withTunes_12 : decode cX8_withTunes 12 = .ok (.iload_n 2, 1) := by decide +kernel
theorem dX8_withTunes_13 : decode cX8_withTunes 13 = .ok (.iconst 0, 1) := by decide +kernel
theorem dX8_withTunes_14 : decode cX8_withTunes 14 = .ok (.invokevirtual 74, 3) := by decide +kernel
theorem dX8_withTunes_17 : decode cX8_withTunes 17 = .ok (.ifCond .le 7, 3) := by decide +kernel
theorem dX8_withTunes_20 : decode cX8_withTunes 20 = .ok (.iconst 1, 1) := by decide +kernel
theorem dX8_withTunes_21 : decode cX8_withTunes 21 = .ok (.goto 4, 3) := by decide +kernel
theorem dX8_withTunes_24 : decode cX8_withTunes 24 = .ok (.iconst 0, 1) := by decide +kernel
theorem dX8_withTunes_25 : decode cX8_withTunes 25 = .ok (.iadd, 1) := by decide +kernel
theorem dX8_withTunes_26 : decode cX8_withTunes 26 = .ok (.istore_n 1, 1) := by decide +kernel
theorem dX8_withTunes_27 : decode cX8_withTunes 27 = .ok (.iinc 2 1, 3) := by decide +kernel
theorem dX8_withTunes_30 : decode cX8_withTunes 30 = .ok (.goto (-26), 3) := by decide +kernel
theorem dX8_withTunes_33 : decode cX8_withTunes 33 = .ok (.iload_n 1, 1) := by decide +kernel
theorem dX8_withTunes_34 : decode cX8_withTunes 34 = .ok (.ireturn, 1) := by decide +kernel
set_option maxRecDepth 20000 in
theorem ggX8_mostNotes_X8_ofMessage : GoodIn wsX8_mostNotes wsX8_ofMessage := goodIn_r _ [5, 6, 7, 8, 9, 10, 11, 12, 13, 14, 15, 16, 17, 18, 19, 20, 21, 22] (by decide +kernel) (by decide +kernel)
set_option maxRecDepth 20000 in
theorem gX8_mostNotes_X8_ofMessage : GoodIn wsX8_mostNotes (wsV RX8 74 RX8 yX8_ofMessage wsX8_ofMessage) := goodIn_app (goodIn_of _ (by decide +kernel)) ggX8_mostNotes_X8_ofMessage
theorem dX8_mostNotes_0 : decode cX8_mostNotes 0 = .ok (.iconst 0, 1) := by decide +kernel
theorem dX8_mostNotes_1 : decode cX8_mostNotes 1 = .ok (.istore_n 1, 1) := by decide +kernel
theorem dX8_mostNotes_2 : decode cX8_mostNotes 2 = .ok (.iconst 0, 1) := by decide +kernel
theorem dX8_mostNotes_3 : decode cX8_mostNotes 3 = .ok (.istore_n 2, 1) := by decide +kernel
theorem dX8_mostNotes_4 : decode cX8_mostNotes 4 = .ok (.iload_n 2, 1) := by decide +kernel
theorem dX8_mostNotes_5 : decode cX8_mostNotes 5 = .ok (.bipush 20, 2) := by decide +kernel
theorem dX8_mostNotes_7 : decode cX8_mostNotes 7 = .ok (.if_icmp .ge 30, 3) := by decide +kernel
theorem dX8_mostNotes_10 : decode cX8_mostNotes 10 = .ok (.aload_n 0, 1) := by decide +kernel
theorem dX8_mostNotes_11 : decode cX8_mostNotes 11 = .ok (.iload_n 2, 1) := by decide +kernel
theorem dX8_mostNotes_12 : decode cX8_mostNotes 12 = .ok (.iconst 0, 1) := by decide +kernel
theorem dX8_mostNotes_13 : decode cX8_mostNotes 13 = .ok (.invokevirtual 74, 3) := by decide +kernel
theorem dX8_mostNotes_16 : decode cX8_mostNotes 16 = .ok (.iload_n 1, 1) := by decide +kernel
theorem dX8_mostNotes_17 : decode cX8_mostNotes 17 = .ok (.if_icmp .le 12, 3) := by decide +kernel
theorem dX8_mostNotes_20 : decode cX8_mostNotes 20 = .ok (.aload_n 0, 1) := by decide +kernel
theorem dX8_mostNotes_21 : decode cX8_mostNotes 21 = .ok (.iload_n 2, 1) := by decide +kernel
theorem dX8_mostNotes_22 : decode cX8_mostNotes 22 = .ok (.iconst 0, 1) := by decide +kernel
theorem dX8_mostNotes_23 : decode cX8_mostNotes 23 = .ok (.invokevirtual 74, 3) := by decide +kernel
theorem dX8_mostNotes_26 : decode cX8_mostNotes 26 = .ok (.goto 4, 3) := by decide +kernel
theorem dX8_mostNotes_29 : decode cX8_mostNotes 29 = .ok (.iload_n 1, 1) := by decide +kernel
theorem dX8_mostNotes_30 : decode cX8_mostNotes 30 = .ok (.istore_n 1, 1) := by decide +kernel
theorem dX8_mostNotes_31 : decode cX8_mostNotes 31 = .ok (.iinc 2 1, 3) := by decide +kernel
theorem dX8_mostNotes_34 : decode cX8_mostNotes 34 = .ok (.goto (-30), 3) := by decide +kernel
theorem dX8_mostNotes_37 : decode cX8_mostNotes 37 = .ok (.iload_n 1, 1) := by decide +kernel
theorem dX8_mostNotes_38 : decode cX8_mostNotes 38 = .ok (.ireturn, 1) := by decide +kernel
set_option maxRecDepth 20000 in
theorem ggX8_sumOfRooms_X8_tellsRoom : GoodIn wsX8_sumOfRooms wsX8_tellsRoom := goodIn_r _ [5, 6, 7, 8, 4, 9, 10, 11, 12, 13, 14, 15, 16, 17, 18, 19, 20, 21, 22, 23, 24, 25, 26, 27, 28, 29, 30] (by decide +kernel) (by decide +kernel)
set_option maxRecDepth 20000 in
theorem gX8_sumOfRooms_X8_tellsRoom : GoodIn wsX8_sumOfRooms (wsV RX8 205 RX8 yX8_tellsRoom wsX8_tellsRoom) := goodIn_app (goodIn_of _ (by decide +kernel)) ggX8_sumOfRooms_X8_tellsRoom
theorem dX8_sumOfRooms_0 : decode cX8_sumOfRooms 0 = .ok (.iconst 0, 1) := by decide +kernel
theorem dX8_sumOfRooms_1 : decode cX8_sumOfRooms 1 = .ok (.istore_n 2, 1) := by decide +kernel
theorem dX8_sumOfRooms_2 : decode cX8_sumOfRooms 2 = .ok (.iconst 0, 1) := by decide +kernel
theorem dX8_sumOfRooms_3 : decode cX8_sumOfRooms 3 = .ok (.istore_n 3, 1) := by decide +kernel
theorem dX8_sumOfRooms_4 : decode cX8_sumOfRooms 4 = .ok (.iload_n 3, 1) := by decide +kernel
theorem dX8_sumOfRooms_5 : decode cX8_sumOfRooms 5 = .ok (.bipush 6, 2) := by decide +kernel
theorem dX8_sumOfRooms_7 : decode cX8_sumOfRooms 7 = .ok (.if_icmp .ge 18, 3) := by decide +kernel
theorem dX8_sumOfRooms_10 : decode cX8_sumOfRooms 10 = .ok (.iload_n 2, 1) := by decide +kernel
theorem dX8_sumOfRooms_11 : decode cX8_sumOfRooms 11 = .ok (.aload_n 0, 1) := by decide +kernel
theorem dX8_sumOfRooms_12 : decode cX8_sumOfRooms 12 = .ok (.iload_n 3, 1) := by decide +kernel
theorem dX8_sumOfRooms_13 : decode cX8_sumOfRooms 13 = .ok (.iload_n 1, 1) := by decide +kernel
theorem dX8_sumOfRooms_14 : decode cX8_sumOfRooms 14 = .ok (.invokevirtual 205, 3) := by decide +kernel
theorem dX8_sumOfRooms_17 : decode cX8_sumOfRooms 17 = .ok (.iadd, 1) := by decide +kernel
theorem dX8_sumOfRooms_18 : decode cX8_sumOfRooms 18 = .ok (.istore_n 2, 1) := by decide +kernel
theorem dX8_sumOfRooms_19 : decode cX8_sumOfRooms 19 = .ok (.iinc 3 1, 3) := by decide +kernel
theorem dX8_sumOfRooms_22 : decode cX8_sumOfRooms 22 = .ok (.goto (-18), 3) := by decide +kernel
theorem dX8_sumOfRooms_25 : decode cX8_sumOfRooms 25 = .ok (.iload_n 2, 1) := by decide +kernel
theorem dX8_sumOfRooms_26 : decode cX8_sumOfRooms 26 = .ok (.ireturn, 1) := by decide +kernel
set_option maxRecDepth 20000 in
theorem ggX8_withKey_X8_ofRoom : GoodIn wsX8_withKey wsX8_ofRoom := goodIn_r _ [6, 1, 7, 8, 9, 10, 11, 12, 13, 14, 15, 16, 17, 18, 19, 20, 21, 22] (by decide +kernel) (by decide +kernel)
set_option maxRecDepth 20000 in
theorem gX8_withKey_X8_ofRoom : GoodIn wsX8_withKey (wsV RX8 109 RX8 yX8_ofRoom wsX8_ofRoom) := goodIn_app (goodIn_of _ (by decide +kernel)) ggX8_withKey_X8_ofRoom
theorem dX8_withKey_0 : decode cX8_withKey 0 = .ok (.iconst 0, 1) := by decide +kernel
theorem dX8_withKey_1 : decode cX8_withKey 1 = .ok (.istore_n 1, 1) := by decide +kernel
theorem dX8_withKey_2 : decode cX8_withKey 2 = .ok (.iconst 0, 1) := by decide +kernel
theorem dX8_withKey_3 : decode cX8_withKey 3 = .ok (.istore_n 2, 1) := by decide +kernel
theorem dX8_withKey_4 : decode cX8_withKey 4 = .ok (.iload_n 2, 1) := by decide +kernel
theorem dX8_withKey_5 : decode cX8_withKey 5 = .ok (.bipush 6, 2) := by decide +kernel
theorem dX8_withKey_7 : decode cX8_withKey 7 = .ok (.if_icmp .ge 34, 3) := by decide +kernel
theorem dX8_withKey_10 : decode cX8_withKey 10 = .ok (.iload_n 1, 1) := by decide +kernel
theorem dX8_withKey_11 : decode cX8_withKey 11 = .ok (.aload_n 0, 1) := by decide +kernel
theorem dX8_withKey_12 : decode cX8_withKey 12 = .ok (.iload_n 2, 1) := by decide +kernel
theorem dX8_withKey_13 : decode cX8_withKey 13 = .ok (.iconst 0, 1) := by decide +kernel
theorem dX8_withKey_14 : decode cX8_withKey 14 = .ok (.invokevirtual 109, 3) := by decide +kernel
theorem dX8_withKey_17 : decode cX8_withKey 17 = .ok (.aload_n 0, 1) := by decide +kernel
theorem dX8_withKey_18 : decode cX8_withKey 18 = .ok (.getfield 7, 3) := by decide +kernel
theorem dX8_withKey_21 : decode cX8_withKey 21 = .ok (.iconst 1, 1) := by decide +kernel
theorem dX8_withKey_22 : decode cX8_withKey 22 = .ok (.iaload, 1) := by decide +kernel
theorem dX8_withKey_23 : decode cX8_withKey 23 = .ok (.if_icmp .ne 9, 3) := by decide +kernel
theorem dX8_withKey_26 : decode cX8_withKey 26 = .ok (.iconst 1, 1) := by decide +kernel
theorem dX8_withKey_27 : decode cX8_withKey 27 = .ok (.iload_n 2, 1) := by decide +kernel
theorem dX8_withKey_28 : decode cX8_withKey 28 = .ok (.ishl, 1) := by decide +kernel
theorem dX8_withKey_29 : decode cX8_withKey 29 = .ok (.goto 4, 3) := by decide +kernel
theorem dX8_withKey_32 : decode cX8_withKey 32 = .ok (.iconst 0, 1) := by decide +kernel
theorem dX8_withKey_33 : decode cX8_withKey 33 = .ok (.ior, 1) := by decide +kernel
theorem dX8_withKey_34 : decode cX8_withKey 34 = .ok (.istore_n 1, 1) := by decide +kernel
theorem dX8_withKey_35 : decode cX8_withKey 35 = .ok (.iinc 2 1, 3) := by decide +kernel
theorem dX8_withKey_38 : decode cX8_withKey 38 = .ok (.goto (-34), 3) := by decide +kernel
theorem dX8_withKey_41 : decode cX8_withKey 41 = .ok (.iload_n 1, 1) := by decide +kernel
theorem dX8_withKey_42 : decode cX8_withKey 42 = .ok (.ireturn, 1) := by decide +kernel
set_option maxRecDepth 20000 in
theorem ggX8_tellsCount_X8_withTunes : GoodIn wsX8_tellsCount wsX8_withTunes := goodIn_r _ [7, 8, 9, 10, 6, 11, 1, 48, 49, 50, 51, 52, 53, 54, 55, 56, 57, 58, 59, 60, 61, 62, 63] (by decide +kernel) (by decide +kernel)
set_option maxRecDepth 20000 in
theorem gX8_tellsCount_X8_withTunes : GoodIn wsX8_tellsCount (wsV RX8 208 RX8 yX8_withTunes wsX8_withTunes) := goodIn_app (goodIn_of _ (by decide +kernel)) ggX8_tellsCount_X8_withTunes
set_option maxRecDepth 20000 in
theorem ggX8_tellsCount_X8_nodes : GoodIn wsX8_tellsCount wsX8_nodes := goodIn_r _ [15, 8, 9, 10, 6, 11, 1, 16, 17, 18, 19, 20, 21, 22, 23, 48, 49, 50, 51, 52, 53, 54, 55, 56, 57, 58, 59, 60, 61, 62, 63] (by decide +kernel) (by decide +kernel)
set_option maxRecDepth 20000 in
theorem gX8_tellsCount_X8_nodes : GoodIn wsX8_tellsCount (wsV RX8 211 RX8 yX8_nodes wsX8_nodes) := goodIn_app (goodIn_of _ (by decide +kernel)) ggX8_tellsCount_X8_nodes
set_option maxRecDepth 20000 in
theorem ggX8_tellsCount_X8_mostNotes : GoodIn wsX8_tellsCount wsX8_mostNotes := goodIn_r _ [27, 8, 9, 10, 6, 11, 1, 48, 49, 50, 51, 52, 53, 54, 55, 56, 57, 58, 59, 60, 61, 62, 63] (by decide +kernel) (by decide +kernel)
set_option maxRecDepth 20000 in
theorem gX8_tellsCount_X8_mostNotes : GoodIn wsX8_tellsCount (wsV RX8 214 RX8 yX8_mostNotes wsX8_mostNotes) := goodIn_app (goodIn_of _ (by decide +kernel)) ggX8_tellsCount_X8_mostNotes
set_option maxRecDepth 20000 in
theorem ggX8_tellsCount_X8_sumOfRooms : GoodIn wsX8_tellsCount wsX8_sumOfRooms := goodIn_r _ [31, 32, 33, 34, 6, 35, 36, 37, 38, 39, 1, 40, 41, 42, 43, 48, 49, 50, 51, 52, 53, 54, 55, 56, 57, 58, 59, 60, 61, 62, 63] (by decide +kernel) (by decide +kernel)
set_option maxRecDepth 20000 in
theorem gX8_tellsCount_X8_sumOfRooms : GoodIn wsX8_tellsCount (wsV RX8 217 RX8 yX8_sumOfRooms wsX8_sumOfRooms) := goodIn_app (goodIn_of _ (by decide +kernel)) ggX8_tellsCount_X8_sumOfRooms
set_option maxRecDepth 20000 in
theorem ggX8_tellsCount_X8_withKey : GoodIn wsX8_tellsCount wsX8_withKey := goodIn_r _ [47, 1, 36, 37, 38, 6, 39, 48, 49, 50, 51, 52, 53, 54, 55, 56, 57, 58, 59, 60, 61, 62, 63] (by decide +kernel) (by decide +kernel)
set_option maxRecDepth 20000 in
theorem gX8_tellsCount_X8_withKey : GoodIn wsX8_tellsCount (wsV RX8 220 RX8 yX8_withKey wsX8_withKey) := goodIn_app (goodIn_of _ (by decide +kernel)) ggX8_tellsCount_X8_withKey
theorem dX8_tellsCount_0 : decode cX8_tellsCount 0 = .ok (.iload_n 1, 1) := by decide +kernel
theorem dX8_tellsCount_1 : decode cX8_tellsCount 1 = .ok (.tableswitch 138 0 12 #[67, 67, 74, 79, 84, 89, 96, 102, 108, 115, 121, 126, 126], 67) := by decide +kernel
theorem dX8_tellsCount_68 : decode cX8_tellsCount 68 = .ok (.aload_n 0, 1) := by decide +kernel
theorem dX8_tellsCount_69 : decode cX8_tellsCount 69 = .ok (.getfield 7, 3) := by decide +kernel
theorem dX8_tellsCount_72 : decode cX8_tellsCount 72 = .ok (.iload_n 1, 1) := by decide +kernel
theorem dX8_tellsCount_73 : decode cX8_tellsCount 73 = .ok (.iaload, 1) := by decide +kernel
theorem dX8_tellsCount_74 : decode cX8_tellsCount 74 = .ok (.ireturn, 1) := by decide +kernel
theorem dX8_tellsCount_75 : decode cX8_tellsCount 75 = .ok (.aload_n 0, 1) := by decide +kernel
theorem dX8_tellsCount_76 : decode cX8_tellsCount 76 = .ok (.invokevirtual 208, 3) := by decide +kernel
theorem dX8_tellsCount_79 : decode cX8_tellsCount 79 = .ok (.ireturn, 1) := by decide +kernel
theorem dX8_tellsCount_80 : decode cX8_tellsCount 80 = .ok (.aload_n 0, 1) := by decide +kernel
theorem dX8_tellsCount_81 : decode cX8_tellsCount 81 = .ok (.invokevirtual 211, 3) := by decide +kernel
theorem dX8_tellsCount_84 : decode cX8_tellsCount 84 = .ok (.ireturn, 1) := by decide +kernel
theorem dX8_tellsCount_85 : decode cX8_tellsCount 85 = .ok (.aload_n 0, 1) := by decide +kernel
theorem dX8_tellsCount_86 : decode cX8_tellsCount 86 = .ok (.invokevirtual 214, 3) := by decide +kernel
theorem dX8_tellsCount_89 : decode cX8_tellsCount 89 = .ok (.ireturn, 1) := by decide +kernel
theorem dX8_tellsCount_90 : decode cX8_tellsCount 90 = .ok (.aload_n 0, 1) := by decide +kernel
theorem dX8_tellsCount_91 : decode cX8_tellsCount 91 = .ok (.getfield 7, 3) := by decide +kernel
theorem dX8_tellsCount_94 : decode cX8_tellsCount 94 = .ok (.iconst 2, 1) := by decide +kernel
theorem dX8_tellsCount_95 : decode cX8_tellsCount 95 = .ok (.iaload, 1) := by decide +kernel
theorem dX8_tellsCount_96 : decode cX8_tellsCount 96 = .ok (.ireturn, 1) := by decide +kernel
theorem dX8_tellsCount_97 : decode cX8_tellsCount 97 = .ok (.aload_n 0, 1) := by decide +kernel
theorem dX8_tellsCount_98 : decode cX8_tellsCount 98 = .ok (.iconst 2, 1) := by decide +kernel
theorem dX8_tellsCount_99 : decode cX8_tellsCount 99 = .ok (.invokevirtual 217, 3) := by decide +kernel
theorem dX8_tellsCount_102 : decode cX8_tellsCount 102 = .ok (.ireturn, 1) := by decide +kernel
theorem dX8_tellsCount_103 : decode cX8_tellsCount 103 = .ok (.aload_n 0, 1) := by decide +kernel
theorem dX8_tellsCount_104 : decode cX8_tellsCount 104 = .ok (.iconst 3, 1) := by decide +kernel
theorem dX8_tellsCount_105 : decode cX8_tellsCount 105 = .ok (.invokevirtual 217, 3) := by decide +kernel
theorem dX8_tellsCount_108 : decode cX8_tellsCount 108 = .ok (.ireturn, 1) := by decide +kernel
theorem dX8_tellsCount_109 : decode cX8_tellsCount 109 = .ok (.aload_n 0, 1) := by decide +kernel
theorem dX8_tellsCount_110 : decode cX8_tellsCount 110 = .ok (.getfield 7, 3) := by decide +kernel
theorem dX8_tellsCount_113 : decode cX8_tellsCount 113 = .ok (.iconst 5, 1) := by decide +kernel
theorem dX8_tellsCount_114 : decode cX8_tellsCount 114 = .ok (.iaload, 1) := by decide +kernel
theorem dX8_tellsCount_115 : decode cX8_tellsCount 115 = .ok (.ireturn, 1) := by decide +kernel
theorem dX8_tellsCount_116 : decode cX8_tellsCount 116 = .ok (.aload_n 0, 1) := by decide +kernel
theorem dX8_tellsCount_117 : decode cX8_tellsCount 117 = .ok (.iconst 1, 1) := by decide +kernel
theorem dX8_tellsCount_118 : decode cX8_tellsCount 118 = .ok (.invokevirtual 217, 3) := by decide +kernel
theorem dX8_tellsCount_121 : decode cX8_tellsCount 121 = .ok (.ireturn, 1) := by decide +kernel
theorem dX8_tellsCount_122 : decode cX8_tellsCount 122 = .ok (.aload_n 0, 1) := by decide +kernel
theorem dX8_tellsCount_123 : decode cX8_tellsCount 123 = .ok (.invokevirtual 220, 3) := by decide +kernel
theorem dX8_tellsCount_126 : decode cX8_tellsCount 126 = .ok (.ireturn, 1) := by decide +kernel
theorem dX8_tellsCount_127 : decode cX8_tellsCount 127 = .ok (.aload_n 0, 1) := by decide +kernel
theorem dX8_tellsCount_128 : decode cX8_tellsCount 128 = .ok (.getfield 7, 3) := by decide +kernel
theorem dX8_tellsCount_131 : decode cX8_tellsCount 131 = .ok (.iconst 3, 1) := by decide +kernel
theorem dX8_tellsCount_132 : decode cX8_tellsCount 132 = .ok (.iload_n 1, 1) := by decide +kernel
theorem dX8_tellsCount_133 : decode cX8_tellsCount 133 = .ok (.iadd, 1) := by decide +kernel
theorem dX8_tellsCount_134 : decode cX8_tellsCount 134 = .ok (.bipush 11, 2) := by decide +kernel
theorem dX8_tellsCount_136 : decode cX8_tellsCount 136 = .ok (.isub, 1) := by decide +kernel
theorem dX8_tellsCount_137 : decode cX8_tellsCount 137 = .ok (.iaload, 1) := by decide +kernel
theorem dX8_tellsCount_138 : decode cX8_tellsCount 138 = .ok (.ireturn, 1) := by decide +kernel
theorem dX8_tellsCount_139 : decode cX8_tellsCount 139 = .ok (.aload_n 0, 1) := by decide +kernel
theorem dX8_tellsCount_140 : decode cX8_tellsCount 140 = .ok (.getfield 36, 3) := by decide +kernel
theorem dX8_tellsCount_143 : decode cX8_tellsCount 143 = .ok (.ireturn, 1) := by decide +kernel
set_option maxRecDepth 20000 in
theorem ggX8_count_X8_within : GoodIn wsX8_count wsX8_within := goodIn_r _ [5] (by decide +kernel) (by decide +kernel)
set_option maxRecDepth 20000 in
theorem gX8_count_X8_within : GoodIn wsX8_count (va_wsS RX8 32 yX8_within wsX8_within) := goodIn_app (goodIn_of _ (by decide +kernel)) ggX8_count_X8_within
set_option maxRecDepth 20000 in
theorem ggX8_count_X8_tellsCount : GoodIn wsX8_count wsX8_tellsCount := goodIn_r _ [9, 10, 11, 12, 13, 14, 4, 15, 16, 17, 18, 19, 20, 21, 22, 23, 24, 25, 26, 27, 28, 29, 30, 31, 32, 33, 34, 35, 36, 37, 38, 39, 40, 41, 42, 43, 44, 45, 46, 47, 48, 49, 50, 51, 52, 53, 54, 55, 60, 61, 62, 63, 64, 65, 66, 67, 68, 69, 70, 71, 72, 73, 74, 75] (by decide +kernel) (by decide +kernel)
set_option maxRecDepth 20000 in
theorem gX8_count_X8_tellsCount : GoodIn wsX8_count (wsV RX8 223 RX8 yX8_tellsCount wsX8_tellsCount) := goodIn_app (goodIn_of _ (by decide +kernel)) ggX8_count_X8_tellsCount
set_option maxRecDepth 20000 in
theorem ggX8_count_X8_fails : GoodIn wsX8_count wsX8_fails := goodIn_r _ [59, 1, 60, 61, 62, 63, 64, 65, 66, 67, 68, 69, 70, 71, 72, 73, 74, 75] (by decide +kernel) (by decide +kernel)
set_option maxRecDepth 20000 in
theorem gX8_count_X8_fails : GoodIn wsX8_count (wsV RX8 39 RX8 yX8_fails wsX8_fails) := goodIn_app (goodIn_of _ (by decide +kernel)) ggX8_count_X8_fails
theorem dX8_count_0 : decode cX8_count 0 = .ok (.aload_n 0, 1) := by decide +kernel
theorem dX8_count_1 : decode cX8_count 1 = .ok (.iconst 0, 1) := by decide +kernel
theorem dX8_count_2 : decode cX8_count 2 = .ok (.putfield 28, 3) := by decide +kernel
theorem dX8_count_5 : decode cX8_count 5 = .ok (.iload_n 1, 1) := by decide +kernel
theorem dX8_count_6 : decode cX8_count 6 = .ok (.iconst 0, 1) := by decide +kernel
theorem dX8_count_7 : decode cX8_count 7 = .ok (.bipush 13, 2) := by decide +kernel
theorem dX8_count_9 : decode cX8_count 9 = .ok (.invokestatic 32, 3) := by decide +kernel
theorem dX8_count_12 : decode cX8_count 12 = .ok (.ifCond .eq 11, 3) := by decide +kernel
theorem dX8_count_15 : decode cX8_count 15 = .ok (.aload_n 0, 1) := by decide +kernel
theorem dX8_count_16 : decode cX8_count 16 = .ok (.iload_n 1, 1) := by decide +kernel
theorem dX8_count_17 : decode cX8_count 17 = .ok (.invokevirtual 223, 3) := by decide +kernel
theorem dX8_count_20 : decode cX8_count 20 = .ok (.goto 8, 3) := by decide +kernel
theorem dX8_count_23 : decode cX8_count 23 = .ok (.aload_n 0, 1) := by decide +kernel
theorem dX8_count_24 : decode cX8_count 24 = .ok (.iconst 1, 1) := by decide +kernel
theorem dX8_count_25 : decode cX8_count 25 = .ok (.invokevirtual 39, 3) := by decide +kernel
theorem dX8_count_28 : decode cX8_count 28 = .ok (.ireturn, 1) := by decide +kernel
set_option maxRecDepth 20000 in
theorem ggX8_decode_X8_isTuneText : GoodIn wsX8_decode wsX8_isTuneText := goodIn_r _ [6, 7, 8, 9, 10, 11, 5, 12, 13, 14, 15, 16, 17, 18, 19, 20, 21, 22, 23, 24, 25, 26, 27, 28, 29, 30, 31, 32, 33, 34, 67, 68, 69, 70, 71, 72, 73, 74, 75, 76, 77, 78, 79, 80, 81, 82] (by decide +kernel) (by decide +kernel)
set_option maxRecDepth 20000 in
theorem gX8_decode_X8_isTuneText : GoodIn wsX8_decode (wsV RX8 136 RX8 yX8_isTuneText wsX8_isTuneText) := goodIn_app (goodIn_of _ (by decide +kernel)) ggX8_decode_X8_isTuneText
set_option maxRecDepth 20000 in
theorem ggX8_decode_X8_isKey : GoodIn wsX8_decode wsX8_isKey := goodIn_r _ [37, 28, 29, 5, 30] (by decide +kernel) (by decide +kernel)
set_option maxRecDepth 20000 in
theorem gX8_decode_X8_isKey : GoodIn wsX8_decode (va_wsS RX8 145 yX8_isKey wsX8_isKey) := goodIn_app (goodIn_of _ (by decide +kernel)) ggX8_decode_X8_isKey
set_option maxRecDepth 20000 in
theorem ggX8_decode_X8_within : GoodIn wsX8_decode wsX8_within := goodIn_r _ [30] (by decide +kernel) (by decide +kernel)
set_option maxRecDepth 20000 in
theorem gX8_decode_X8_within : GoodIn wsX8_decode (va_wsS RX8 32 yX8_within wsX8_within) := goodIn_app (goodIn_of _ (by decide +kernel)) ggX8_decode_X8_within
set_option maxRecDepth 20000 in
theorem ggX8_decode_X8_fails : GoodIn wsX8_decode wsX8_fails := goodIn_r _ [41, 1, 67, 68, 69, 70, 71, 72, 73, 74, 75, 76, 77, 78, 79, 80, 81, 82] (by decide +kernel) (by decide +kernel)
set_option maxRecDepth 20000 in
theorem gX8_decode_X8_fails : GoodIn wsX8_decode (wsV RX8 39 RX8 yX8_fails wsX8_fails) := goodIn_app (goodIn_of _ (by decide +kernel)) ggX8_decode_X8_fails
set_option maxRecDepth 20000 in
theorem ggX8_decode_X8_decoded : GoodIn wsX8_decode wsX8_decoded := goodIn_r _ [45, 27, 46, 47, 48, 5, 49, 13, 28, 29, 30, 50, 51, 52, 53, 54, 55, 56, 57, 58, 59, 60, 61, 62, 63, 64, 65, 66, 67, 68, 69, 70, 71, 72, 73, 74, 75, 76, 77, 78, 79, 80, 81, 82] (by decide +kernel) (by decide +kernel)
set_option maxRecDepth 20000 in
theorem gX8_decode_X8_decoded : GoodIn wsX8_decode (wsV RX8 226 RX8 yX8_decoded wsX8_decoded) := goodIn_app (goodIn_of _ (by decide +kernel)) ggX8_decode_X8_decoded
theorem dX8_decode_0 : decode cX8_decode 0 = .ok (.aload_n 0, 1) := by decide +kernel
theorem dX8_decode_1 : decode cX8_decode 1 = .ok (.iconst 0, 1) := by decide +kernel
theorem dX8_decode_2 : decode cX8_decode 2 = .ok (.putfield 28, 3) := by decide +kernel
theorem dX8_decode_5 : decode cX8_decode 5 = .ok (.aload_n 0, 1) := by decide +kernel
theorem dX8_decode_6 : decode cX8_decode 6 = .ok (.invokevirtual 136, 3) := by decide +kernel
theorem dX8_decode_9 : decode cX8_decode 9 = .ok (.ifCond .eq 19, 3) := by decide +kernel
theorem dX8_decode_12 : decode cX8_decode 12 = .ok (.iload_n 1, 1) := by decide +kernel
theorem dX8_decode_13 : decode cX8_decode 13 = .ok (.invokestatic 145, 3) := by decide +kernel
theorem dX8_decode_16 : decode cX8_decode 16 = .ok (.ifCond .eq 12, 3) := by decide +kernel
theorem dX8_decode_19 : decode cX8_decode 19 = .ok (.iload_n 2, 1) := by decide +kernel
theorem dX8_decode_20 : decode cX8_decode 20 = .ok (.iconst 0, 1) := by decide +kernel
theorem dX8_decode_21 : decode cX8_decode 21 = .ok (.iconst 1, 1) := by decide +kernel
theorem dX8_decode_22 : decode cX8_decode 22 = .ok (.invokestatic 32, 3) := by decide +kernel
theorem dX8_decode_25 : decode cX8_decode 25 = .ok (.ifCond .ne 9, 3) := by decide +kernel
theorem dX8_decode_28 : decode cX8_decode 28 = .ok (.aload_n 0, 1) := by decide +kernel
theorem dX8_decode_29 : decode cX8_decode 29 = .ok (.iconst 1, 1) := by decide +kernel
theorem dX8_decode_30 : decode cX8_decode 30 = .ok (.invokevirtual 39, 3) := by decide +kernel
theorem dX8_decode_33 : decode cX8_decode 33 = .ok (.ireturn, 1) := by decide +kernel
theorem dX8_decode_34 : decode cX8_decode 34 = .ok (.aload_n 0, 1) := by decide +kernel
theorem dX8_decode_35 : decode cX8_decode 35 = .ok (.iload_n 1, 1) := by decide +kernel
theorem dX8_decode_36 : decode cX8_decode 36 = .ok (.invokevirtual 226, 3) := by decide +kernel
theorem dX8_decode_39 : decode cX8_decode 39 = .ok (.ireturn, 1) := by decide +kernel
set_option maxRecDepth 20000 in
theorem ggX8_findKey_X8_decoded : GoodIn wsX8_findKey wsX8_decoded := goodIn_r _ [5, 6, 7, 8, 9, 4, 10, 11, 12, 13, 14, 15, 16, 17, 18, 19, 20, 21, 22, 23, 24, 25, 26, 27, 28, 29, 30, 31, 32, 33, 34, 35, 36, 37, 38, 39, 40, 41, 42, 43, 44, 45, 46, 47] (by decide +kernel) (by decide +kernel)
set_option maxRecDepth 20000 in
theorem gX8_findKey_X8_decoded : GoodIn wsX8_findKey (wsV RX8 226 RX8 yX8_decoded wsX8_decoded) := goodIn_app (goodIn_of _ (by decide +kernel)) ggX8_findKey_X8_decoded
theorem dX8_findKey_0 : decode cX8_findKey 0 = .ok (.iconst 0, 1) := by decide +kernel
theorem dX8_findKey_1 : decode cX8_findKey 1 = .ok (.istore_n 1, 1) := by decide +kernel
