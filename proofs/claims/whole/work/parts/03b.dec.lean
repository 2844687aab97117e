theorem dX7_search_35 : decode cX7_search 35 = .ok (.invokevirtual 39, 3) := by decide +kernel
theorem dX7_search_38 : decode cX7_search 38 = .ok (.invokestatic 45, 3) := by decide +kernel
theorem dX7_search_41 : decode cX7_search 41 = .ok (.putfield 21, 3) := by decide +kernel
theorem dX7_search_44 : decode cX7_search 44 = .ok (.aload_n 0, 1) := by decide +kernel
theorem dX7_search_45 : decode cX7_search 45 = .ok (.getfield 26, 3) := by decide +kernel
theorem dX7_search_48 : decode cX7_search 48 = .ok (.ireturn, 1) := by decide +kernel
theorem dX7_give_0 : decode cX7_give 0 = .ok (.iload_n 3, 1) := by decide +kernel
theorem dX7_give_1 : decode cX7_give 1 = .ok (.bipush 6, 2) := by decide +kernel
theorem dX7_give_3 : decode cX7_give 3 = .ok (.aload_n 1, 1) := by decide +kernel
theorem dX7_give_4 : decode cX7_give 4 = .ok (.iconst 3, 1) := by decide +kernel
theorem dX7_give_5 : decode cX7_give 5 = .ok (.invokevirtual 39, 3) := by decide +kernel
theorem dX7_give_8 : decode cX7_give 8 = .ok (.invokestatic 45, 3) := by decide +kernel
theorem dX7_give_11 : decode cX7_give 11 = .ok (.if_icmp .lt 9, 3) := by decide +kernel
theorem dX7_give_14 : decode cX7_give 14 = .ok (.aload_n 0, 1) := by decide +kernel
theorem dX7_give_15 : decode cX7_give 15 = .ok (.aload_n 2, 1) := by decide +kernel
theorem dX7_give_16 : decode cX7_give 16 = .ok (.invokevirtual 51, 3) := by decide +kernel
theorem dX7_give_19 : decode cX7_give 19 = .ok (.return_, 1) := by decide +kernel
theorem dX7_give_20 : decode cX7_give 20 = .ok (.iconst 0, 1) := by decide +kernel
theorem dX7_give_21 : decode cX7_give 21 = .ok (.istore 4, 2) := by decide +kernel
theorem dX7_give_23 : decode cX7_give 23 = .ok (.iload 4, 2) := by decide +kernel
theorem dX7_give_25 : decode cX7_give 25 = .ok (.iconst 3, 1) := by decide +kernel
theorem dX7_give_26 : decode cX7_give 26 = .ok (.aload_n 1, 1) := by decide +kernel
theorem dX7_give_27 : decode cX7_give 27 = .ok (.iconst 4, 1) := by decide +kernel
theorem dX7_give_28 : decode cX7_give 28 = .ok (.invokevirtual 39, 3) := by decide +kernel
theorem dX7_give_31 : decode cX7_give 31 = .ok (.invokestatic 45, 3) := by decide +kernel
theorem dX7_give_34 : decode cX7_give 34 = .ok (.if_icmp .ge 75, 3) := by decide +kernel
theorem dX7_give_37 : decode cX7_give 37 = .ok (.aload_n 0, 1) := by decide +kernel
theorem dX7_give_38 : decode cX7_give 38 = .ok (.getfield 9, 3) := by decide +kernel
theorem dX7_give_41 : decode cX7_give 41 = .ok (.iload 4, 2) := by decide +kernel
theorem dX7_give_43 : decode cX7_give 43 = .ok (.iaload, 1) := by decide +kernel
theorem dX7_give_44 : decode cX7_give 44 = .ok (.invokestatic 55, 3) := by decide +kernel
theorem dX7_give_47 : decode cX7_give 47 = .ok (.aload_n 1, 1) := by decide +kernel
theorem dX7_give_48 : decode cX7_give 48 = .ok (.iconst 4, 1) := by decide +kernel
theorem dX7_give_49 : decode cX7_give 49 = .ok (.iload 4, 2) := by decide +kernel
theorem dX7_give_51 : decode cX7_give 51 = .ok (.iconst 2, 1) := by decide +kernel
theorem dX7_give_52 : decode cX7_give 52 = .ok (.invokevirtual 60, 3) := by decide +kernel
theorem dX7_give_55 : decode cX7_give 55 = .ok (.if_icmp .ge 48, 3) := by decide +kernel
theorem dX7_give_58 : decode cX7_give 58 = .ok (.aload_n 0, 1) := by decide +kernel
theorem dX7_give_59 : decode cX7_give 59 = .ok (.getfield 9, 3) := by decide +kernel
theorem dX7_give_62 : decode cX7_give 62 = .ok (.iload 4, 2) := by decide +kernel
theorem dX7_give_64 : decode cX7_give 64 = .ok (.dup2, 1) := by decide +kernel
theorem dX7_give_65 : decode cX7_give 65 = .ok (.iaload, 1) := by decide +kernel
theorem dX7_give_66 : decode cX7_give 66 = .ok (.iconst 1, 1) := by decide +kernel
theorem dX7_give_67 : decode cX7_give 67 = .ok (.iload_n 3, 1) := by decide +kernel
theorem dX7_give_68 : decode cX7_give 68 = .ok (.ishl, 1) := by decide +kernel
theorem dX7_give_69 : decode cX7_give 69 = .ok (.ior, 1) := by decide +kernel
theorem dX7_give_70 : decode cX7_give 70 = .ok (.iastore, 1) := by decide +kernel
theorem dX7_give_71 : decode cX7_give 71 = .ok (.aload_n 0, 1) := by decide +kernel
theorem dX7_give_72 : decode cX7_give 72 = .ok (.getfield 15, 3) := by decide +kernel
theorem dX7_give_75 : decode cX7_give 75 = .ok (.iload_n 3, 1) := by decide +kernel
theorem dX7_give_76 : decode cX7_give 76 = .ok (.iload 4, 2) := by decide +kernel
theorem dX7_give_78 : decode cX7_give 78 = .ok (.iastore, 1) := by decide +kernel
theorem dX7_give_79 : decode cX7_give 79 = .ok (.aload_n 0, 1) := by decide +kernel
theorem dX7_give_80 : decode cX7_give 80 = .ok (.aload_n 1, 1) := by decide +kernel
theorem dX7_give_81 : decode cX7_give 81 = .ok (.aload_n 2, 1) := by decide +kernel
theorem dX7_give_82 : decode cX7_give 82 = .ok (.iload_n 3, 1) := by decide +kernel
theorem dX7_give_83 : decode cX7_give 83 = .ok (.iconst 1, 1) := by decide +kernel
theorem dX7_give_84 : decode cX7_give 84 = .ok (.iadd, 1) := by decide +kernel
theorem dX7_give_85 : decode cX7_give 85 = .ok (.invokestatic 35, 3) := by decide +kernel
theorem dX7_give_88 : decode cX7_give 88 = .ok (.aload_n 0, 1) := by decide +kernel
theorem dX7_give_89 : decode cX7_give 89 = .ok (.getfield 9, 3) := by decide +kernel
theorem dX7_give_92 : decode cX7_give 92 = .ok (.iload 4, 2) := by decide +kernel
theorem dX7_give_94 : decode cX7_give 94 = .ok (.dup2, 1) := by decide +kernel
theorem dX7_give_95 : decode cX7_give 95 = .ok (.iaload, 1) := by decide +kernel
theorem dX7_give_96 : decode cX7_give 96 = .ok (.iconst 1, 1) := by decide +kernel
theorem dX7_give_97 : decode cX7_give 97 = .ok (.iload_n 3, 1) := by decide +kernel
theorem dX7_give_98 : decode cX7_give 98 = .ok (.ishl, 1) := by decide +kernel
theorem dX7_give_99 : decode cX7_give 99 = .ok (.iconst (-1), 1) := by decide +kernel
theorem dX7_give_100 : decode cX7_give 100 = .ok (.ixor, 1) := by decide +kernel
theorem dX7_give_101 : decode cX7_give 101 = .ok (.iand, 1) := by decide +kernel
theorem dX7_give_102 : decode cX7_give 102 = .ok (.iastore, 1) := by decide +kernel
theorem dX7_give_103 : decode cX7_give 103 = .ok (.iinc 4 1, 3) := by decide +kernel
theorem dX7_give_106 : decode cX7_give 106 = .ok (.goto (-83), 3) := by decide +kernel
theorem dX7_give_109 : decode cX7_give 109 = .ok (.return_, 1) := by decide +kernel
theorem dX7_note_0 : decode cX7_note 0 = .ok (.iconst 0, 1) := by decide +kernel
theorem dX7_note_1 : decode cX7_note 1 = .ok (.istore_n 2, 1) := by decide +kernel
theorem dX7_note_2 : decode cX7_note 2 = .ok (.iconst 0, 1) := by decide +kernel
theorem dX7_note_3 : decode cX7_note 3 = .ok (.istore_n 3, 1) := by decide +kernel
theorem dX7_note_4 : decode cX7_note 4 = .ok (.iload_n 3, 1) := by decide +kernel
theorem dX7_note_5 : decode cX7_note 5 = .ok (.iconst 3, 1) := by decide +kernel
theorem dX7_note_6 : decode cX7_note 6 = .ok (.if_icmp .ge 36, 3) := by decide +kernel
theorem dX7_note_9 : decode cX7_note 9 = .ok (.iload_n 2, 1) := by decide +kernel
theorem dX7_note_10 : decode cX7_note 10 = .ok (.aload_n 0, 1) := by decide +kernel
theorem dX7_note_11 : decode cX7_note 11 = .ok (.getfield 9, 3) := by decide +kernel
theorem dX7_note_14 : decode cX7_note 14 = .ok (.iload_n 3, 1) := by decide +kernel
theorem dX7_note_15 : decode cX7_note 15 = .ok (.iaload, 1) := by decide +kernel
theorem dX7_note_16 : decode cX7_note 16 = .ok (.ifCond .ne 7, 3) := by decide +kernel
theorem dX7_note_19 : decode cX7_note 19 = .ok (.iconst 0, 1) := by decide +kernel
theorem dX7_note_20 : decode cX7_note 20 = .ok (.goto 14, 3) := by decide +kernel
theorem dX7_note_23 : decode cX7_note 23 = .ok (.aload_n 1, 1) := by decide +kernel
theorem dX7_note_24 : decode cX7_note 24 = .ok (.iload_n 3, 1) := by decide +kernel
theorem dX7_note_25 : decode cX7_note 25 = .ok (.aload_n 0, 1) := by decide +kernel
theorem dX7_note_26 : decode cX7_note 26 = .ok (.getfield 9, 3) := by decide +kernel
theorem dX7_note_29 : decode cX7_note 29 = .ok (.iload_n 3, 1) := by decide +kernel
theorem dX7_note_30 : decode cX7_note 30 = .ok (.iaload, 1) := by decide +kernel
theorem dX7_note_31 : decode cX7_note 31 = .ok (.invokevirtual 64, 3) := by decide +kernel
theorem dX7_note_34 : decode cX7_note 34 = .ok (.iadd, 1) := by decide +kernel
theorem dX7_note_35 : decode cX7_note 35 = .ok (.istore_n 2, 1) := by decide +kernel
theorem dX7_note_36 : decode cX7_note 36 = .ok (.iinc 3 1, 3) := by decide +kernel
theorem dX7_note_39 : decode cX7_note 39 = .ok (.goto (-35), 3) := by decide +kernel
theorem dX7_note_42 : decode cX7_note 42 = .ok (.iload_n 2, 1) := by decide +kernel
theorem dX7_note_43 : decode cX7_note 43 = .ok (.aload_n 0, 1) := by decide +kernel
theorem dX7_note_44 : decode cX7_note 44 = .ok (.getfield 26, 3) := by decide +kernel
theorem dX7_note_47 : decode cX7_note 47 = .ok (.if_icmp .ge 23, 3) := by decide +kernel
theorem dX7_note_50 : decode cX7_note 50 = .ok (.aload_n 0, 1) := by decide +kernel
theorem dX7_note_51 : decode cX7_note 51 = .ok (.iload_n 2, 1) := by decide +kernel
theorem dX7_note_52 : decode cX7_note 52 = .ok (.putfield 26, 3) := by decide +kernel
theorem dX7_note_55 : decode cX7_note 55 = .ok (.aload_n 0, 1) := by decide +kernel
theorem dX7_note_56 : decode cX7_note 56 = .ok (.getfield 15, 3) := by decide +kernel
theorem dX7_note_59 : decode cX7_note 59 = .ok (.iconst 0, 1) := by decide +kernel
theorem dX7_note_60 : decode cX7_note 60 = .ok (.aload_n 0, 1) := by decide +kernel
theorem dX7_note_61 : decode cX7_note 61 = .ok (.getfield 18, 3) := by decide +kernel
theorem dX7_note_64 : decode cX7_note 64 = .ok (.iconst 0, 1) := by decide +kernel
theorem dX7_note_65 : decode cX7_note 65 = .ok (.bipush 6, 2) := by decide +kernel
theorem dX7_note_67 : decode cX7_note 67 = .ok (.invokestatic 69, 3) := by decide +kernel
theorem dX7_note_70 : decode cX7_note 70 = .ok (.return_, 1) := by decide +kernel
theorem dX8_init_0 : decode cX8_init 0 = .ok (.aload_n 0, 1) := by decide +kernel
theorem dX8_init_1 : decode cX8_init 1 = .ok (.invokespecial 3, 3) := by decide +kernel
theorem dX8_init_4 : decode cX8_init 4 = .ok (.aload_n 0, 1) := by decide +kernel
theorem dX8_init_5 : decode cX8_init 5 = .ok (.bipush 6, 2) := by decide +kernel
theorem dX8_init_7 : decode cX8_init 7 = .ok (.bipush 10, 2) := by decide +kernel
theorem dX8_init_9 : decode cX8_init 9 = .ok (.multianewarray 9 2, 4) := by decide +kernel
theorem dX8_init_13 : decode cX8_init 13 = .ok (.putfield 11, 3) := by decide +kernel
theorem dX8_init_16 : decode cX8_init 16 = .ok (.aload_n 0, 1) := by decide +kernel
theorem dX8_init_17 : decode cX8_init 17 = .ok (.bipush 6, 2) := by decide +kernel
theorem dX8_init_19 : decode cX8_init 19 = .ok (.newarray .int, 2) := by decide +kernel
theorem dX8_init_21 : decode cX8_init 21 = .ok (.putfield 16, 3) := by decide +kernel
theorem dX8_init_24 : decode cX8_init 24 = .ok (.return_, 1) := by decide +kernel
theorem dX8_clear_0 : decode cX8_clear 0 = .ok (.aload_n 0, 1) := by decide +kernel
theorem dX8_clear_1 : decode cX8_clear 1 = .ok (.getfield 16, 3) := by decide +kernel
theorem dX8_clear_4 : decode cX8_clear 4 = .ok (.iconst 0, 1) := by decide +kernel
theorem dX8_clear_5 : decode cX8_clear 5 = .ok (.invokestatic 20, 3) := by decide +kernel
theorem dX8_clear_8 : decode cX8_clear 8 = .ok (.return_, 1) := by decide +kernel
theorem dX8_count_0 : decode cX8_count 0 = .ok (.iload_n 1, 1) := by decide +kernel
theorem dX8_count_1 : decode cX8_count 1 = .ok (.ifCond .lt 18, 3) := by decide +kernel
theorem dX8_count_4 : decode cX8_count 4 = .ok (.iload_n 1, 1) := by decide +kernel
theorem dX8_count_5 : decode cX8_count 5 = .ok (.bipush 6, 2) := by decide +kernel
theorem dX8_count_7 : decode cX8_count 7 = .ok (.if_icmp .ge 12, 3) := by decide +kernel
theorem dX8_count_10 : decode cX8_count 10 = .ok (.aload_n 0, 1) := by decide +kernel
theorem dX8_count_11 : decode cX8_count 11 = .ok (.getfield 16, 3) := by decide +kernel
theorem dX8_count_14 : decode cX8_count 14 = .ok (.iload_n 1, 1) := by decide +kernel
theorem dX8_count_15 : decode cX8_count 15 = .ok (.iaload, 1) := by decide +kernel
theorem dX8_count_16 : decode cX8_count 16 = .ok (.goto 4, 3) := by decide +kernel
theorem dX8_count_19 : decode cX8_count 19 = .ok (.iconst 0, 1) := by decide +kernel
theorem dX8_count_20 : decode cX8_count 20 = .ok (.ireturn, 1) := by decide +kernel
theorem dX8_append_0 : decode cX8_append 0 = .ok (.aload_n 0, 1) := by decide +kernel
theorem dX8_append_1 : decode cX8_append 1 = .ok (.iload_n 1, 1) := by decide +kernel
theorem dX8_append_2 : decode cX8_append 2 = .ok (.invokevirtual 26, 3) := by decide +kernel
theorem dX8_append_5 : decode cX8_append 5 = .ok (.istore_n 3, 1) := by decide +kernel
theorem dX8_append_6 : decode cX8_append 6 = .ok (.iload_n 1, 1) := by decide +kernel
theorem dX8_append_7 : decode cX8_append 7 = .ok (.iconst 0, 1) := by decide +kernel
theorem dX8_append_8 : decode cX8_append 8 = .ok (.iconst 5, 1) := by decide +kernel
theorem dX8_append_9 : decode cX8_append 9 = .ok (.invokestatic 30, 3) := by decide +kernel
theorem dX8_append_12 : decode cX8_append 12 = .ok (.ifCond .eq 28, 3) := by decide +kernel
theorem dX8_append_15 : decode cX8_append 15 = .ok (.iload_n 3, 1) := by decide +kernel
theorem dX8_append_16 : decode cX8_append 16 = .ok (.bipush 10, 2) := by decide +kernel
theorem dX8_append_18 : decode cX8_append 18 = .ok (.if_icmp .ge 22, 3) := by decide +kernel
theorem dX8_append_21 : decode cX8_append 21 = .ok (.aload_n 0, 1) := by decide +kernel
theorem dX8_append_22 : decode cX8_append 22 = .ok (.getfield 11, 3) := by decide +kernel
theorem dX8_append_25 : decode cX8_append 25 = .ok (.iload_n 1, 1) := by decide +kernel
theorem dX8_append_26 : decode cX8_append 26 = .ok (.aaload, 1) := by decide +kernel
theorem dX8_append_27 : decode cX8_append 27 = .ok (.iload_n 3, 1) := by decide +kernel
theorem dX8_append_28 : decode cX8_append 28 = .ok (.iload_n 2, 1) := by decide +kernel
theorem dX8_append_29 : decode cX8_append 29 = .ok (.iastore, 1) := by decide +kernel
theorem dX8_append_30 : decode cX8_append 30 = .ok (.aload_n 0, 1) := by decide +kernel
theorem dX8_append_31 : decode cX8_append 31 = .ok (.getfield 16, 3) := by decide +kernel
theorem dX8_append_34 : decode cX8_append 34 = .ok (.iload_n 1, 1) := by decide +kernel
theorem dX8_append_35 : decode cX8_append 35 = .ok (.dup2, 1) := by decide +kernel
theorem dX8_append_36 : decode cX8_append 36 = .ok (.iaload, 1) := by decide +kernel
theorem dX8_append_37 : decode cX8_append 37 = .ok (.iconst 1, 1) := by decide +kernel
theorem dX8_append_38 : decode cX8_append 38 = .ok (.iadd, 1) := by decide +kernel
theorem dX8_append_39 : decode cX8_append 39 = .ok (.iastore, 1) := by decide +kernel
theorem dX8_append_40 : decode cX8_append 40 = .ok (.aload_n 0, 1) := by decide +kernel
theorem dX8_append_41 : decode cX8_append 41 = .ok (.iload_n 1, 1) := by decide +kernel
theorem dX8_append_42 : decode cX8_append 42 = .ok (.invokevirtual 26, 3) := by decide +kernel
theorem dX8_append_45 : decode cX8_append 45 = .ok (.ireturn, 1) := by decide +kernel
theorem dX8_choicesNoLess_0 : decode cX8_choicesNoLess 0 = .ok (.aload_n 0, 1) := by decide +kernel
theorem dX8_choicesNoLess_1 : decode cX8_choicesNoLess 1 = .ok (.iload_n 1, 1) := by decide +kernel
theorem dX8_choicesNoLess_2 : decode cX8_choicesNoLess 2 = .ok (.invokevirtual 26, 3) := by decide +kernel
theorem dX8_choicesNoLess_5 : decode cX8_choicesNoLess 5 = .ok (.istore_n 2, 1) := by decide +kernel
theorem dX8_choicesNoLess_6 : decode cX8_choicesNoLess 6 = .ok (.iload_n 2, 1) := by decide +kernel
theorem dX8_choicesNoLess_7 : decode cX8_choicesNoLess 7 = .ok (.iconst 3, 1) := by decide +kernel
theorem dX8_choicesNoLess_8 : decode cX8_choicesNoLess 8 = .ok (.if_icmp .ge 5, 3) := by decide +kernel
theorem dX8_choicesNoLess_11 : decode cX8_choicesNoLess 11 = .ok (.iconst 0, 1) := by decide +kernel
theorem dX8_choicesNoLess_12 : decode cX8_choicesNoLess 12 = .ok (.ireturn, 1) := by decide +kernel
theorem dX8_choicesNoLess_13 : decode cX8_choicesNoLess 13 = .ok (.aload_n 0, 1) := by decide +kernel
theorem dX8_choicesNoLess_14 : decode cX8_choicesNoLess 14 = .ok (.getfield 11, 3) := by decide +kernel
theorem dX8_choicesNoLess_17 : decode cX8_choicesNoLess 17 = .ok (.iload_n 1, 1) := by decide +kernel
theorem dX8_choicesNoLess_18 : decode cX8_choicesNoLess 18 = .ok (.aaload, 1) := by decide +kernel
theorem dX8_choicesNoLess_19 : decode cX8_choicesNoLess 19 = .ok (.astore_n 3, 1) := by decide +kernel
theorem dX8_choicesNoLess_20 : decode cX8_choicesNoLess 20 = .ok (.aload_n 3, 1) := by decide +kernel
theorem dX8_choicesNoLess_21 : decode cX8_choicesNoLess 21 = .ok (.iload_n 2, 1) := by decide +kernel
theorem dX8_choicesNoLess_22 : decode cX8_choicesNoLess 22 = .ok (.iconst 1, 1) := by decide +kernel
theorem dX8_choicesNoLess_23 : decode cX8_choicesNoLess 23 = .ok (.isub, 1) := by decide +kernel
theorem dX8_choicesNoLess_24 : decode cX8_choicesNoLess 24 = .ok (.iaload, 1) := by decide +kernel
theorem dX8_choicesNoLess_25 : decode cX8_choicesNoLess 25 = .ok (.aload_n 3, 1) := by decide +kernel
theorem dX8_choicesNoLess_26 : decode cX8_choicesNoLess 26 = .ok (.iload_n 2, 1) := by decide +kernel
theorem dX8_choicesNoLess_27 : decode cX8_choicesNoLess 27 = .ok (.iconst 2, 1) := by decide +kernel
theorem dX8_choicesNoLess_28 : decode cX8_choicesNoLess 28 = .ok (.isub, 1) := by decide +kernel
theorem dX8_choicesNoLess_29 : decode cX8_choicesNoLess 29 = .ok (.iaload, 1) := by decide +kernel
theorem dX8_choicesNoLess_30 : decode cX8_choicesNoLess 30 = .ok (.iadd, 1) := by decide +kernel
theorem dX8_choicesNoLess_31 : decode cX8_choicesNoLess 31 = .ok (.aload_n 3, 1) := by decide +kernel
theorem dX8_choicesNoLess_32 : decode cX8_choicesNoLess 32 = .ok (.iload_n 2, 1) := by decide +kernel
theorem dX8_choicesNoLess_33 : decode cX8_choicesNoLess 33 = .ok (.iconst 3, 1) := by decide +kernel
theorem dX8_choicesNoLess_34 : decode cX8_choicesNoLess 34 = .ok (.isub, 1) := by decide +kernel
theorem dX8_choicesNoLess_35 : decode cX8_choicesNoLess 35 = .ok (.iaload, 1) := by decide +kernel
theorem dX8_choicesNoLess_36 : decode cX8_choicesNoLess 36 = .ok (.iadd, 1) := by decide +kernel
theorem dX8_choicesNoLess_37 : decode cX8_choicesNoLess 37 = .ok (.istore 4, 2) := by decide +kernel
theorem dX8_choicesNoLess_39 : decode cX8_choicesNoLess 39 = .ok (.iconst 0, 1) := by decide +kernel
theorem dX8_choicesNoLess_40 : decode cX8_choicesNoLess 40 = .ok (.istore 5, 2) := by decide +kernel
theorem dX8_choicesNoLess_42 : decode cX8_choicesNoLess 42 = .ok (.iconst 0, 1) := by decide +kernel
theorem dX8_choicesNoLess_43 : decode cX8_choicesNoLess 43 = .ok (.istore 6, 2) := by decide +kernel
theorem dX8_choicesNoLess_45 : decode cX8_choicesNoLess 45 = .ok (.iload 6, 2) := by decide +kernel
theorem dX8_choicesNoLess_47 : decode cX8_choicesNoLess 47 = .ok (.iload_n 2, 1) := by decide +kernel
theorem dX8_choicesNoLess_48 : decode cX8_choicesNoLess 48 = .ok (.if_icmp .ge 74, 3) := by decide +kernel
theorem dX8_choicesNoLess_51 : decode cX8_choicesNoLess 51 = .ok (.iload 6, 2) := by decide +kernel
theorem dX8_choicesNoLess_53 : decode cX8_choicesNoLess 53 = .ok (.iconst 1, 1) := by decide +kernel
theorem dX8_choicesNoLess_54 : decode cX8_choicesNoLess 54 = .ok (.iadd, 1) := by decide +kernel
theorem dX8_choicesNoLess_55 : decode cX8_choicesNoLess 55 = .ok (.istore 7, 2) := by decide +kernel
theorem dX8_choicesNoLess_57 : decode cX8_choicesNoLess 57 = .ok (.iload 7, 2) := by decide +kernel
theorem dX8_choicesNoLess_59 : decode cX8_choicesNoLess 59 = .ok (.iload_n 2, 1) := by decide +kernel
theorem dX8_choicesNoLess_60 : decode cX8_choicesNoLess 60 = .ok (.if_icmp .ge 56, 3) := by decide +kernel
theorem dX8_choicesNoLess_63 : decode cX8_choicesNoLess 63 = .ok (.iload 7, 2) := by decide +kernel
theorem dX8_choicesNoLess_65 : decode cX8_choicesNoLess 65 = .ok (.iconst 1, 1) := by decide +kernel
theorem dX8_choicesNoLess_66 : decode cX8_choicesNoLess 66 = .ok (.iadd, 1) := by decide +kernel
theorem dX8_choicesNoLess_67 : decode cX8_choicesNoLess 67 = .ok (.istore 8, 2) := by decide +kernel
theorem dX8_choicesNoLess_69 : decode cX8_choicesNoLess 69 = .ok (.iload 8, 2) := by decide +kernel
theorem dX8_choicesNoLess_71 : decode cX8_choicesNoLess 71 = .ok (.iload_n 2, 1) := by decide +kernel
theorem dX8_choicesNoLess_72 : decode cX8_choicesNoLess 72 = .ok (.if_icmp .ge 38, 3) := by decide +kernel
theorem dX8_choicesNoLess_75 : decode cX8_choicesNoLess 75 = .ok (.iload 5, 2) := by decide +kernel
theorem dX8_choicesNoLess_77 : decode cX8_choicesNoLess 77 = .ok (.aload_n 3, 1) := by decide +kernel
theorem dX8_choicesNoLess_78 : decode cX8_choicesNoLess 78 = .ok (.iload 6, 2) := by decide +kernel
theorem dX8_choicesNoLess_80 : decode cX8_choicesNoLess 80 = .ok (.iaload, 1) := by decide +kernel
theorem dX8_choicesNoLess_81 : decode cX8_choicesNoLess 81 = .ok (.aload_n 3, 1) := by decide +kernel
theorem dX8_choicesNoLess_82 : decode cX8_choicesNoLess 82 = .ok (.iload 7, 2) := by decide +kernel
theorem dX8_choicesNoLess_84 : decode cX8_choicesNoLess 84 = .ok (.iaload, 1) := by decide +kernel
theorem dX8_choicesNoLess_85 : decode cX8_choicesNoLess 85 = .ok (.iadd, 1) := by decide +kernel
theorem dX8_choicesNoLess_86 : decode cX8_choicesNoLess 86 = .ok (.aload_n 3, 1) := by decide +kernel
theorem dX8_choicesNoLess_87 : decode cX8_choicesNoLess 87 = .ok (.iload 8, 2) := by decide +kernel
theorem dX8_choicesNoLess_89 : decode cX8_choicesNoLess 89 = .ok (.iaload, 1) := by decide +kernel
theorem dX8_choicesNoLess_90 : decode cX8_choicesNoLess 90 = .ok (.iadd, 1) := by decide +kernel
theorem dX8_choicesNoLess_91 : decode cX8_choicesNoLess 91 = .ok (.iload 4, 2) := by decide +kernel
theorem dX8_choicesNoLess_93 : decode cX8_choicesNoLess 93 = .ok (.if_icmp .lt 7, 3) := by decide +kernel
theorem dX8_choicesNoLess_96 : decode cX8_choicesNoLess 96 = .ok (.iconst 1, 1) := by decide +kernel
theorem dX8_choicesNoLess_97 : decode cX8_choicesNoLess 97 = .ok (.goto 4, 3) := by decide +kernel
theorem dX8_choicesNoLess_100 : decode cX8_choicesNoLess 100 = .ok (.iconst 0, 1) := by decide +kernel
theorem dX8_choicesNoLess_101 : decode cX8_choicesNoLess 101 = .ok (.iadd, 1) := by decide +kernel
theorem dX8_choicesNoLess_102 : decode cX8_choicesNoLess 102 = .ok (.istore 5, 2) := by decide +kernel
theorem dX8_choicesNoLess_104 : decode cX8_choicesNoLess 104 = .ok (.iinc 8 1, 3) := by decide +kernel
theorem dX8_choicesNoLess_107 : decode cX8_choicesNoLess 107 = .ok (.goto (-38), 3) := by decide +kernel
theorem dX8_choicesNoLess_110 : decode cX8_choicesNoLess 110 = .ok (.iinc 7 1, 3) := by decide +kernel
theorem dX8_choicesNoLess_113 : decode cX8_choicesNoLess 113 = .ok (.goto (-56), 3) := by decide +kernel
theorem dX8_choicesNoLess_116 : decode cX8_choicesNoLess 116 = .ok (.iinc 6 1, 3) := by decide +kernel
theorem dX8_choicesNoLess_119 : decode cX8_choicesNoLess 119 = .ok (.goto (-74), 3) := by decide +kernel
theorem dX8_choicesNoLess_122 : decode cX8_choicesNoLess 122 = .ok (.iload 5, 2) := by decide +kernel
theorem dX8_choicesNoLess_124 : decode cX8_choicesNoLess 124 = .ok (.ireturn, 1) := by decide +kernel
theorem dX9_init_0 : decode cX9_init 0 = .ok (.aload_n 0, 1) := by decide +kernel
theorem dX9_init_1 : decode cX9_init 1 = .ok (.invokespecial 3, 3) := by decide +kernel
theorem dX9_init_4 : decode cX9_init 4 = .ok (.aload_n 0, 1) := by decide +kernel
theorem dX9_init_5 : decode cX9_init 5 = .ok (.sipush 900, 3) := by decide +kernel
theorem dX9_init_8 : decode cX9_init 8 = .ok (.newarray .byte, 2) := by decide +kernel
theorem dX9_init_10 : decode cX9_init 10 = .ok (.putfield 9, 3) := by decide +kernel
theorem dX9_init_13 : decode cX9_init 13 = .ok (.return_, 1) := by decide +kernel
theorem dX9_hasRoom_0 : decode cX9_hasRoom 0 = .ok (.aload_n 0, 1) := by decide +kernel
theorem dX9_hasRoom_1 : decode cX9_hasRoom 1 = .ok (.getfield 15, 3) := by decide +kernel
theorem dX9_hasRoom_4 : decode cX9_hasRoom 4 = .ok (.iload_n 1, 1) := by decide +kernel
theorem dX9_hasRoom_5 : decode cX9_hasRoom 5 = .ok (.iadd, 1) := by decide +kernel
theorem dX9_hasRoom_6 : decode cX9_hasRoom 6 = .ok (.sipush 900, 3) := by decide +kernel
theorem dX9_hasRoom_9 : decode cX9_hasRoom 9 = .ok (.if_icmp .gt 7, 3) := by decide +kernel
theorem dX9_hasRoom_12 : decode cX9_hasRoom 12 = .ok (.iconst 1, 1) := by decide +kernel
theorem dX9_hasRoom_13 : decode cX9_hasRoom 13 = .ok (.goto 4, 3) := by decide +kernel
theorem dX9_hasRoom_16 : decode cX9_hasRoom 16 = .ok (.iconst 0, 1) := by decide +kernel
theorem dX9_hasRoom_17 : decode cX9_hasRoom 17 = .ok (.ireturn, 1) := by decide +kernel
theorem dX9_append_0 : decode cX9_append 0 = .ok (.bipush 24, 2) := by decide +kernel
theorem dX9_append_2 : decode cX9_append 2 = .ok (.istore_n 2, 1) := by decide +kernel
theorem dX9_append_3 : decode cX9_append 3 = .ok (.iload_n 2, 1) := by decide +kernel
theorem dX9_append_4 : decode cX9_append 4 = .ok (.ifCond .lt 42, 3) := by decide +kernel
theorem dX9_append_7 : decode cX9_append 7 = .ok (.aload_n 0, 1) := by decide +kernel
theorem dX9_append_8 : decode cX9_append 8 = .ok (.getfield 15, 3) := by decide +kernel
theorem dX9_append_11 : decode cX9_append 11 = .ok (.sipush 900, 3) := by decide +kernel
theorem dX9_append_14 : decode cX9_append 14 = .ok (.if_icmp .ge 26, 3) := by decide +kernel
theorem dX9_append_17 : decode cX9_append 17 = .ok (.aload_n 0, 1) := by decide +kernel
theorem dX9_append_18 : decode cX9_append 18 = .ok (.getfield 9, 3) := by decide +kernel
theorem dX9_append_21 : decode cX9_append 21 = .ok (.aload_n 0, 1) := by decide +kernel
theorem dX9_append_22 : decode cX9_append 22 = .ok (.getfield 15, 3) := by decide +kernel
theorem dX9_append_25 : decode cX9_append 25 = .ok (.iload_n 1, 1) := by decide +kernel
theorem dX9_append_26 : decode cX9_append 26 = .ok (.iload_n 2, 1) := by decide +kernel
theorem dX9_append_27 : decode cX9_append 27 = .ok (.ishr, 1) := by decide +kernel
theorem dX9_append_28 : decode cX9_append 28 = .ok (.i2b, 1) := by decide +kernel
theorem dX9_append_29 : decode cX9_append 29 = .ok (.bastore, 1) := by decide +kernel
theorem dX9_append_30 : decode cX9_append 30 = .ok (.aload_n 0, 1) := by decide +kernel
theorem dX9_append_31 : decode cX9_append 31 = .ok (.dup, 1) := by decide +kernel
theorem dX9_append_32 : decode cX9_append 32 = .ok (.getfield 15, 3) := by decide +kernel
theorem dX9_append_35 : decode cX9_append 35 = .ok (.iconst 1, 1) := by decide +kernel
theorem dX9_append_36 : decode cX9_append 36 = .ok (.iadd, 1) := by decide +kernel
theorem dX9_append_37 : decode cX9_append 37 = .ok (.putfield 15, 3) := by decide +kernel
theorem dX9_append_40 : decode cX9_append 40 = .ok (.iinc 2 (-8), 3) := by decide +kernel
theorem dX9_append_43 : decode cX9_append 43 = .ok (.goto (-40), 3) := by decide +kernel
theorem dX9_append_46 : decode cX9_append 46 = .ok (.return_, 1) := by decide +kernel
theorem dX9_empty_0 : decode cX9_empty 0 = .ok (.aload_n 0, 1) := by decide +kernel
theorem dX9_empty_1 : decode cX9_empty 1 = .ok (.iconst 0, 1) := by decide +kernel
theorem dX9_empty_2 : decode cX9_empty 2 = .ok (.putfield 15, 3) := by decide +kernel
theorem dX9_empty_5 : decode cX9_empty 5 = .ok (.return_, 1) := by decide +kernel
theorem dX9_open_0 : decode cX9_open 0 = .ok (.aload_n 0, 1) := by decide +kernel
theorem dX9_open_1 : decode cX9_open 1 = .ok (.iconst 0, 1) := by decide +kernel
theorem dX9_open_2 : decode cX9_open 2 = .ok (.iload_n 1, 1) := by decide +kernel
theorem dX9_open_3 : decode cX9_open 3 = .ok (.aload_n 0, 1) := by decide +kernel
theorem dX9_open_4 : decode cX9_open 4 = .ok (.getfield 15, 3) := by decide +kernel
theorem dX9_open_7 : decode cX9_open 7 = .ok (.invokestatic 19, 3) := by decide +kernel
theorem dX9_open_10 : decode cX9_open 10 = .ok (.invokestatic 25, 3) := by decide +kernel
theorem dX9_open_13 : decode cX9_open 13 = .ok (.putfield 28, 3) := by decide +kernel
theorem dX9_open_16 : decode cX9_open 16 = .ok (.aload_n 0, 1) := by decide +kernel
theorem dX9_open_17 : decode cX9_open 17 = .ok (.iconst 0, 1) := by decide +kernel
theorem dX9_open_18 : decode cX9_open 18 = .ok (.putfield 31, 3) := by decide +kernel
theorem dX9_open_21 : decode cX9_open 21 = .ok (.aload_n 0, 1) := by decide +kernel
theorem dX9_open_22 : decode cX9_open 22 = .ok (.invokevirtual 34, 3) := by decide +kernel
theorem dX9_open_25 : decode cX9_open 25 = .ok (.return_, 1) := by decide +kernel
theorem dX9_next_0 : decode cX9_next 0 = .ok (.aload_n 0, 1) := by decide +kernel
theorem dX9_next_1 : decode cX9_next 1 = .ok (.getfield 31, 3) := by decide +kernel
theorem dX9_next_4 : decode cX9_next 4 = .ok (.istore_n 1, 1) := by decide +kernel
theorem dX9_next_5 : decode cX9_next 5 = .ok (.iload_n 1, 1) := by decide +kernel
theorem dX9_next_6 : decode cX9_next 6 = .ok (.aload_n 0, 1) := by decide +kernel
theorem dX9_next_7 : decode cX9_next 7 = .ok (.getfield 28, 3) := by decide +kernel
theorem dX9_next_10 : decode cX9_next 10 = .ok (.if_icmp .ge 20, 3) := by decide +kernel
theorem dX9_next_13 : decode cX9_next 13 = .ok (.aload_n 0, 1) := by decide +kernel
theorem dX9_next_14 : decode cX9_next 14 = .ok (.getfield 9, 3) := by decide +kernel
theorem dX9_next_17 : decode cX9_next 17 = .ok (.iload_n 1, 1) := by decide +kernel
theorem dX9_next_18 : decode cX9_next 18 = .ok (.baload, 1) := by decide +kernel
theorem dX9_next_19 : decode cX9_next 19 = .ok (.bipush 32, 2) := by decide +kernel
theorem dX9_next_21 : decode cX9_next 21 = .ok (.if_icmp .ne 9, 3) := by decide +kernel
theorem dX9_next_24 : decode cX9_next 24 = .ok (.iinc 1 1, 3) := by decide +kernel
theorem dX9_next_27 : decode cX9_next 27 = .ok (.goto (-22), 3) := by decide +kernel
theorem dX9_next_30 : decode cX9_next 30 = .ok (.aload_n 0, 1) := by decide +kernel
theorem dX9_next_31 : decode cX9_next 31 = .ok (.iload_n 1, 1) := by decide +kernel
theorem dX9_next_32 : decode cX9_next 32 = .ok (.putfield 37, 3) := by decide +kernel
theorem dX9_next_35 : decode cX9_next 35 = .ok (.aload_n 0, 1) := by decide +kernel
theorem dX9_next_36 : decode cX9_next 36 = .ok (.iload_n 1, 1) := by decide +kernel
theorem dX9_next_37 : decode cX9_next 37 = .ok (.putfield 31, 3) := by decide +kernel
theorem dX9_next_40 : decode cX9_next 40 = .ok (.iload_n 1, 1) := by decide +kernel
theorem dX9_next_41 : decode cX9_next 41 = .ok (.aload_n 0, 1) := by decide +kernel
theorem dX9_next_42 : decode cX9_next 42 = .ok (.getfield 28, 3) := by decide +kernel
theorem dX9_next_45 : decode cX9_next 45 = .ok (.if_icmp .lt 11, 3) := by decide +kernel
theorem dX9_next_48 : decode cX9_next 48 = .ok (.aload_n 0, 1) := by decide +kernel
theorem dX9_next_49 : decode cX9_next 49 = .ok (.iconst 0, 1) := by decide +kernel
theorem dX9_next_50 : decode cX9_next 50 = .ok (.putfield 40, 3) := by decide +kernel
theorem dX9_next_53 : decode cX9_next 53 = .ok (.goto 71, 3) := by decide +kernel
theorem dX9_next_56 : decode cX9_next 56 = .ok (.aload_n 0, 1) := by decide +kernel
theorem dX9_next_57 : decode cX9_next 57 = .ok (.getfield 9, 3) := by decide +kernel
theorem dX9_next_60 : decode cX9_next 60 = .ok (.iload_n 1, 1) := by decide +kernel
theorem dX9_next_61 : decode cX9_next 61 = .ok (.baload, 1) := by decide +kernel
theorem dX9_next_62 : decode cX9_next 62 = .ok (.bipush 97, 2) := by decide +kernel
theorem dX9_next_64 : decode cX9_next 64 = .ok (.if_icmp .lt 21, 3) := by decide +kernel
theorem dX9_next_67 : decode cX9_next 67 = .ok (.aload_n 0, 1) := by decide +kernel
theorem dX9_next_68 : decode cX9_next 68 = .ok (.getfield 9, 3) := by decide +kernel
theorem dX9_next_71 : decode cX9_next 71 = .ok (.iload_n 1, 1) := by decide +kernel
theorem dX9_next_72 : decode cX9_next 72 = .ok (.baload, 1) := by decide +kernel
theorem dX9_next_73 : decode cX9_next 73 = .ok (.bipush 122, 2) := by decide +kernel
theorem dX9_next_75 : decode cX9_next 75 = .ok (.if_icmp .gt 10, 3) := by decide +kernel
theorem dX9_next_78 : decode cX9_next 78 = .ok (.aload_n 0, 1) := by decide +kernel
theorem dX9_next_79 : decode cX9_next 79 = .ok (.invokevirtual 43, 3) := by decide +kernel
theorem dX9_next_82 : decode cX9_next 82 = .ok (.goto 42, 3) := by decide +kernel
theorem dX9_next_85 : decode cX9_next 85 = .ok (.aload_n 0, 1) := by decide +kernel
theorem dX9_next_86 : decode cX9_next 86 = .ok (.getfield 9, 3) := by decide +kernel
theorem dX9_next_89 : decode cX9_next 89 = .ok (.iload_n 1, 1) := by decide +kernel
theorem dX9_next_90 : decode cX9_next 90 = .ok (.baload, 1) := by decide +kernel
theorem dX9_next_91 : decode cX9_next 91 = .ok (.bipush 48, 2) := by decide +kernel
theorem dX9_next_93 : decode cX9_next 93 = .ok (.if_icmp .lt 21, 3) := by decide +kernel
theorem dX9_next_96 : decode cX9_next 96 = .ok (.aload_n 0, 1) := by decide +kernel
theorem dX9_next_97 : decode cX9_next 97 = .ok (.getfield 9, 3) := by decide +kernel
theorem dX9_next_100 : decode cX9_next 100 = .ok (.iload_n 1, 1) := by decide +kernel
theorem dX9_next_101 : decode cX9_next 101 = .ok (.baload, 1) := by decide +kernel
theorem dX9_next_102 : decode cX9_next 102 = .ok (.bipush 57, 2) := by decide +kernel
theorem dX9_next_104 : decode cX9_next 104 = .ok (.if_icmp .gt 10, 3) := by decide +kernel
theorem dX9_next_107 : decode cX9_next 107 = .ok (.aload_n 0, 1) := by decide +kernel
theorem dX9_next_108 : decode cX9_next 108 = .ok (.invokevirtual 46, 3) := by decide +kernel
theorem dX9_next_111 : decode cX9_next 111 = .ok (.goto 13, 3) := by decide +kernel
theorem dX9_next_114 : decode cX9_next 114 = .ok (.aload_n 0, 1) := by decide +kernel
theorem dX9_next_115 : decode cX9_next 115 = .ok (.aload_n 0, 1) := by decide +kernel
theorem dX9_next_116 : decode cX9_next 116 = .ok (.getfield 9, 3) := by decide +kernel
theorem dX9_next_119 : decode cX9_next 119 = .ok (.iload_n 1, 1) := by decide +kernel
theorem dX9_next_120 : decode cX9_next 120 = .ok (.baload, 1) := by decide +kernel
theorem dX9_next_121 : decode cX9_next 121 = .ok (.invokevirtual 49, 3) := by decide +kernel
theorem dX9_next_124 : decode cX9_next 124 = .ok (.return_, 1) := by decide +kernel
theorem dX9_isWord_0 : decode cX9_isWord 0 = .ok (.aload_n 0, 1) := by decide +kernel
theorem dX9_isWord_1 : decode cX9_isWord 1 = .ok (.getfield 40, 3) := by decide +kernel
theorem dX9_isWord_4 : decode cX9_isWord 4 = .ok (.iconst 1, 1) := by decide +kernel
theorem dX9_isWord_5 : decode cX9_isWord 5 = .ok (.if_icmp .ne 19, 3) := by decide +kernel
theorem dX9_isWord_8 : decode cX9_isWord 8 = .ok (.aload_n 1, 1) := by decide +kernel
theorem dX9_isWord_9 : decode cX9_isWord 9 = .ok (.invokevirtual 53, 3) := by decide +kernel
theorem dX9_isWord_12 : decode cX9_isWord 12 = .ok (.aload_n 0, 1) := by decide +kernel
theorem dX9_isWord_13 : decode cX9_isWord 13 = .ok (.getfield 31, 3) := by decide +kernel
theorem dX9_isWord_16 : decode cX9_isWord 16 = .ok (.aload_n 0, 1) := by decide +kernel
theorem dX9_isWord_17 : decode cX9_isWord 17 = .ok (.getfield 37, 3) := by decide +kernel
theorem dX9_isWord_20 : decode cX9_isWord 20 = .ok (.isub, 1) := by decide +kernel
theorem dX9_isWord_21 : decode cX9_isWord 21 = .ok (.if_icmp .eq 5, 3) := by decide +kernel
theorem dX9_isWord_24 : decode cX9_isWord 24 = .ok (.iconst 0, 1) := by decide +kernel
theorem dX9_isWord_25 : decode cX9_isWord 25 = .ok (.ireturn, 1) := by decide +kernel
theorem dX9_isWord_26 : decode cX9_isWord 26 = .ok (.iconst 0, 1) := by decide +kernel
theorem dX9_isWord_27 : decode cX9_isWord 27 = .ok (.istore_n 2, 1) := by decide +kernel
theorem dX9_isWord_28 : decode cX9_isWord 28 = .ok (.iload_n 2, 1) := by decide +kernel
theorem dX9_isWord_29 : decode cX9_isWord 29 = .ok (.aload_n 1, 1) := by decide +kernel
theorem dX9_isWord_30 : decode cX9_isWord 30 = .ok (.invokevirtual 53, 3) := by decide +kernel
theorem dX9_isWord_33 : decode cX9_isWord 33 = .ok (.if_icmp .ge 30, 3) := by decide +kernel
theorem dX9_isWord_36 : decode cX9_isWord 36 = .ok (.aload_n 0, 1) := by decide +kernel
theorem dX9_isWord_37 : decode cX9_isWord 37 = .ok (.getfield 9, 3) := by decide +kernel
theorem dX9_isWord_40 : decode cX9_isWord 40 = .ok (.aload_n 0, 1) := by decide +kernel
theorem dX9_isWord_41 : decode cX9_isWord 41 = .ok (.getfield 37, 3) := by decide +kernel
theorem dX9_isWord_44 : decode cX9_isWord 44 = .ok (.iload_n 2, 1) := by decide +kernel
theorem dX9_isWord_45 : decode cX9_isWord 45 = .ok (.iadd, 1) := by decide +kernel
theorem dX9_isWord_46 : decode cX9_isWord 46 = .ok (.baload, 1) := by decide +kernel
theorem dX9_isWord_47 : decode cX9_isWord 47 = .ok (.aload_n 1, 1) := by decide +kernel
theorem dX9_isWord_48 : decode cX9_isWord 48 = .ok (.iload_n 2, 1) := by decide +kernel
theorem dX9_isWord_49 : decode cX9_isWord 49 = .ok (.invokevirtual 58, 3) := by decide +kernel
theorem dX9_isWord_52 : decode cX9_isWord 52 = .ok (.if_icmp .eq 5, 3) := by decide +kernel
theorem dX9_isWord_55 : decode cX9_isWord 55 = .ok (.iconst 0, 1) := by decide +kernel
theorem dX9_isWord_56 : decode cX9_isWord 56 = .ok (.ireturn, 1) := by decide +kernel
theorem dX9_isWord_57 : decode cX9_isWord 57 = .ok (.iinc 2 1, 3) := by decide +kernel
theorem dX9_isWord_60 : decode cX9_isWord 60 = .ok (.goto (-32), 3) := by decide +kernel
theorem dX9_isWord_63 : decode cX9_isWord 63 = .ok (.iconst 1, 1) := by decide +kernel
theorem dX9_isWord_64 : decode cX9_isWord 64 = .ok (.ireturn, 1) := by decide +kernel
theorem dX9_takeWord_0 : decode cX9_takeWord 0 = .ok (.aload_n 0, 1) := by decide +kernel
theorem dX9_takeWord_1 : decode cX9_takeWord 1 = .ok (.lconst 0, 1) := by decide +kernel
theorem dX9_takeWord_2 : decode cX9_takeWord 2 = .ok (.putfield 62, 3) := by decide +kernel
theorem dX9_takeWord_5 : decode cX9_takeWord 5 = .ok (.aload_n 0, 1) := by decide +kernel
theorem dX9_takeWord_6 : decode cX9_takeWord 6 = .ok (.iconst 0, 1) := by decide +kernel
theorem dX9_takeWord_7 : decode cX9_takeWord 7 = .ok (.putfield 66, 3) := by decide +kernel
theorem dX9_takeWord_10 : decode cX9_takeWord 10 = .ok (.aload_n 0, 1) := by decide +kernel
theorem dX9_takeWord_11 : decode cX9_takeWord 11 = .ok (.getfield 31, 3) := by decide +kernel
theorem dX9_takeWord_14 : decode cX9_takeWord 14 = .ok (.aload_n 0, 1) := by decide +kernel
theorem dX9_takeWord_15 : decode cX9_takeWord 15 = .ok (.getfield 28, 3) := by decide +kernel
theorem dX9_takeWord_18 : decode cX9_takeWord 18 = .ok (.if_icmp .ge 86, 3) := by decide +kernel
theorem dX9_takeWord_21 : decode cX9_takeWord 21 = .ok (.aload_n 0, 1) := by decide +kernel
theorem dX9_takeWord_22 : decode cX9_takeWord 22 = .ok (.getfield 9, 3) := by decide +kernel
theorem dX9_takeWord_25 : decode cX9_takeWord 25 = .ok (.aload_n 0, 1) := by decide +kernel
theorem dX9_takeWord_26 : decode cX9_takeWord 26 = .ok (.getfield 31, 3) := by decide +kernel
theorem dX9_takeWord_29 : decode cX9_takeWord 29 = .ok (.baload, 1) := by decide +kernel
theorem dX9_takeWord_30 : decode cX9_takeWord 30 = .ok (.bipush 97, 2) := by decide +kernel
theorem dX9_takeWord_32 : decode cX9_takeWord 32 = .ok (.if_icmp .lt 72, 3) := by decide +kernel
theorem dX9_takeWord_35 : decode cX9_takeWord 35 = .ok (.aload_n 0, 1) := by decide +kernel
theorem dX9_takeWord_36 : decode cX9_takeWord 36 = .ok (.getfield 9, 3) := by decide +kernel
theorem dX9_takeWord_39 : decode cX9_takeWord 39 = .ok (.aload_n 0, 1) := by decide +kernel
theorem dX9_takeWord_40 : decode cX9_takeWord 40 = .ok (.getfield 31, 3) := by decide +kernel
theorem dX9_takeWord_43 : decode cX9_takeWord 43 = .ok (.baload, 1) := by decide +kernel
theorem dX9_takeWord_44 : decode cX9_takeWord 44 = .ok (.bipush 122, 2) := by decide +kernel
theorem dX9_takeWord_46 : decode cX9_takeWord 46 = .ok (.if_icmp .gt 58, 3) := by decide +kernel
theorem dX9_takeWord_49 : decode cX9_takeWord 49 = .ok (.aload_n 0, 1) := by decide +kernel
theorem dX9_takeWord_50 : decode cX9_takeWord 50 = .ok (.getfield 9, 3) := by decide +kernel
theorem dX9_takeWord_53 : decode cX9_takeWord 53 = .ok (.aload_n 0, 1) := by decide +kernel
theorem dX9_takeWord_54 : decode cX9_takeWord 54 = .ok (.getfield 31, 3) := by decide +kernel
theorem dX9_takeWord_57 : decode cX9_takeWord 57 = .ok (.baload, 1) := by decide +kernel
theorem dX9_takeWord_58 : decode cX9_takeWord 58 = .ok (.bipush 97, 2) := by decide +kernel
theorem dX9_takeWord_60 : decode cX9_takeWord 60 = .ok (.isub, 1) := by decide +kernel
theorem dX9_takeWord_61 : decode cX9_takeWord 61 = .ok (.istore_n 1, 1) := by decide +kernel
theorem dX9_takeWord_62 : decode cX9_takeWord 62 = .ok (.aload_n 0, 1) := by decide +kernel
theorem dX9_takeWord_63 : decode cX9_takeWord 63 = .ok (.aload_n 0, 1) := by decide +kernel
theorem dX9_takeWord_64 : decode cX9_takeWord 64 = .ok (.getfield 62, 3) := by decide +kernel
theorem dX9_takeWord_67 : decode cX9_takeWord 67 = .ok (.ldc2_w 69, 3) := by decide +kernel
theorem dX9_takeWord_70 : decode cX9_takeWord 70 = .ok (.lmul, 1) := by decide +kernel
theorem dX9_takeWord_71 : decode cX9_takeWord 71 = .ok (.iload_n 1, 1) := by decide +kernel
theorem dX9_takeWord_72 : decode cX9_takeWord 72 = .ok (.i2l, 1) := by decide +kernel
theorem dX9_takeWord_73 : decode cX9_takeWord 73 = .ok (.ladd, 1) := by decide +kernel
theorem dX9_takeWord_74 : decode cX9_takeWord 74 = .ok (.lconst 1, 1) := by decide +kernel
theorem dX9_takeWord_75 : decode cX9_takeWord 75 = .ok (.ladd, 1) := by decide +kernel
theorem dX9_takeWord_76 : decode cX9_takeWord 76 = .ok (.putfield 62, 3) := by decide +kernel
theorem dX9_takeWord_79 : decode cX9_takeWord 79 = .ok (.aload_n 0, 1) := by decide +kernel
theorem dX9_takeWord_80 : decode cX9_takeWord 80 = .ok (.dup, 1) := by decide +kernel
theorem dX9_takeWord_81 : decode cX9_takeWord 81 = .ok (.getfield 66, 3) := by decide +kernel
theorem dX9_takeWord_84 : decode cX9_takeWord 84 = .ok (.iconst 1, 1) := by decide +kernel
theorem dX9_takeWord_85 : decode cX9_takeWord 85 = .ok (.iload_n 1, 1) := by decide +kernel
theorem dX9_takeWord_86 : decode cX9_takeWord 86 = .ok (.ishl, 1) := by decide +kernel
theorem dX9_takeWord_87 : decode cX9_takeWord 87 = .ok (.ior, 1) := by decide +kernel
theorem dX9_takeWord_88 : decode cX9_takeWord 88 = .ok (.putfield 66, 3) := by decide +kernel
theorem dX9_takeWord_91 : decode cX9_takeWord 91 = .ok (.aload_n 0, 1) := by decide +kernel
theorem dX9_takeWord_92 : decode cX9_takeWord 92 = .ok (.dup, 1) := by decide +kernel
theorem dX9_takeWord_93 : decode cX9_takeWord 93 = .ok (.getfield 31, 3) := by decide +kernel
theorem dX9_takeWord_96 : decode cX9_takeWord 96 = .ok (.iconst 1, 1) := by decide +kernel
theorem dX9_takeWord_97 : decode cX9_takeWord 97 = .ok (.iadd, 1) := by decide +kernel
theorem dX9_takeWord_98 : decode cX9_takeWord 98 = .ok (.putfield 31, 3) := by decide +kernel
theorem dX9_takeWord_101 : decode cX9_takeWord 101 = .ok (.goto (-91), 3) := by decide +kernel
theorem dX9_takeWord_104 : decode cX9_takeWord 104 = .ok (.aload_n 0, 1) := by decide +kernel
theorem dX9_takeWord_105 : decode cX9_takeWord 105 = .ok (.aload_n 0, 1) := by decide +kernel
theorem dX9_takeWord_106 : decode cX9_takeWord 106 = .ok (.getfield 31, 3) := by decide +kernel
theorem dX9_takeWord_109 : decode cX9_takeWord 109 = .ok (.aload_n 0, 1) := by decide +kernel
theorem dX9_takeWord_110 : decode cX9_takeWord 110 = .ok (.getfield 37, 3) := by decide +kernel
theorem dX9_takeWord_113 : decode cX9_takeWord 113 = .ok (.isub, 1) := by decide +kernel
theorem dX9_takeWord_114 : decode cX9_takeWord 114 = .ok (.bipush 8, 2) := by decide +kernel
theorem dX9_takeWord_116 : decode cX9_takeWord 116 = .ok (.if_icmp .gt 7, 3) := by decide +kernel
theorem dX9_takeWord_119 : decode cX9_takeWord 119 = .ok (.iconst 1, 1) := by decide +kernel
theorem dX9_takeWord_120 : decode cX9_takeWord 120 = .ok (.goto 4, 3) := by decide +kernel
theorem dX9_takeWord_123 : decode cX9_takeWord 123 = .ok (.iconst 5, 1) := by decide +kernel
theorem dX9_takeWord_124 : decode cX9_takeWord 124 = .ok (.putfield 40, 3) := by decide +kernel
theorem dX9_takeWord_127 : decode cX9_takeWord 127 = .ok (.return_, 1) := by decide +kernel
theorem dX9_takeWhole_0 : decode cX9_takeWhole 0 = .ok (.aload_n 0, 1) := by decide +kernel
theorem dX9_takeWhole_1 : decode cX9_takeWhole 1 = .ok (.iconst 0, 1) := by decide +kernel
theorem dX9_takeWhole_2 : decode cX9_takeWhole 2 = .ok (.putfield 71, 3) := by decide +kernel
theorem dX9_takeWhole_5 : decode cX9_takeWhole 5 = .ok (.aload_n 0, 1) := by decide +kernel
theorem dX9_takeWhole_6 : decode cX9_takeWhole 6 = .ok (.getfield 31, 3) := by decide +kernel
theorem dX9_takeWhole_9 : decode cX9_takeWhole 9 = .ok (.aload_n 0, 1) := by decide +kernel
theorem dX9_takeWhole_10 : decode cX9_takeWhole 10 = .ok (.getfield 28, 3) := by decide +kernel
theorem dX9_takeWhole_13 : decode cX9_takeWhole 13 = .ok (.if_icmp .ge 68, 3) := by decide +kernel
theorem dX9_takeWhole_16 : decode cX9_takeWhole 16 = .ok (.aload_n 0, 1) := by decide +kernel
theorem dX9_takeWhole_17 : decode cX9_takeWhole 17 = .ok (.getfield 9, 3) := by decide +kernel
theorem dX9_takeWhole_20 : decode cX9_takeWhole 20 = .ok (.aload_n 0, 1) := by decide +kernel
theorem dX9_takeWhole_21 : decode cX9_takeWhole 21 = .ok (.getfield 31, 3) := by decide +kernel
theorem dX9_takeWhole_24 : decode cX9_takeWhole 24 = .ok (.baload, 1) := by decide +kernel
theorem dX9_takeWhole_25 : decode cX9_takeWhole 25 = .ok (.bipush 48, 2) := by decide +kernel
theorem dX9_takeWhole_27 : decode cX9_takeWhole 27 = .ok (.if_icmp .lt 54, 3) := by decide +kernel
theorem dX9_takeWhole_30 : decode cX9_takeWhole 30 = .ok (.aload_n 0, 1) := by decide +kernel
theorem dX9_takeWhole_31 : decode cX9_takeWhole 31 = .ok (.getfield 9, 3) := by decide +kernel
theorem dX9_takeWhole_34 : decode cX9_takeWhole 34 = .ok (.aload_n 0, 1) := by decide +kernel
theorem dX9_takeWhole_35 : decode cX9_takeWhole 35 = .ok (.getfield 31, 3) := by decide +kernel
theorem dX9_takeWhole_38 : decode cX9_takeWhole 38 = .ok (.baload, 1) := by decide +kernel
theorem dX9_takeWhole_39 : decode cX9_takeWhole 39 = .ok (.bipush 57, 2) := by decide +kernel
theorem dX9_takeWhole_41 : decode cX9_takeWhole 41 = .ok (.if_icmp .gt 40, 3) := by decide +kernel
theorem dX9_takeWhole_44 : decode cX9_takeWhole 44 = .ok (.aload_n 0, 1) := by decide +kernel
theorem dX9_takeWhole_45 : decode cX9_takeWhole 45 = .ok (.aload_n 0, 1) := by decide +kernel
theorem dX9_takeWhole_46 : decode cX9_takeWhole 46 = .ok (.getfield 71, 3) := by decide +kernel
theorem dX9_takeWhole_49 : decode cX9_takeWhole 49 = .ok (.bipush 10, 2) := by decide +kernel
theorem dX9_takeWhole_51 : decode cX9_takeWhole 51 = .ok (.imul, 1) := by decide +kernel
theorem dX9_takeWhole_52 : decode cX9_takeWhole 52 = .ok (.aload_n 0, 1) := by decide +kernel
theorem dX9_takeWhole_53 : decode cX9_takeWhole 53 = .ok (.getfield 9, 3) := by decide +kernel
theorem dX9_takeWhole_56 : decode cX9_takeWhole 56 = .ok (.aload_n 0, 1) := by decide +kernel
theorem dX9_takeWhole_57 : decode cX9_takeWhole 57 = .ok (.getfield 31, 3) := by decide +kernel
theorem dX9_takeWhole_60 : decode cX9_takeWhole 60 = .ok (.baload, 1) := by decide +kernel
theorem dX9_takeWhole_61 : decode cX9_takeWhole 61 = .ok (.iadd, 1) := by decide +kernel
theorem dX9_takeWhole_62 : decode cX9_takeWhole 62 = .ok (.bipush 48, 2) := by decide +kernel
theorem dX9_takeWhole_64 : decode cX9_takeWhole 64 = .ok (.isub, 1) := by decide +kernel
theorem dX9_takeWhole_65 : decode cX9_takeWhole 65 = .ok (.putfield 71, 3) := by decide +kernel
theorem dX9_takeWhole_68 : decode cX9_takeWhole 68 = .ok (.aload_n 0, 1) := by decide +kernel
theorem dX9_takeWhole_69 : decode cX9_takeWhole 69 = .ok (.dup, 1) := by decide +kernel
theorem dX9_takeWhole_70 : decode cX9_takeWhole 70 = .ok (.getfield 31, 3) := by decide +kernel
theorem dX9_takeWhole_73 : decode cX9_takeWhole 73 = .ok (.iconst 1, 1) := by decide +kernel
theorem dX9_takeWhole_74 : decode cX9_takeWhole 74 = .ok (.iadd, 1) := by decide +kernel
theorem dX9_takeWhole_75 : decode cX9_takeWhole 75 = .ok (.putfield 31, 3) := by decide +kernel
theorem dX9_takeWhole_78 : decode cX9_takeWhole 78 = .ok (.goto (-73), 3) := by decide +kernel
theorem dX9_takeWhole_81 : decode cX9_takeWhole 81 = .ok (.aload_n 0, 1) := by decide +kernel
theorem dX9_takeWhole_82 : decode cX9_takeWhole 82 = .ok (.aload_n 0, 1) := by decide +kernel
theorem dX9_takeWhole_83 : decode cX9_takeWhole 83 = .ok (.getfield 31, 3) := by decide +kernel
theorem dX9_takeWhole_86 : decode cX9_takeWhole 86 = .ok (.aload_n 0, 1) := by decide +kernel
theorem dX9_takeWhole_87 : decode cX9_takeWhole 87 = .ok (.getfield 37, 3) := by decide +kernel
theorem dX9_takeWhole_90 : decode cX9_takeWhole 90 = .ok (.isub, 1) := by decide +kernel
theorem dX9_takeWhole_91 : decode cX9_takeWhole 91 = .ok (.iconst 3, 1) := by decide +kernel
theorem dX9_takeWhole_92 : decode cX9_takeWhole 92 = .ok (.if_icmp .gt 7, 3) := by decide +kernel
theorem dX9_takeWhole_95 : decode cX9_takeWhole 95 = .ok (.iconst 2, 1) := by decide +kernel
theorem dX9_takeWhole_96 : decode cX9_takeWhole 96 = .ok (.goto 4, 3) := by decide +kernel
theorem dX9_takeWhole_99 : decode cX9_takeWhole 99 = .ok (.iconst 5, 1) := by decide +kernel
theorem dX9_takeWhole_100 : decode cX9_takeWhole 100 = .ok (.putfield 40, 3) := by decide +kernel
theorem dX9_takeWhole_103 : decode cX9_takeWhole 103 = .ok (.return_, 1) := by decide +kernel
theorem dX9_takeSign_0 : decode cX9_takeSign 0 = .ok (.aload_n 0, 1) := by decide +kernel
theorem dX9_takeSign_1 : decode cX9_takeSign 1 = .ok (.aload_n 0, 1) := by decide +kernel
theorem dX9_takeSign_2 : decode cX9_takeSign 2 = .ok (.getfield 37, 3) := by decide +kernel
theorem dX9_takeSign_5 : decode cX9_takeSign 5 = .ok (.iconst 1, 1) := by decide +kernel
theorem dX9_takeSign_6 : decode cX9_takeSign 6 = .ok (.iadd, 1) := by decide +kernel
theorem dX9_takeSign_7 : decode cX9_takeSign 7 = .ok (.putfield 31, 3) := by decide +kernel
theorem dX9_takeSign_10 : decode cX9_takeSign 10 = .ok (.aload_n 0, 1) := by decide +kernel
theorem dX9_takeSign_11 : decode cX9_takeSign 11 = .ok (.iload_n 1, 1) := by decide +kernel
theorem dX9_takeSign_12 : decode cX9_takeSign 12 = .ok (.bipush 59, 2) := by decide +kernel
theorem dX9_takeSign_14 : decode cX9_takeSign 14 = .ok (.if_icmp .ne 7, 3) := by decide +kernel
theorem dX9_takeSign_17 : decode cX9_takeSign 17 = .ok (.iconst 3, 1) := by decide +kernel
theorem dX9_takeSign_18 : decode cX9_takeSign 18 = .ok (.goto 14, 3) := by decide +kernel
theorem dX9_takeSign_21 : decode cX9_takeSign 21 = .ok (.iload_n 1, 1) := by decide +kernel
theorem dX9_takeSign_22 : decode cX9_takeSign 22 = .ok (.bipush 44, 2) := by decide +kernel
theorem dX9_takeSign_24 : decode cX9_takeSign 24 = .ok (.if_icmp .ne 7, 3) := by decide +kernel
theorem dX9_takeSign_27 : decode cX9_takeSign 27 = .ok (.iconst 4, 1) := by decide +kernel
theorem dX9_takeSign_28 : decode cX9_takeSign 28 = .ok (.goto 4, 3) := by decide +kernel
theorem dX9_takeSign_31 : decode cX9_takeSign 31 = .ok (.iconst 5, 1) := by decide +kernel
theorem dX9_takeSign_32 : decode cX9_takeSign 32 = .ok (.putfield 40, 3) := by decide +kernel
theorem dX9_takeSign_35 : decode cX9_takeSign 35 = .ok (.return_, 1) := by decide +kernel
theorem dX10_init_0 : decode cX10_init 0 = .ok (.aload_n 0, 1) := by decide +kernel
theorem dX10_init_1 : decode cX10_init 1 = .ok (.invokespecial 3, 3) := by decide +kernel
theorem dX10_init_4 : decode cX10_init 4 = .ok (.aload_n 0, 1) := by decide +kernel
theorem dX10_init_5 : decode cX10_init 5 = .ok (.bipush 7, 2) := by decide +kernel
theorem dX10_init_7 : decode cX10_init 7 = .ok (.newarray .int, 2) := by decide +kernel
theorem dX10_init_9 : decode cX10_init 9 = .ok (.putfield 9, 3) := by decide +kernel
theorem dX10_init_12 : decode cX10_init 12 = .ok (.aload_n 0, 1) := by decide +kernel
theorem dX10_init_13 : decode cX10_init 13 = .ok (.iconst 5, 1) := by decide +kernel
theorem dX10_init_14 : decode cX10_init 14 = .ok (.newarray .int, 2) := by decide +kernel
theorem dX10_init_16 : decode cX10_init 16 = .ok (.putfield 15, 3) := by decide +kernel
theorem dX10_init_19 : decode cX10_init 19 = .ok (.aload_n 0, 1) := by decide +kernel
theorem dX10_init_20 : decode cX10_init 20 = .ok (.bipush 7, 2) := by decide +kernel
theorem dX10_init_22 : decode cX10_init 22 = .ok (.newarray .int, 2) := by decide +kernel
theorem dX10_init_24 : decode cX10_init 24 = .ok (.putfield 18, 3) := by decide +kernel
theorem dX10_init_27 : decode cX10_init 27 = .ok (.return_, 1) := by decide +kernel
theorem dX10_forget_0 : decode cX10_forget 0 = .ok (.aload_n 0, 1) := by decide +kernel
theorem dX10_forget_1 : decode cX10_forget 1 = .ok (.iconst 0, 1) := by decide +kernel
theorem dX10_forget_2 : decode cX10_forget 2 = .ok (.putfield 21, 3) := by decide +kernel
theorem dX10_forget_5 : decode cX10_forget 5 = .ok (.return_, 1) := by decide +kernel
theorem dX10_helperOf_0 : decode cX10_helperOf 0 = .ok (.aload_n 0, 1) := by decide +kernel
theorem dX10_helperOf_1 : decode cX10_helperOf 1 = .ok (.getfield 21, 3) := by decide +kernel
theorem dX10_helperOf_4 : decode cX10_helperOf 4 = .ok (.ifCond .eq 22, 3) := by decide +kernel
theorem dX10_helperOf_7 : decode cX10_helperOf 7 = .ok (.iload_n 1, 1) := by decide +kernel
theorem dX10_helperOf_8 : decode cX10_helperOf 8 = .ok (.ifCond .lt 18, 3) := by decide +kernel
theorem dX10_helperOf_11 : decode cX10_helperOf 11 = .ok (.iload_n 1, 1) := by decide +kernel
theorem dX10_helperOf_12 : decode cX10_helperOf 12 = .ok (.bipush 7, 2) := by decide +kernel
theorem dX10_helperOf_14 : decode cX10_helperOf 14 = .ok (.if_icmp .ge 12, 3) := by decide +kernel
theorem dX10_helperOf_17 : decode cX10_helperOf 17 = .ok (.aload_n 0, 1) := by decide +kernel
theorem dX10_helperOf_18 : decode cX10_helperOf 18 = .ok (.getfield 18, 3) := by decide +kernel
theorem dX10_helperOf_21 : decode cX10_helperOf 21 = .ok (.iload_n 1, 1) := by decide +kernel
theorem dX10_helperOf_22 : decode cX10_helperOf 22 = .ok (.iaload, 1) := by decide +kernel
theorem dX10_helperOf_23 : decode cX10_helperOf 23 = .ok (.goto 4, 3) := by decide +kernel
theorem dX10_helperOf_26 : decode cX10_helperOf 26 = .ok (.iconst (-1), 1) := by decide +kernel
theorem dX10_helperOf_27 : decode cX10_helperOf 27 = .ok (.ireturn, 1) := by decide +kernel
theorem dX10_fillWeek_0 : decode cX10_fillWeek 0 = .ok (.aload_n 0, 1) := by decide +kernel
theorem dX10_fillWeek_1 : decode cX10_fillWeek 1 = .ok (.aload_n 1, 1) := by decide +kernel
theorem dX10_fillWeek_2 : decode cX10_fillWeek 2 = .ok (.invokevirtual 25, 3) := by decide +kernel
theorem dX10_fillWeek_5 : decode cX10_fillWeek 5 = .ok (.aload_n 0, 1) := by decide +kernel
theorem dX10_fillWeek_6 : decode cX10_fillWeek 6 = .ok (.aload_n 1, 1) := by decide +kernel
theorem dX10_fillWeek_7 : decode cX10_fillWeek 7 = .ok (.invokevirtual 29, 3) := by decide +kernel
theorem dX10_fillWeek_10 : decode cX10_fillWeek 10 = .ok (.istore_n 2, 1) := by decide +kernel
theorem dX10_fillWeek_11 : decode cX10_fillWeek 11 = .ok (.iload_n 2, 1) := by decide +kernel
theorem dX10_fillWeek_12 : decode cX10_fillWeek 12 = .ok (.istore_n 3, 1) := by decide +kernel
theorem dX10_fillWeek_13 : decode cX10_fillWeek 13 = .ok (.iconst 0, 1) := by decide +kernel
theorem dX10_fillWeek_14 : decode cX10_fillWeek 14 = .ok (.istore 4, 2) := by decide +kernel
theorem dX10_fillWeek_16 : decode cX10_fillWeek 16 = .ok (.iload 4, 2) := by decide +kernel
theorem dX10_fillWeek_18 : decode cX10_fillWeek 18 = .ok (.bipush 7, 2) := by decide +kernel
theorem dX10_fillWeek_20 : decode cX10_fillWeek 20 = .ok (.if_icmp .ge 43, 3) := by decide +kernel
theorem dX10_fillWeek_23 : decode cX10_fillWeek 23 = .ok (.aload_n 0, 1) := by decide +kernel
theorem dX10_fillWeek_24 : decode cX10_fillWeek 24 = .ok (.getfield 18, 3) := by decide +kernel
theorem dX10_fillWeek_27 : decode cX10_fillWeek 27 = .ok (.iload 4, 2) := by decide +kernel
theorem dX10_fillWeek_29 : decode cX10_fillWeek 29 = .ok (.aload_n 0, 1) := by decide +kernel
theorem dX10_fillWeek_30 : decode cX10_fillWeek 30 = .ok (.iload 4, 2) := by decide +kernel
theorem dX10_fillWeek_32 : decode cX10_fillWeek 32 = .ok (.iload_n 3, 1) := by decide +kernel
theorem dX10_fillWeek_33 : decode cX10_fillWeek 33 = .ok (.invokevirtual 33, 3) := by decide +kernel
theorem dX10_fillWeek_36 : decode cX10_fillWeek 36 = .ok (.iastore, 1) := by decide +kernel
theorem dX10_fillWeek_37 : decode cX10_fillWeek 37 = .ok (.iload_n 3, 1) := by decide +kernel
theorem dX10_fillWeek_38 : decode cX10_fillWeek 38 = .ok (.aload_n 0, 1) := by decide +kernel
theorem dX10_fillWeek_39 : decode cX10_fillWeek 39 = .ok (.getfield 18, 3) := by decide +kernel
theorem dX10_fillWeek_42 : decode cX10_fillWeek 42 = .ok (.iload 4, 2) := by decide +kernel
theorem dX10_fillWeek_44 : decode cX10_fillWeek 44 = .ok (.iaload, 1) := by decide +kernel
theorem dX10_fillWeek_45 : decode cX10_fillWeek 45 = .ok (.bipush (-2), 2) := by decide +kernel
theorem dX10_fillWeek_47 : decode cX10_fillWeek 47 = .ok (.if_icmp .ne 7, 3) := by decide +kernel
theorem dX10_fillWeek_50 : decode cX10_fillWeek 50 = .ok (.iconst 0, 1) := by decide +kernel
theorem dX10_fillWeek_51 : decode cX10_fillWeek 51 = .ok (.goto 4, 3) := by decide +kernel
theorem dX10_fillWeek_54 : decode cX10_fillWeek 54 = .ok (.iconst 1, 1) := by decide +kernel
theorem dX10_fillWeek_55 : decode cX10_fillWeek 55 = .ok (.isub, 1) := by decide +kernel
theorem dX10_fillWeek_56 : decode cX10_fillWeek 56 = .ok (.istore_n 3, 1) := by decide +kernel
theorem dX10_fillWeek_57 : decode cX10_fillWeek 57 = .ok (.iinc 4 1, 3) := by decide +kernel
theorem dX10_fillWeek_60 : decode cX10_fillWeek 60 = .ok (.goto (-44), 3) := by decide +kernel
theorem dX10_fillWeek_63 : decode cX10_fillWeek 63 = .ok (.aload_n 0, 1) := by decide +kernel
theorem dX10_fillWeek_64 : decode cX10_fillWeek 64 = .ok (.iconst 1, 1) := by decide +kernel
theorem dX10_fillWeek_65 : decode cX10_fillWeek 65 = .ok (.putfield 21, 3) := by decide +kernel
theorem dX10_fillWeek_68 : decode cX10_fillWeek 68 = .ok (.iload_n 2, 1) := by decide +kernel
theorem dX10_fillWeek_69 : decode cX10_fillWeek 69 = .ok (.ireturn, 1) := by decide +kernel
theorem dX10_noteWishers_0 : decode cX10_noteWishers 0 = .ok (.aload_n 0, 1) := by decide +kernel
theorem dX10_noteWishers_1 : decode cX10_noteWishers 1 = .ok (.getfield 9, 3) := by decide +kernel
theorem dX10_noteWishers_4 : decode cX10_noteWishers 4 = .ok (.iconst 0, 1) := by decide +kernel
theorem dX10_noteWishers_5 : decode cX10_noteWishers 5 = .ok (.invokestatic 37, 3) := by decide +kernel
theorem dX10_noteWishers_8 : decode cX10_noteWishers 8 = .ok (.iconst 0, 1) := by decide +kernel
theorem dX10_noteWishers_9 : decode cX10_noteWishers 9 = .ok (.istore_n 2, 1) := by decide +kernel
theorem dX10_noteWishers_10 : decode cX10_noteWishers 10 = .ok (.iload_n 2, 1) := by decide +kernel
theorem dX10_noteWishers_11 : decode cX10_noteWishers 11 = .ok (.aload_n 1, 1) := by decide +kernel
theorem dX10_noteWishers_12 : decode cX10_noteWishers 12 = .ok (.bipush 7, 2) := by decide +kernel
theorem dX10_noteWishers_14 : decode cX10_noteWishers 14 = .ok (.invokevirtual 43, 3) := by decide +kernel
theorem dX10_noteWishers_17 : decode cX10_noteWishers 17 = .ok (.if_icmp .ge 66, 3) := by decide +kernel
theorem dX10_noteWishers_20 : decode cX10_noteWishers 20 = .ok (.iconst 0, 1) := by decide +kernel
theorem dX10_noteWishers_21 : decode cX10_noteWishers 21 = .ok (.istore_n 3, 1) := by decide +kernel
theorem dX10_noteWishers_22 : decode cX10_noteWishers 22 = .ok (.iload_n 3, 1) := by decide +kernel
theorem dX10_noteWishers_23 : decode cX10_noteWishers 23 = .ok (.bipush 7, 2) := by decide +kernel
theorem dX10_noteWishers_25 : decode cX10_noteWishers 25 = .ok (.if_icmp .ge 52, 3) := by decide +kernel
theorem dX10_noteWishers_28 : decode cX10_noteWishers 28 = .ok (.aload_n 1, 1) := by decide +kernel
theorem dX10_noteWishers_29 : decode cX10_noteWishers 29 = .ok (.bipush 7, 2) := by decide +kernel
theorem dX10_noteWishers_31 : decode cX10_noteWishers 31 = .ok (.iload_n 2, 1) := by decide +kernel
theorem dX10_noteWishers_32 : decode cX10_noteWishers 32 = .ok (.iconst 0, 1) := by decide +kernel
theorem dX10_noteWishers_33 : decode cX10_noteWishers 33 = .ok (.invokevirtual 49, 3) := by decide +kernel
theorem dX10_noteWishers_36 : decode cX10_noteWishers 36 = .ok (.iconst 1, 1) := by decide +kernel
theorem dX10_noteWishers_37 : decode cX10_noteWishers 37 = .ok (.iload_n 3, 1) := by decide +kernel
theorem dX10_noteWishers_38 : decode cX10_noteWishers 38 = .ok (.ishl, 1) := by decide +kernel
theorem dX10_noteWishers_39 : decode cX10_noteWishers 39 = .ok (.iand, 1) := by decide +kernel
theorem dX10_noteWishers_40 : decode cX10_noteWishers 40 = .ok (.ifCond .eq 7, 3) := by decide +kernel
theorem dX10_noteWishers_43 : decode cX10_noteWishers 43 = .ok (.iconst 1, 1) := by decide +kernel
theorem dX10_noteWishers_44 : decode cX10_noteWishers 44 = .ok (.goto 4, 3) := by decide +kernel
theorem dX10_noteWishers_47 : decode cX10_noteWishers 47 = .ok (.iconst 0, 1) := by decide +kernel
theorem dX10_noteWishers_48 : decode cX10_noteWishers 48 = .ok (.istore 4, 2) := by decide +kernel
theorem dX10_noteWishers_50 : decode cX10_noteWishers 50 = .ok (.aload_n 0, 1) := by decide +kernel
theorem dX10_noteWishers_51 : decode cX10_noteWishers 51 = .ok (.getfield 9, 3) := by decide +kernel
theorem dX10_noteWishers_54 : decode cX10_noteWishers 54 = .ok (.iload_n 3, 1) := by decide +kernel
theorem dX10_noteWishers_55 : decode cX10_noteWishers 55 = .ok (.dup2, 1) := by decide +kernel
theorem dX10_noteWishers_56 : decode cX10_noteWishers 56 = .ok (.iaload, 1) := by decide +kernel
theorem dX10_noteWishers_57 : decode cX10_noteWishers 57 = .ok (.iload 4, 2) := by decide +kernel
theorem dX10_noteWishers_59 : decode cX10_noteWishers 59 = .ok (.ifCond .eq 9, 3) := by decide +kernel
theorem dX10_noteWishers_62 : decode cX10_noteWishers 62 = .ok (.iconst 1, 1) := by decide +kernel
theorem dX10_noteWishers_63 : decode cX10_noteWishers 63 = .ok (.iload_n 2, 1) := by decide +kernel
theorem dX10_noteWishers_64 : decode cX10_noteWishers 64 = .ok (.ishl, 1) := by decide +kernel
theorem dX10_noteWishers_65 : decode cX10_noteWishers 65 = .ok (.goto 4, 3) := by decide +kernel
theorem dX10_noteWishers_68 : decode cX10_noteWishers 68 = .ok (.iconst 0, 1) := by decide +kernel
theorem dX10_noteWishers_69 : decode cX10_noteWishers 69 = .ok (.ior, 1) := by decide +kernel
theorem dX10_noteWishers_70 : decode cX10_noteWishers 70 = .ok (.iastore, 1) := by decide +kernel
theorem dX10_noteWishers_71 : decode cX10_noteWishers 71 = .ok (.iinc 3 1, 3) := by decide +kernel
theorem dX10_noteWishers_74 : decode cX10_noteWishers 74 = .ok (.goto (-52), 3) := by decide +kernel
theorem dX10_noteWishers_77 : decode cX10_noteWishers 77 = .ok (.iinc 2 1, 3) := by decide +kernel
theorem dX10_noteWishers_80 : decode cX10_noteWishers 80 = .ok (.goto (-70), 3) := by decide +kernel
theorem dX10_noteWishers_83 : decode cX10_noteWishers 83 = .ok (.return_, 1) := by decide +kernel
theorem dX10_capForFewest_0 : decode cX10_capForFewest 0 = .ok (.aload_n 0, 1) := by decide +kernel
theorem dX10_capForFewest_1 : decode cX10_capForFewest 1 = .ok (.aload_n 1, 1) := by decide +kernel
theorem dX10_capForFewest_2 : decode cX10_capForFewest 2 = .ok (.bipush 7, 2) := by decide +kernel
theorem dX10_capForFewest_4 : decode cX10_capForFewest 4 = .ok (.invokevirtual 53, 3) := by decide +kernel
theorem dX10_capForFewest_7 : decode cX10_capForFewest 7 = .ok (.aload_n 0, 1) := by decide +kernel
theorem dX10_capForFewest_8 : decode cX10_capForFewest 8 = .ok (.iconst 0, 1) := by decide +kernel
theorem dX10_capForFewest_9 : decode cX10_capForFewest 9 = .ok (.invokevirtual 57, 3) := by decide +kernel
theorem dX10_capForFewest_12 : decode cX10_capForFewest 12 = .ok (.istore_n 2, 1) := by decide +kernel
theorem dX10_capForFewest_13 : decode cX10_capForFewest 13 = .ok (.iconst 0, 1) := by decide +kernel
theorem dX10_capForFewest_14 : decode cX10_capForFewest 14 = .ok (.istore_n 3, 1) := by decide +kernel
theorem dX10_capForFewest_15 : decode cX10_capForFewest 15 = .ok (.iload_n 3, 1) := by decide +kernel
theorem dX10_capForFewest_16 : decode cX10_capForFewest 16 = .ok (.bipush 7, 2) := by decide +kernel
theorem dX10_capForFewest_18 : decode cX10_capForFewest 18 = .ok (.if_icmp .ge 26, 3) := by decide +kernel
theorem dX10_capForFewest_21 : decode cX10_capForFewest 21 = .ok (.aload_n 0, 1) := by decide +kernel
theorem dX10_capForFewest_22 : decode cX10_capForFewest 22 = .ok (.aload_n 1, 1) := by decide +kernel
theorem dX10_capForFewest_23 : decode cX10_capForFewest 23 = .ok (.iload_n 3, 1) := by decide +kernel
theorem dX10_capForFewest_24 : decode cX10_capForFewest 24 = .ok (.invokevirtual 53, 3) := by decide +kernel
theorem dX10_capForFewest_27 : decode cX10_capForFewest 27 = .ok (.aload_n 0, 1) := by decide +kernel
theorem dX10_capForFewest_28 : decode cX10_capForFewest 28 = .ok (.iconst 0, 1) := by decide +kernel
theorem dX10_capForFewest_29 : decode cX10_capForFewest 29 = .ok (.invokevirtual 57, 3) := by decide +kernel
theorem dX10_capForFewest_32 : decode cX10_capForFewest 32 = .ok (.iload_n 2, 1) := by decide +kernel
theorem dX10_capForFewest_33 : decode cX10_capForFewest 33 = .ok (.if_icmp .ne 5, 3) := by decide +kernel
theorem dX10_capForFewest_36 : decode cX10_capForFewest 36 = .ok (.iload_n 2, 1) := by decide +kernel
theorem dX10_capForFewest_37 : decode cX10_capForFewest 37 = .ok (.ireturn, 1) := by decide +kernel
theorem dX10_capForFewest_38 : decode cX10_capForFewest 38 = .ok (.iinc 3 1, 3) := by decide +kernel
theorem dX10_capForFewest_41 : decode cX10_capForFewest 41 = .ok (.goto (-26), 3) := by decide +kernel
theorem dX10_capForFewest_44 : decode cX10_capForFewest 44 = .ok (.aload_n 0, 1) := by decide +kernel
theorem dX10_capForFewest_45 : decode cX10_capForFewest 45 = .ok (.aload_n 1, 1) := by decide +kernel
theorem dX10_capForFewest_46 : decode cX10_capForFewest 46 = .ok (.bipush 7, 2) := by decide +kernel
theorem dX10_capForFewest_48 : decode cX10_capForFewest 48 = .ok (.invokevirtual 53, 3) := by decide +kernel
theorem dX10_capForFewest_51 : decode cX10_capForFewest 51 = .ok (.iload_n 2, 1) := by decide +kernel
theorem dX10_capForFewest_52 : decode cX10_capForFewest 52 = .ok (.ireturn, 1) := by decide +kernel
theorem dX10_capAt_0 : decode cX10_capAt 0 = .ok (.iconst 0, 1) := by decide +kernel
theorem dX10_capAt_1 : decode cX10_capAt 1 = .ok (.istore_n 3, 1) := by decide +kernel
theorem dX10_capAt_2 : decode cX10_capAt 2 = .ok (.iload_n 3, 1) := by decide +kernel
theorem dX10_capAt_3 : decode cX10_capAt 3 = .ok (.iconst 5, 1) := by decide +kernel
theorem dX10_capAt_4 : decode cX10_capAt 4 = .ok (.if_icmp .ge 27, 3) := by decide +kernel
theorem dX10_capAt_7 : decode cX10_capAt 7 = .ok (.aload_n 0, 1) := by decide +kernel
theorem dX10_capAt_8 : decode cX10_capAt 8 = .ok (.getfield 15, 3) := by decide +kernel
theorem dX10_capAt_11 : decode cX10_capAt 11 = .ok (.iload_n 3, 1) := by decide +kernel
theorem dX10_capAt_12 : decode cX10_capAt 12 = .ok (.iload_n 2, 1) := by decide +kernel
theorem dX10_capAt_13 : decode cX10_capAt 13 = .ok (.aload_n 1, 1) := by decide +kernel
theorem dX10_capAt_14 : decode cX10_capAt 14 = .ok (.bipush 7, 2) := by decide +kernel
theorem dX10_capAt_16 : decode cX10_capAt 16 = .ok (.iload_n 3, 1) := by decide +kernel
theorem dX10_capAt_17 : decode cX10_capAt 17 = .ok (.iconst 1, 1) := by decide +kernel
theorem dX10_capAt_18 : decode cX10_capAt 18 = .ok (.invokevirtual 49, 3) := by decide +kernel
theorem dX10_capAt_21 : decode cX10_capAt 21 = .ok (.invokestatic 60, 3) := by decide +kernel
theorem dX10_capAt_24 : decode cX10_capAt 24 = .ok (.iastore, 1) := by decide +kernel
theorem dX10_capAt_25 : decode cX10_capAt 25 = .ok (.iinc 3 1, 3) := by decide +kernel
theorem dX10_capAt_28 : decode cX10_capAt 28 = .ok (.goto (-26), 3) := by decide +kernel
theorem dX10_capAt_31 : decode cX10_capAt 31 = .ok (.return_, 1) := by decide +kernel
theorem dX10_firstFor_0 : decode cX10_firstFor 0 = .ok (.iconst 0, 1) := by decide +kernel
theorem dX10_firstFor_1 : decode cX10_firstFor 1 = .ok (.istore_n 3, 1) := by decide +kernel
theorem dX10_firstFor_2 : decode cX10_firstFor 2 = .ok (.iload_n 3, 1) := by decide +kernel
theorem dX10_firstFor_3 : decode cX10_firstFor 3 = .ok (.iconst 5, 1) := by decide +kernel
theorem dX10_firstFor_4 : decode cX10_firstFor 4 = .ok (.if_icmp .ge 66, 3) := by decide +kernel
theorem dX10_firstFor_7 : decode cX10_firstFor 7 = .ok (.aload_n 0, 1) := by decide +kernel
theorem dX10_firstFor_8 : decode cX10_firstFor 8 = .ok (.getfield 9, 3) := by decide +kernel
theorem dX10_firstFor_11 : decode cX10_firstFor 11 = .ok (.iload_n 1, 1) := by decide +kernel
theorem dX10_firstFor_12 : decode cX10_firstFor 12 = .ok (.iaload, 1) := by decide +kernel
theorem dX10_firstFor_13 : decode cX10_firstFor 13 = .ok (.iconst 1, 1) := by decide +kernel
theorem dX10_firstFor_14 : decode cX10_firstFor 14 = .ok (.iload_n 3, 1) := by decide +kernel
theorem dX10_firstFor_15 : decode cX10_firstFor 15 = .ok (.ishl, 1) := by decide +kernel
theorem dX10_firstFor_16 : decode cX10_firstFor 16 = .ok (.iand, 1) := by decide +kernel
theorem dX10_firstFor_17 : decode cX10_firstFor 17 = .ok (.ifCond .eq 47, 3) := by decide +kernel
theorem dX10_firstFor_20 : decode cX10_firstFor 20 = .ok (.aload_n 0, 1) := by decide +kernel
theorem dX10_firstFor_21 : decode cX10_firstFor 21 = .ok (.getfield 15, 3) := by decide +kernel
theorem dX10_firstFor_24 : decode cX10_firstFor 24 = .ok (.iload_n 3, 1) := by decide +kernel
theorem dX10_firstFor_25 : decode cX10_firstFor 25 = .ok (.iaload, 1) := by decide +kernel
theorem dX10_firstFor_26 : decode cX10_firstFor 26 = .ok (.ifCond .le 38, 3) := by decide +kernel
theorem dX10_firstFor_29 : decode cX10_firstFor 29 = .ok (.aload_n 0, 1) := by decide +kernel
theorem dX10_firstFor_30 : decode cX10_firstFor 30 = .ok (.getfield 15, 3) := by decide +kernel
theorem dX10_firstFor_33 : decode cX10_firstFor 33 = .ok (.iload_n 3, 1) := by decide +kernel
theorem dX10_firstFor_34 : decode cX10_firstFor 34 = .ok (.dup2, 1) := by decide +kernel
theorem dX10_firstFor_35 : decode cX10_firstFor 35 = .ok (.iaload, 1) := by decide +kernel
theorem dX10_firstFor_36 : decode cX10_firstFor 36 = .ok (.iconst 1, 1) := by decide +kernel
theorem dX10_firstFor_37 : decode cX10_firstFor 37 = .ok (.isub, 1) := by decide +kernel
theorem dX10_firstFor_38 : decode cX10_firstFor 38 = .ok (.iastore, 1) := by decide +kernel
theorem dX10_firstFor_39 : decode cX10_firstFor 39 = .ok (.aload_n 0, 1) := by decide +kernel
theorem dX10_firstFor_40 : decode cX10_firstFor 40 = .ok (.iload_n 1, 1) := by decide +kernel
theorem dX10_firstFor_41 : decode cX10_firstFor 41 = .ok (.iconst 1, 1) := by decide +kernel
theorem dX10_firstFor_42 : decode cX10_firstFor 42 = .ok (.iadd, 1) := by decide +kernel
theorem dX10_firstFor_43 : decode cX10_firstFor 43 = .ok (.invokevirtual 57, 3) := by decide +kernel
theorem dX10_firstFor_46 : decode cX10_firstFor 46 = .ok (.iload_n 2, 1) := by decide +kernel
theorem dX10_firstFor_47 : decode cX10_firstFor 47 = .ok (.iconst 1, 1) := by decide +kernel
theorem dX10_firstFor_48 : decode cX10_firstFor 48 = .ok (.isub, 1) := by decide +kernel
theorem dX10_firstFor_49 : decode cX10_firstFor 49 = .ok (.if_icmp .lt 5, 3) := by decide +kernel
theorem dX10_firstFor_52 : decode cX10_firstFor 52 = .ok (.iload_n 3, 1) := by decide +kernel
theorem dX10_firstFor_53 : decode cX10_firstFor 53 = .ok (.ireturn, 1) := by decide +kernel
theorem dX10_firstFor_54 : decode cX10_firstFor 54 = .ok (.aload_n 0, 1) := by decide +kernel
theorem dX10_firstFor_55 : decode cX10_firstFor 55 = .ok (.getfield 15, 3) := by decide +kernel
theorem dX10_firstFor_58 : decode cX10_firstFor 58 = .ok (.iload_n 3, 1) := by decide +kernel
theorem dX10_firstFor_59 : decode cX10_firstFor 59 = .ok (.dup2, 1) := by decide +kernel
theorem dX10_firstFor_60 : decode cX10_firstFor 60 = .ok (.iaload, 1) := by decide +kernel
theorem dX10_firstFor_61 : decode cX10_firstFor 61 = .ok (.iconst 1, 1) := by decide +kernel
theorem dX10_firstFor_62 : decode cX10_firstFor 62 = .ok (.iadd, 1) := by decide +kernel
theorem dX10_firstFor_63 : decode cX10_firstFor 63 = .ok (.iastore, 1) := by decide +kernel
theorem dX10_firstFor_64 : decode cX10_firstFor 64 = .ok (.iinc 3 1, 3) := by decide +kernel
theorem dX10_firstFor_67 : decode cX10_firstFor 67 = .ok (.goto (-65), 3) := by decide +kernel
theorem dX10_firstFor_70 : decode cX10_firstFor 70 = .ok (.bipush (-2), 2) := by decide +kernel
theorem dX10_firstFor_72 : decode cX10_firstFor 72 = .ok (.ireturn, 1) := by decide +kernel
theorem dX10_mostFrom_0 : decode cX10_mostFrom 0 = .ok (.bipush 7, 2) := by decide +kernel
theorem dX10_mostFrom_2 : decode cX10_mostFrom 2 = .ok (.istore_n 2, 1) := by decide +kernel
theorem dX10_mostFrom_3 : decode cX10_mostFrom 3 = .ok (.iconst 0, 1) := by decide +kernel
theorem dX10_mostFrom_4 : decode cX10_mostFrom 4 = .ok (.istore_n 3, 1) := by decide +kernel
theorem dX10_mostFrom_5 : decode cX10_mostFrom 5 = .ok (.iload_n 3, 1) := by decide +kernel
theorem dX10_mostFrom_6 : decode cX10_mostFrom 6 = .ok (.bipush 32, 2) := by decide +kernel
theorem dX10_mostFrom_8 : decode cX10_mostFrom 8 = .ok (.if_icmp .ge 103, 3) := by decide +kernel
theorem dX10_mostFrom_11 : decode cX10_mostFrom 11 = .ok (.iconst 0, 1) := by decide +kernel
theorem dX10_mostFrom_12 : decode cX10_mostFrom 12 = .ok (.istore 4, 2) := by decide +kernel
theorem dX10_mostFrom_14 : decode cX10_mostFrom 14 = .ok (.iconst 0, 1) := by decide +kernel
theorem dX10_mostFrom_15 : decode cX10_mostFrom 15 = .ok (.istore 5, 2) := by decide +kernel
theorem dX10_mostFrom_17 : decode cX10_mostFrom 17 = .ok (.iload 5, 2) := by decide +kernel
theorem dX10_mostFrom_19 : decode cX10_mostFrom 19 = .ok (.iconst 5, 1) := by decide +kernel
theorem dX10_mostFrom_20 : decode cX10_mostFrom 20 = .ok (.if_icmp .ge 34, 3) := by decide +kernel
theorem dX10_mostFrom_23 : decode cX10_mostFrom 23 = .ok (.iload 4, 2) := by decide +kernel
theorem dX10_mostFrom_25 : decode cX10_mostFrom 25 = .ok (.iload_n 3, 1) := by decide +kernel
theorem dX10_mostFrom_26 : decode cX10_mostFrom 26 = .ok (.iconst 1, 1) := by decide +kernel
theorem dX10_mostFrom_27 : decode cX10_mostFrom 27 = .ok (.iload 5, 2) := by decide +kernel
theorem dX10_mostFrom_29 : decode cX10_mostFrom 29 = .ok (.ishl, 1) := by decide +kernel
theorem dX10_mostFrom_30 : decode cX10_mostFrom 30 = .ok (.iand, 1) := by decide +kernel
theorem dX10_mostFrom_31 : decode cX10_mostFrom 31 = .ok (.ifCond .eq 13, 3) := by decide +kernel
theorem dX10_mostFrom_34 : decode cX10_mostFrom 34 = .ok (.aload_n 0, 1) := by decide +kernel
theorem dX10_mostFrom_35 : decode cX10_mostFrom 35 = .ok (.getfield 15, 3) := by decide +kernel
theorem dX10_mostFrom_38 : decode cX10_mostFrom 38 = .ok (.iload 5, 2) := by decide +kernel
theorem dX10_mostFrom_40 : decode cX10_mostFrom 40 = .ok (.iaload, 1) := by decide +kernel
theorem dX10_mostFrom_41 : decode cX10_mostFrom 41 = .ok (.goto 4, 3) := by decide +kernel
theorem dX10_mostFrom_44 : decode cX10_mostFrom 44 = .ok (.iconst 0, 1) := by decide +kernel
theorem dX10_mostFrom_45 : decode cX10_mostFrom 45 = .ok (.iadd, 1) := by decide +kernel
theorem dX10_mostFrom_46 : decode cX10_mostFrom 46 = .ok (.istore 4, 2) := by decide +kernel
theorem dX10_mostFrom_48 : decode cX10_mostFrom 48 = .ok (.iinc 5 1, 3) := by decide +kernel
theorem dX10_mostFrom_51 : decode cX10_mostFrom 51 = .ok (.goto (-34), 3) := by decide +kernel
theorem dX10_mostFrom_54 : decode cX10_mostFrom 54 = .ok (.iconst 0, 1) := by decide +kernel
theorem dX10_mostFrom_55 : decode cX10_mostFrom 55 = .ok (.iload_n 1, 1) := by decide +kernel
theorem dX10_mostFrom_56 : decode cX10_mostFrom 56 = .ok (.invokestatic 65, 3) := by decide +kernel
theorem dX10_mostFrom_59 : decode cX10_mostFrom 59 = .ok (.istore 5, 2) := by decide +kernel
theorem dX10_mostFrom_61 : decode cX10_mostFrom 61 = .ok (.iload 5, 2) := by decide +kernel
theorem dX10_mostFrom_63 : decode cX10_mostFrom 63 = .ok (.bipush 7, 2) := by decide +kernel
theorem dX10_mostFrom_65 : decode cX10_mostFrom 65 = .ok (.if_icmp .ge 33, 3) := by decide +kernel
theorem dX10_mostFrom_68 : decode cX10_mostFrom 68 = .ok (.iload 4, 2) := by decide +kernel
theorem dX10_mostFrom_70 : decode cX10_mostFrom 70 = .ok (.aload_n 0, 1) := by decide +kernel
theorem dX10_mostFrom_71 : decode cX10_mostFrom 71 = .ok (.getfield 9, 3) := by decide +kernel
theorem dX10_mostFrom_74 : decode cX10_mostFrom 74 = .ok (.iload 5, 2) := by decide +kernel
theorem dX10_mostFrom_76 : decode cX10_mostFrom 76 = .ok (.iaload, 1) := by decide +kernel
theorem dX10_mostFrom_77 : decode cX10_mostFrom 77 = .ok (.iload_n 3, 1) := by decide +kernel
theorem dX10_mostFrom_78 : decode cX10_mostFrom 78 = .ok (.iconst (-1), 1) := by decide +kernel
theorem dX10_mostFrom_79 : decode cX10_mostFrom 79 = .ok (.ixor, 1) := by decide +kernel
theorem dX10_mostFrom_80 : decode cX10_mostFrom 80 = .ok (.iand, 1) := by decide +kernel
theorem dX10_mostFrom_81 : decode cX10_mostFrom 81 = .ok (.ifCond .eq 7, 3) := by decide +kernel
theorem dX10_mostFrom_84 : decode cX10_mostFrom 84 = .ok (.iconst 1, 1) := by decide +kernel
theorem dX10_mostFrom_85 : decode cX10_mostFrom 85 = .ok (.goto 4, 3) := by decide +kernel
theorem dX10_mostFrom_88 : decode cX10_mostFrom 88 = .ok (.iconst 0, 1) := by decide +kernel
theorem dX10_mostFrom_89 : decode cX10_mostFrom 89 = .ok (.iadd, 1) := by decide +kernel
theorem dX10_mostFrom_90 : decode cX10_mostFrom 90 = .ok (.istore 4, 2) := by decide +kernel
theorem dX10_mostFrom_92 : decode cX10_mostFrom 92 = .ok (.iinc 5 1, 3) := by decide +kernel
theorem dX10_mostFrom_95 : decode cX10_mostFrom 95 = .ok (.goto (-34), 3) := by decide +kernel
theorem dX10_mostFrom_98 : decode cX10_mostFrom 98 = .ok (.iload_n 2, 1) := by decide +kernel
theorem dX10_mostFrom_99 : decode cX10_mostFrom 99 = .ok (.iload 4, 2) := by decide +kernel
theorem dX10_mostFrom_101 : decode cX10_mostFrom 101 = .ok (.invokestatic 60, 3) := by decide +kernel
theorem dX10_mostFrom_104 : decode cX10_mostFrom 104 = .ok (.istore_n 2, 1) := by decide +kernel
theorem dX10_mostFrom_105 : decode cX10_mostFrom 105 = .ok (.iinc 3 1, 3) := by decide +kernel
theorem dX10_mostFrom_108 : decode cX10_mostFrom 108 = .ok (.goto (-103), 3) := by decide +kernel
theorem dX10_mostFrom_111 : decode cX10_mostFrom 111 = .ok (.iload_n 2, 1) := by decide +kernel
theorem dX10_mostFrom_112 : decode cX10_mostFrom 112 = .ok (.ireturn, 1) := by decide +kernel
theorem dX11_init_0 : decode cX11_init 0 = .ok (.aload_n 0, 1) := by decide +kernel
theorem dX11_init_1 : decode cX11_init 1 = .ok (.invokespecial 1, 3) := by decide +kernel
theorem dX11_init_4 : decode cX11_init 4 = .ok (.aload_n 0, 1) := by decide +kernel
theorem dX11_init_5 : decode cX11_init 5 = .ok (.new 7, 3) := by decide +kernel
theorem dX11_init_8 : decode cX11_init 8 = .ok (.dup, 1) := by decide +kernel
theorem dX11_init_9 : decode cX11_init 9 = .ok (.invokespecial 9, 3) := by decide +kernel
theorem dX11_init_12 : decode cX11_init 12 = .ok (.putfield 10, 3) := by decide +kernel
theorem dX11_init_15 : decode cX11_init 15 = .ok (.aload_n 0, 1) := by decide +kernel
theorem dX11_init_16 : decode cX11_init 16 = .ok (.new 16, 3) := by decide +kernel
theorem dX11_init_19 : decode cX11_init 19 = .ok (.dup, 1) := by decide +kernel
theorem dX11_init_20 : decode cX11_init 20 = .ok (.invokespecial 18, 3) := by decide +kernel
theorem dX11_init_23 : decode cX11_init 23 = .ok (.putfield 19, 3) := by decide +kernel
theorem dX11_init_26 : decode cX11_init 26 = .ok (.aload_n 0, 1) := by decide +kernel
theorem dX11_init_27 : decode cX11_init 27 = .ok (.new 23, 3) := by decide +kernel
theorem dX11_init_30 : decode cX11_init 30 = .ok (.dup, 1) := by decide +kernel
theorem dX11_init_31 : decode cX11_init 31 = .ok (.invokespecial 25, 3) := by decide +kernel
theorem dX11_init_34 : decode cX11_init 34 = .ok (.putfield 26, 3) := by decide +kernel
theorem dX11_init_37 : decode cX11_init 37 = .ok (.aload_n 0, 1) := by decide +kernel
theorem dX11_init_38 : decode cX11_init 38 = .ok (.new 30, 3) := by decide +kernel
theorem dX11_init_41 : decode cX11_init 41 = .ok (.dup, 1) := by decide +kernel
theorem dX11_init_42 : decode cX11_init 42 = .ok (.invokespecial 32, 3) := by decide +kernel
theorem dX11_init_45 : decode cX11_init 45 = .ok (.putfield 33, 3) := by decide +kernel
theorem dX11_init_48 : decode cX11_init 48 = .ok (.aload_n 0, 1) := by decide +kernel
theorem dX11_init_49 : decode cX11_init 49 = .ok (.new 37, 3) := by decide +kernel
theorem dX11_init_52 : decode cX11_init 52 = .ok (.dup, 1) := by decide +kernel
theorem dX11_init_53 : decode cX11_init 53 = .ok (.invokespecial 39, 3) := by decide +kernel
theorem dX11_init_56 : decode cX11_init 56 = .ok (.putfield 40, 3) := by decide +kernel
theorem dX11_init_59 : decode cX11_init 59 = .ok (.aload_n 0, 1) := by decide +kernel
theorem dX11_init_60 : decode cX11_init 60 = .ok (.new 44, 3) := by decide +kernel
theorem dX11_init_63 : decode cX11_init 63 = .ok (.dup, 1) := by decide +kernel
theorem dX11_init_64 : decode cX11_init 64 = .ok (.invokespecial 46, 3) := by decide +kernel
theorem dX11_init_67 : decode cX11_init 67 = .ok (.putfield 47, 3) := by decide +kernel
theorem dX11_init_70 : decode cX11_init 70 = .ok (.aload_n 0, 1) := by decide +kernel
theorem dX11_init_71 : decode cX11_init 71 = .ok (.new 51, 3) := by decide +kernel
theorem dX11_init_74 : decode cX11_init 74 = .ok (.dup, 1) := by decide +kernel
theorem dX11_init_75 : decode cX11_init 75 = .ok (.invokespecial 53, 3) := by decide +kernel
theorem dX11_init_78 : decode cX11_init 78 = .ok (.putfield 54, 3) := by decide +kernel
theorem dX11_init_81 : decode cX11_init 81 = .ok (.aload_n 0, 1) := by decide +kernel
theorem dX11_init_82 : decode cX11_init 82 = .ok (.new 58, 3) := by decide +kernel
theorem dX11_init_85 : decode cX11_init 85 = .ok (.dup, 1) := by decide +kernel
theorem dX11_init_86 : decode cX11_init 86 = .ok (.invokespecial 60, 3) := by decide +kernel
theorem dX11_init_89 : decode cX11_init 89 = .ok (.putfield 61, 3) := by decide +kernel
theorem dX11_init_92 : decode cX11_init 92 = .ok (.aload_n 0, 1) := by decide +kernel
theorem dX11_init_93 : decode cX11_init 93 = .ok (.new 65, 3) := by decide +kernel
theorem dX11_init_96 : decode cX11_init 96 = .ok (.dup, 1) := by decide +kernel
theorem dX11_init_97 : decode cX11_init 97 = .ok (.invokespecial 67, 3) := by decide +kernel
theorem dX11_init_100 : decode cX11_init 100 = .ok (.putfield 68, 3) := by decide +kernel
theorem dX11_init_103 : decode cX11_init 103 = .ok (.aload_n 0, 1) := by decide +kernel
theorem dX11_init_104 : decode cX11_init 104 = .ok (.new 72, 3) := by decide +kernel
theorem dX11_init_107 : decode cX11_init 107 = .ok (.dup, 1) := by decide +kernel
theorem dX11_init_108 : decode cX11_init 108 = .ok (.invokespecial 74, 3) := by decide +kernel
theorem dX11_init_111 : decode cX11_init 111 = .ok (.putfield 75, 3) := by decide +kernel
theorem dX11_init_114 : decode cX11_init 114 = .ok (.aload_n 0, 1) := by decide +kernel
theorem dX11_init_115 : decode cX11_init 115 = .ok (.iconst 0, 1) := by decide +kernel
theorem dX11_init_116 : decode cX11_init 116 = .ok (.putfield 79, 3) := by decide +kernel
theorem dX11_init_119 : decode cX11_init 119 = .ok (.return_, 1) := by decide +kernel
theorem dX11_feed_0 : decode cX11_feed 0 = .ok (.aload_n 0, 1) := by decide +kernel
theorem dX11_feed_1 : decode cX11_feed 1 = .ok (.getfield 10, 3) := by decide +kernel
theorem dX11_feed_4 : decode cX11_feed 4 = .ok (.getfield 83, 3) := by decide +kernel
theorem dX11_feed_7 : decode cX11_feed 7 = .ok (.bipush 20, 2) := by decide +kernel
theorem dX11_feed_9 : decode cX11_feed 9 = .ok (.invokevirtual 87, 3) := by decide +kernel
theorem dX11_feed_12 : decode cX11_feed 12 = .ok (.ifCond .ne 5, 3) := by decide +kernel
theorem dX11_feed_15 : decode cX11_feed 15 = .ok (.iconst (-1), 1) := by decide +kernel
theorem dX11_feed_16 : decode cX11_feed 16 = .ok (.ireturn, 1) := by decide +kernel
theorem dX11_feed_17 : decode cX11_feed 17 = .ok (.aload_n 0, 1) := by decide +kernel
theorem dX11_feed_18 : decode cX11_feed 18 = .ok (.getfield 10, 3) := by decide +kernel
theorem dX11_feed_21 : decode cX11_feed 21 = .ok (.getfield 83, 3) := by decide +kernel
theorem dX11_feed_24 : decode cX11_feed 24 = .ok (.iload_n 1, 1) := by decide +kernel
theorem dX11_feed_25 : decode cX11_feed 25 = .ok (.invokevirtual 93, 3) := by decide +kernel
theorem dX11_feed_28 : decode cX11_feed 28 = .ok (.aload_n 0, 1) := by decide +kernel
theorem dX11_feed_29 : decode cX11_feed 29 = .ok (.getfield 10, 3) := by decide +kernel
theorem dX11_feed_32 : decode cX11_feed 32 = .ok (.getfield 83, 3) := by decide +kernel
theorem dX11_feed_35 : decode cX11_feed 35 = .ok (.iload_n 2, 1) := by decide +kernel
theorem dX11_feed_36 : decode cX11_feed 36 = .ok (.invokevirtual 93, 3) := by decide +kernel
theorem dX11_feed_39 : decode cX11_feed 39 = .ok (.aload_n 0, 1) := by decide +kernel
theorem dX11_feed_40 : decode cX11_feed 40 = .ok (.getfield 10, 3) := by decide +kernel
theorem dX11_feed_43 : decode cX11_feed 43 = .ok (.getfield 83, 3) := by decide +kernel
theorem dX11_feed_46 : decode cX11_feed 46 = .ok (.iload_n 3, 1) := by decide +kernel
theorem dX11_feed_47 : decode cX11_feed 47 = .ok (.invokevirtual 93, 3) := by decide +kernel
theorem dX11_feed_50 : decode cX11_feed 50 = .ok (.aload_n 0, 1) := by decide +kernel
theorem dX11_feed_51 : decode cX11_feed 51 = .ok (.getfield 10, 3) := by decide +kernel
theorem dX11_feed_54 : decode cX11_feed 54 = .ok (.getfield 83, 3) := by decide +kernel
theorem dX11_feed_57 : decode cX11_feed 57 = .ok (.iload 4, 2) := by decide +kernel
theorem dX11_feed_59 : decode cX11_feed 59 = .ok (.invokevirtual 93, 3) := by decide +kernel
theorem dX11_feed_62 : decode cX11_feed 62 = .ok (.aload_n 0, 1) := by decide +kernel
theorem dX11_feed_63 : decode cX11_feed 63 = .ok (.getfield 10, 3) := by decide +kernel
theorem dX11_feed_66 : decode cX11_feed 66 = .ok (.getfield 83, 3) := by decide +kernel
theorem dX11_feed_69 : decode cX11_feed 69 = .ok (.iload 5, 2) := by decide +kernel
theorem dX11_feed_71 : decode cX11_feed 71 = .ok (.invokevirtual 93, 3) := by decide +kernel
theorem dX11_feed_74 : decode cX11_feed 74 = .ok (.aload_n 0, 1) := by decide +kernel
theorem dX11_feed_75 : decode cX11_feed 75 = .ok (.getfield 10, 3) := by decide +kernel
theorem dX11_feed_78 : decode cX11_feed 78 = .ok (.getfield 83, 3) := by decide +kernel
theorem dX11_feed_81 : decode cX11_feed 81 = .ok (.getfield 97, 3) := by decide +kernel
theorem dX11_feed_84 : decode cX11_feed 84 = .ok (.ireturn, 1) := by decide +kernel
theorem dX11_day_0 : decode cX11_day 0 = .ok (.iload_n 1, 1) := by decide +kernel
theorem dX11_day_1 : decode cX11_day 1 = .ok (.ifCond .lt 17, 3) := by decide +kernel
theorem dX11_day_4 : decode cX11_day 4 = .ok (.iload_n 1, 1) := by decide +kernel
theorem dX11_day_5 : decode cX11_day 5 = .ok (.aload_n 0, 1) := by decide +kernel
theorem dX11_day_6 : decode cX11_day 6 = .ok (.getfield 10, 3) := by decide +kernel
theorem dX11_day_9 : decode cX11_day 9 = .ok (.getfield 83, 3) := by decide +kernel
theorem dX11_day_12 : decode cX11_day 12 = .ok (.getfield 97, 3) := by decide +kernel
theorem dX11_day_15 : decode cX11_day 15 = .ok (.if_icmp .le 9, 3) := by decide +kernel
theorem dX11_day_18 : decode cX11_day 18 = .ok (.aload_n 0, 1) := by decide +kernel
theorem dX11_day_19 : decode cX11_day 19 = .ok (.iconst 2, 1) := by decide +kernel
theorem dX11_day_20 : decode cX11_day 20 = .ok (.invokevirtual 100, 3) := by decide +kernel
theorem dX11_day_23 : decode cX11_day 23 = .ok (.ireturn, 1) := by decide +kernel
theorem dX11_day_24 : decode cX11_day 24 = .ok (.aload_n 0, 1) := by decide +kernel
theorem dX11_day_25 : decode cX11_day 25 = .ok (.getfield 10, 3) := by decide +kernel
theorem dX11_day_28 : decode cX11_day 28 = .ok (.iload_n 1, 1) := by decide +kernel
theorem dX11_day_29 : decode cX11_day 29 = .ok (.invokevirtual 104, 3) := by decide +kernel
theorem dX11_day_32 : decode cX11_day 32 = .ok (.istore_n 2, 1) := by decide +kernel
theorem dX11_day_33 : decode cX11_day 33 = .ok (.aload_n 0, 1) := by decide +kernel
theorem dX11_day_34 : decode cX11_day 34 = .ok (.getfield 10, 3) := by decide +kernel
theorem dX11_day_37 : decode cX11_day 37 = .ok (.getfield 83, 3) := by decide +kernel
theorem dX11_day_40 : decode cX11_day 40 = .ok (.invokevirtual 107, 3) := by decide +kernel
theorem dX11_day_43 : decode cX11_day 43 = .ok (.iload_n 2, 1) := by decide +kernel
theorem dX11_day_44 : decode cX11_day 44 = .ok (.ifCond .ne 9, 3) := by decide +kernel
theorem dX11_day_47 : decode cX11_day 47 = .ok (.aload_n 0, 1) := by decide +kernel
theorem dX11_day_48 : decode cX11_day 48 = .ok (.iconst 4, 1) := by decide +kernel
theorem dX11_day_49 : decode cX11_day 49 = .ok (.invokevirtual 100, 3) := by decide +kernel
theorem dX11_day_52 : decode cX11_day 52 = .ok (.ireturn, 1) := by decide +kernel
theorem dX11_day_53 : decode cX11_day 53 = .ok (.aload_n 0, 1) := by decide +kernel
theorem dX11_day_54 : decode cX11_day 54 = .ok (.aload_n 0, 1) := by decide +kernel
theorem dX11_day_55 : decode cX11_day 55 = .ok (.getfield 10, 3) := by decide +kernel
theorem dX11_day_58 : decode cX11_day 58 = .ok (.aload_n 0, 1) := by decide +kernel
theorem dX11_day_59 : decode cX11_day 59 = .ok (.getfield 75, 3) := by decide +kernel
theorem dX11_day_62 : decode cX11_day 62 = .ok (.invokevirtual 110, 3) := by decide +kernel
theorem dX11_day_65 : decode cX11_day 65 = .ok (.putfield 75, 3) := by decide +kernel
theorem dX11_day_68 : decode cX11_day 68 = .ok (.aload_n 0, 1) := by decide +kernel
theorem dX11_day_69 : decode cX11_day 69 = .ok (.invokevirtual 114, 3) := by decide +kernel
theorem dX11_day_72 : decode cX11_day 72 = .ok (.aload_n 0, 1) := by decide +kernel
theorem dX11_day_73 : decode cX11_day 73 = .ok (.aload_n 0, 1) := by decide +kernel
theorem dX11_day_74 : decode cX11_day 74 = .ok (.getfield 75, 3) := by decide +kernel
theorem dX11_day_77 : decode cX11_day 77 = .ok (.iconst 3, 1) := by decide +kernel
theorem dX11_day_78 : decode cX11_day 78 = .ok (.invokevirtual 117, 3) := by decide +kernel
theorem dX11_day_81 : decode cX11_day 81 = .ok (.invokevirtual 120, 3) := by decide +kernel
theorem dX11_day_84 : decode cX11_day 84 = .ok (.ireturn, 1) := by decide +kernel
theorem dX11_fault_0 : decode cX11_fault 0 = .ok (.aload_n 0, 1) := by decide +kernel
theorem dX11_fault_1 : decode cX11_fault 1 = .ok (.getfield 10, 3) := by decide +kernel
theorem dX11_fault_4 : decode cX11_fault 4 = .ok (.getfield 123, 3) := by decide +kernel
theorem dX11_fault_7 : decode cX11_fault 7 = .ok (.ireturn, 1) := by decide +kernel
theorem dX11_where_0 : decode cX11_where 0 = .ok (.aload_n 0, 1) := by decide +kernel
theorem dX11_where_1 : decode cX11_where 1 = .ok (.getfield 79, 3) := by decide +kernel
theorem dX11_where_4 : decode cX11_where 4 = .ok (.iconst 4, 1) := by decide +kernel
theorem dX11_where_5 : decode cX11_where 5 = .ok (.if_icmp .ne 13, 3) := by decide +kernel
theorem dX11_where_8 : decode cX11_where 8 = .ok (.aload_n 0, 1) := by decide +kernel
theorem dX11_where_9 : decode cX11_where 9 = .ok (.getfield 10, 3) := by decide +kernel
theorem dX11_where_12 : decode cX11_where 12 = .ok (.getfield 126, 3) := by decide +kernel
theorem dX11_where_15 : decode cX11_where 15 = .ok (.goto 4, 3) := by decide +kernel
theorem dX11_where_18 : decode cX11_where 18 = .ok (.iconst (-1), 1) := by decide +kernel
theorem dX11_where_19 : decode cX11_where 19 = .ok (.ireturn, 1) := by decide +kernel
theorem dX11_drive_0 : decode cX11_drive 0 = .ok (.aload_n 0, 1) := by decide +kernel
theorem dX11_drive_1 : decode cX11_drive 1 = .ok (.getfield 75, 3) := by decide +kernel
theorem dX11_drive_4 : decode cX11_drive 4 = .ok (.iconst 4, 1) := by decide +kernel
theorem dX11_drive_5 : decode cX11_drive 5 = .ok (.iload_n 1, 1) := by decide +kernel
theorem dX11_drive_6 : decode cX11_drive 6 = .ok (.invokevirtual 129, 3) := by decide +kernel
theorem dX11_drive_9 : decode cX11_drive 9 = .ok (.ifCond .eq 15, 3) := by decide +kernel
theorem dX11_drive_12 : decode cX11_drive 12 = .ok (.aload_n 0, 1) := by decide +kernel
theorem dX11_drive_13 : decode cX11_drive 13 = .ok (.getfield 75, 3) := by decide +kernel
theorem dX11_drive_16 : decode cX11_drive 16 = .ok (.iconst 3, 1) := by decide +kernel
theorem dX11_drive_17 : decode cX11_drive 17 = .ok (.iload_n 2, 1) := by decide +kernel
theorem dX11_drive_18 : decode cX11_drive 18 = .ok (.invokevirtual 129, 3) := by decide +kernel
theorem dX11_drive_21 : decode cX11_drive 21 = .ok (.ifCond .ne 9, 3) := by decide +kernel
theorem dX11_drive_24 : decode cX11_drive 24 = .ok (.aload_n 0, 1) := by decide +kernel
theorem dX11_drive_25 : decode cX11_drive 25 = .ok (.iconst 1, 1) := by decide +kernel
theorem dX11_drive_26 : decode cX11_drive 26 = .ok (.invokevirtual 100, 3) := by decide +kernel
theorem dX11_drive_29 : decode cX11_drive 29 = .ok (.ireturn, 1) := by decide +kernel
theorem dX11_drive_30 : decode cX11_drive 30 = .ok (.aload_n 0, 1) := by decide +kernel
theorem dX11_drive_31 : decode cX11_drive 31 = .ok (.getfield 19, 3) := by decide +kernel
theorem dX11_drive_34 : decode cX11_drive 34 = .ok (.iload_n 2, 1) := by decide +kernel
theorem dX11_drive_35 : decode cX11_drive 35 = .ok (.invokevirtual 133, 3) := by decide +kernel
theorem dX11_drive_38 : decode cX11_drive 38 = .ok (.iconst (-1), 1) := by decide +kernel
theorem dX11_drive_39 : decode cX11_drive 39 = .ok (.if_icmp .eq 9, 3) := by decide +kernel
theorem dX11_drive_42 : decode cX11_drive 42 = .ok (.aload_n 0, 1) := by decide +kernel
theorem dX11_drive_43 : decode cX11_drive 43 = .ok (.iconst 5, 1) := by decide +kernel
theorem dX11_drive_44 : decode cX11_drive 44 = .ok (.invokevirtual 100, 3) := by decide +kernel
theorem dX11_drive_47 : decode cX11_drive 47 = .ok (.ireturn, 1) := by decide +kernel
theorem dX11_drive_48 : decode cX11_drive 48 = .ok (.aload_n 0, 1) := by decide +kernel
theorem dX11_drive_49 : decode cX11_drive 49 = .ok (.getfield 19, 3) := by decide +kernel
theorem dX11_drive_52 : decode cX11_drive 52 = .ok (.iload_n 1, 1) := by decide +kernel
theorem dX11_drive_53 : decode cX11_drive 53 = .ok (.invokevirtual 136, 3) := by decide +kernel
theorem dX11_drive_56 : decode cX11_drive 56 = .ok (.aload_n 0, 1) := by decide +kernel
theorem dX11_drive_57 : decode cX11_drive 57 = .ok (.getfield 75, 3) := by decide +kernel
theorem dX11_drive_60 : decode cX11_drive 60 = .ok (.iconst 4, 1) := by decide +kernel
theorem dX11_drive_61 : decode cX11_drive 61 = .ok (.iload_n 1, 1) := by decide +kernel
theorem dX11_drive_62 : decode cX11_drive 62 = .ok (.iconst 2, 1) := by decide +kernel
theorem dX11_drive_63 : decode cX11_drive 63 = .ok (.invokevirtual 139, 3) := by decide +kernel
theorem dX11_drive_66 : decode cX11_drive 66 = .ok (.if_icmp .lt 9, 3) := by decide +kernel
theorem dX11_drive_69 : decode cX11_drive 69 = .ok (.aload_n 0, 1) := by decide +kernel
theorem dX11_drive_70 : decode cX11_drive 70 = .ok (.iconst 3, 1) := by decide +kernel
theorem dX11_drive_71 : decode cX11_drive 71 = .ok (.invokevirtual 100, 3) := by decide +kernel
theorem dX11_drive_74 : decode cX11_drive 74 = .ok (.ireturn, 1) := by decide +kernel
theorem dX11_drive_75 : decode cX11_drive 75 = .ok (.aload_n 0, 1) := by decide +kernel
theorem dX11_drive_76 : decode cX11_drive 76 = .ok (.aload_n 0, 1) := by decide +kernel
theorem dX11_drive_77 : decode cX11_drive 77 = .ok (.getfield 19, 3) := by decide +kernel
theorem dX11_drive_80 : decode cX11_drive 80 = .ok (.iload_n 1, 1) := by decide +kernel
theorem dX11_drive_81 : decode cX11_drive 81 = .ok (.iload_n 2, 1) := by decide +kernel
theorem dX11_drive_82 : decode cX11_drive 82 = .ok (.invokevirtual 143, 3) := by decide +kernel
theorem dX11_drive_85 : decode cX11_drive 85 = .ok (.invokevirtual 120, 3) := by decide +kernel
theorem dX11_drive_88 : decode cX11_drive 88 = .ok (.ireturn, 1) := by decide +kernel
theorem dX11_unload_0 : decode cX11_unload 0 = .ok (.aload_n 0, 1) := by decide +kernel
theorem dX11_unload_1 : decode cX11_unload 1 = .ok (.getfield 75, 3) := by decide +kernel
theorem dX11_unload_4 : decode cX11_unload 4 = .ok (.iconst 4, 1) := by decide +kernel
theorem dX11_unload_5 : decode cX11_unload 5 = .ok (.iload_n 1, 1) := by decide +kernel
theorem dX11_unload_6 : decode cX11_unload 6 = .ok (.invokevirtual 129, 3) := by decide +kernel
theorem dX11_unload_9 : decode cX11_unload 9 = .ok (.ifCond .ne 9, 3) := by decide +kernel
theorem dX11_unload_12 : decode cX11_unload 12 = .ok (.aload_n 0, 1) := by decide +kernel
theorem dX11_unload_13 : decode cX11_unload 13 = .ok (.iconst 1, 1) := by decide +kernel
theorem dX11_unload_14 : decode cX11_unload 14 = .ok (.invokevirtual 100, 3) := by decide +kernel
theorem dX11_unload_17 : decode cX11_unload 17 = .ok (.ireturn, 1) := by decide +kernel
theorem dX11_unload_18 : decode cX11_unload 18 = .ok (.aload_n 0, 1) := by decide +kernel
theorem dX11_unload_19 : decode cX11_unload 19 = .ok (.aload_n 0, 1) := by decide +kernel
theorem dX11_unload_20 : decode cX11_unload 20 = .ok (.getfield 19, 3) := by decide +kernel
theorem dX11_unload_23 : decode cX11_unload 23 = .ok (.iload_n 1, 1) := by decide +kernel
theorem dX11_unload_24 : decode cX11_unload 24 = .ok (.invokevirtual 146, 3) := by decide +kernel
theorem dX11_unload_27 : decode cX11_unload 27 = .ok (.invokevirtual 120, 3) := by decide +kernel
theorem dX11_unload_30 : decode cX11_unload 30 = .ok (.ireturn, 1) := by decide +kernel
theorem dX11_tea_0 : decode cX11_tea 0 = .ok (.aload_n 0, 1) := by decide +kernel
theorem dX11_tea_1 : decode cX11_tea 1 = .ok (.aload_n 0, 1) := by decide +kernel
theorem dX11_tea_2 : decode cX11_tea 2 = .ok (.invokevirtual 149, 3) := by decide +kernel
theorem dX11_tea_5 : decode cX11_tea 5 = .ok (.ifCond .eq 7, 3) := by decide +kernel
theorem dX11_tea_8 : decode cX11_tea 8 = .ok (.iconst 1, 1) := by decide +kernel
theorem dX11_tea_9 : decode cX11_tea 9 = .ok (.goto 19, 3) := by decide +kernel
theorem dX11_tea_12 : decode cX11_tea 12 = .ok (.aload_n 0, 1) := by decide +kernel
theorem dX11_tea_13 : decode cX11_tea 13 = .ok (.getfield 75, 3) := by decide +kernel
theorem dX11_tea_16 : decode cX11_tea 16 = .ok (.iload_n 1, 1) := by decide +kernel
theorem dX11_tea_17 : decode cX11_tea 17 = .ok (.invokevirtual 153, 3) := by decide +kernel
theorem dX11_tea_20 : decode cX11_tea 20 = .ok (.ifCond .eq 7, 3) := by decide +kernel
theorem dX11_tea_23 : decode cX11_tea 23 = .ok (.iconst 0, 1) := by decide +kernel
theorem dX11_tea_24 : decode cX11_tea 24 = .ok (.goto 4, 3) := by decide +kernel
theorem dX11_tea_27 : decode cX11_tea 27 = .ok (.iconst 2, 1) := by decide +kernel
theorem dX11_tea_28 : decode cX11_tea 28 = .ok (.putfield 79, 3) := by decide +kernel
theorem dX11_tea_31 : decode cX11_tea 31 = .ok (.aload_n 0, 1) := by decide +kernel
theorem dX11_tea_32 : decode cX11_tea 32 = .ok (.getfield 79, 3) := by decide +kernel
theorem dX11_tea_35 : decode cX11_tea 35 = .ok (.ifCond .ne 11, 3) := by decide +kernel
theorem dX11_tea_38 : decode cX11_tea 38 = .ok (.aload_n 0, 1) := by decide +kernel
theorem dX11_tea_39 : decode cX11_tea 39 = .ok (.getfield 19, 3) := by decide +kernel
theorem dX11_tea_42 : decode cX11_tea 42 = .ok (.iload_n 1, 1) := by decide +kernel
theorem dX11_tea_43 : decode cX11_tea 43 = .ok (.putfield 156, 3) := by decide +kernel
theorem dX11_tea_46 : decode cX11_tea 46 = .ok (.aload_n 0, 1) := by decide +kernel
theorem dX11_tea_47 : decode cX11_tea 47 = .ok (.getfield 79, 3) := by decide +kernel
theorem dX11_tea_50 : decode cX11_tea 50 = .ok (.ifCond .ne 7, 3) := by decide +kernel
theorem dX11_tea_53 : decode cX11_tea 53 = .ok (.iconst 1, 1) := by decide +kernel
theorem dX11_tea_54 : decode cX11_tea 54 = .ok (.goto 4, 3) := by decide +kernel
theorem dX11_tea_57 : decode cX11_tea 57 = .ok (.iconst 0, 1) := by decide +kernel
theorem dX11_tea_58 : decode cX11_tea 58 = .ok (.ireturn, 1) := by decide +kernel
theorem dX11_comes_0 : decode cX11_comes 0 = .ok (.aload_n 0, 1) := by decide +kernel
theorem dX11_comes_1 : decode cX11_comes 1 = .ok (.iload_n 1, 1) := by decide +kernel
theorem dX11_comes_2 : decode cX11_comes 2 = .ok (.invokevirtual 159, 3) := by decide +kernel
theorem dX11_comes_5 : decode cX11_comes 5 = .ok (.istore_n 2, 1) := by decide +kernel
theorem dX11_comes_6 : decode cX11_comes 6 = .ok (.iload_n 2, 1) := by decide +kernel
theorem dX11_comes_7 : decode cX11_comes 7 = .ok (.ifCond .eq 9, 3) := by decide +kernel
theorem dX11_comes_10 : decode cX11_comes 10 = .ok (.aload_n 0, 1) := by decide +kernel
theorem dX11_comes_11 : decode cX11_comes 11 = .ok (.iload_n 2, 1) := by decide +kernel
theorem dX11_comes_12 : decode cX11_comes 12 = .ok (.invokevirtual 100, 3) := by decide +kernel
theorem dX11_comes_15 : decode cX11_comes 15 = .ok (.ireturn, 1) := by decide +kernel
theorem dX11_comes_16 : decode cX11_comes 16 = .ok (.aload_n 0, 1) := by decide +kernel
theorem dX11_comes_17 : decode cX11_comes 17 = .ok (.aload_n 0, 1) := by decide +kernel
theorem dX11_comes_18 : decode cX11_comes 18 = .ok (.getfield 19, 3) := by decide +kernel
theorem dX11_comes_21 : decode cX11_comes 21 = .ok (.aload_n 0, 1) := by decide +kernel
theorem dX11_comes_22 : decode cX11_comes 22 = .ok (.getfield 75, 3) := by decide +kernel
theorem dX11_comes_25 : decode cX11_comes 25 = .ok (.iload_n 1, 1) := by decide +kernel
theorem dX11_comes_26 : decode cX11_comes 26 = .ok (.invokevirtual 162, 3) := by decide +kernel
theorem dX11_comes_29 : decode cX11_comes 29 = .ok (.invokevirtual 120, 3) := by decide +kernel
theorem dX11_comes_32 : decode cX11_comes 32 = .ok (.ireturn, 1) := by decide +kernel
theorem dX11_heat_0 : decode cX11_heat 0 = .ok (.aload_n 0, 1) := by decide +kernel
theorem dX11_heat_1 : decode cX11_heat 1 = .ok (.iload_n 1, 1) := by decide +kernel
theorem dX11_heat_2 : decode cX11_heat 2 = .ok (.invokevirtual 159, 3) := by decide +kernel
theorem dX11_heat_5 : decode cX11_heat 5 = .ok (.istore_n 2, 1) := by decide +kernel
theorem dX11_heat_6 : decode cX11_heat 6 = .ok (.iload_n 2, 1) := by decide +kernel
theorem dX11_heat_7 : decode cX11_heat 7 = .ok (.ifCond .eq 13, 3) := by decide +kernel
theorem dX11_heat_10 : decode cX11_heat 10 = .ok (.aload_n 0, 1) := by decide +kernel
theorem dX11_heat_11 : decode cX11_heat 11 = .ok (.iload_n 2, 1) := by decide +kernel
theorem dX11_heat_12 : decode cX11_heat 12 = .ok (.invokevirtual 100, 3) := by decide +kernel
theorem dX11_heat_15 : decode cX11_heat 15 = .ok (.pop, 1) := by decide +kernel
theorem dX11_heat_16 : decode cX11_heat 16 = .ok (.sipush (-1000), 3) := by decide +kernel
theorem dX11_heat_19 : decode cX11_heat 19 = .ok (.ireturn, 1) := by decide +kernel
theorem dX11_heat_20 : decode cX11_heat 20 = .ok (.aload_n 0, 1) := by decide +kernel
theorem dX11_heat_21 : decode cX11_heat 21 = .ok (.aload_n 0, 1) := by decide +kernel
theorem dX11_heat_22 : decode cX11_heat 22 = .ok (.getfield 75, 3) := by decide +kernel
theorem dX11_heat_25 : decode cX11_heat 25 = .ok (.aload_n 0, 1) := by decide +kernel
theorem dX11_heat_26 : decode cX11_heat 26 = .ok (.getfield 19, 3) := by decide +kernel
theorem dX11_heat_29 : decode cX11_heat 29 = .ok (.iload_n 1, 1) := by decide +kernel
theorem dX11_heat_30 : decode cX11_heat 30 = .ok (.invokevirtual 133, 3) := by decide +kernel
theorem dX11_heat_33 : decode cX11_heat 33 = .ok (.aload_n 0, 1) := by decide +kernel
theorem dX11_heat_34 : decode cX11_heat 34 = .ok (.getfield 19, 3) := by decide +kernel
theorem dX11_heat_37 : decode cX11_heat 37 = .ok (.aload_n 0, 1) := by decide +kernel
theorem dX11_heat_38 : decode cX11_heat 38 = .ok (.getfield 75, 3) := by decide +kernel
theorem dX11_heat_41 : decode cX11_heat 41 = .ok (.iload_n 1, 1) := by decide +kernel
theorem dX11_heat_42 : decode cX11_heat 42 = .ok (.invokevirtual 162, 3) := by decide +kernel
theorem dX11_heat_45 : decode cX11_heat 45 = .ok (.invokevirtual 166, 3) := by decide +kernel
theorem dX11_heat_48 : decode cX11_heat 48 = .ok (.invokevirtual 120, 3) := by decide +kernel
theorem dX11_heat_51 : decode cX11_heat 51 = .ok (.ireturn, 1) := by decide +kernel
theorem dX11_bad_0 : decode cX11_bad 0 = .ok (.aload_n 0, 1) := by decide +kernel
theorem dX11_bad_1 : decode cX11_bad 1 = .ok (.getfield 75, 3) := by decide +kernel
theorem dX11_bad_4 : decode cX11_bad 4 = .ok (.iconst 4, 1) := by decide +kernel
theorem dX11_bad_5 : decode cX11_bad 5 = .ok (.iload_n 1, 1) := by decide +kernel
theorem dX11_bad_6 : decode cX11_bad 6 = .ok (.invokevirtual 129, 3) := by decide +kernel
theorem dX11_bad_9 : decode cX11_bad 9 = .ok (.ifCond .ne 9, 3) := by decide +kernel
theorem dX11_bad_12 : decode cX11_bad 12 = .ok (.aload_n 0, 1) := by decide +kernel
theorem dX11_bad_13 : decode cX11_bad 13 = .ok (.iconst 1, 1) := by decide +kernel
theorem dX11_bad_14 : decode cX11_bad 14 = .ok (.invokevirtual 100, 3) := by decide +kernel
theorem dX11_bad_17 : decode cX11_bad 17 = .ok (.ireturn, 1) := by decide +kernel
theorem dX11_bad_18 : decode cX11_bad 18 = .ok (.aload_n 0, 1) := by decide +kernel
theorem dX11_bad_19 : decode cX11_bad 19 = .ok (.aload_n 0, 1) := by decide +kernel
theorem dX11_bad_20 : decode cX11_bad 20 = .ok (.getfield 19, 3) := by decide +kernel
theorem dX11_bad_23 : decode cX11_bad 23 = .ok (.aload_n 0, 1) := by decide +kernel
theorem dX11_bad_24 : decode cX11_bad 24 = .ok (.getfield 75, 3) := by decide +kernel
theorem dX11_bad_27 : decode cX11_bad 27 = .ok (.iload_n 1, 1) := by decide +kernel
theorem dX11_bad_28 : decode cX11_bad 28 = .ok (.aload_n 0, 1) := by decide +kernel
theorem dX11_bad_29 : decode cX11_bad 29 = .ok (.getfield 19, 3) := by decide +kernel
theorem dX11_bad_32 : decode cX11_bad 32 = .ok (.getfield 156, 3) := by decide +kernel
theorem dX11_bad_35 : decode cX11_bad 35 = .ok (.invokevirtual 169, 3) := by decide +kernel
theorem dX11_bad_38 : decode cX11_bad 38 = .ok (.invokevirtual 120, 3) := by decide +kernel
theorem dX11_bad_41 : decode cX11_bad 41 = .ok (.ireturn, 1) := by decide +kernel
theorem dX11_way_0 : decode cX11_way 0 = .ok (.aload_n 0, 1) := by decide +kernel
theorem dX11_way_1 : decode cX11_way 1 = .ok (.invokevirtual 149, 3) := by decide +kernel
theorem dX11_way_4 : decode cX11_way 4 = .ok (.ifCond .eq 9, 3) := by decide +kernel
theorem dX11_way_7 : decode cX11_way 7 = .ok (.aload_n 0, 1) := by decide +kernel
theorem dX11_way_8 : decode cX11_way 8 = .ok (.iconst 1, 1) := by decide +kernel
theorem dX11_way_9 : decode cX11_way 9 = .ok (.invokevirtual 100, 3) := by decide +kernel
theorem dX11_way_12 : decode cX11_way 12 = .ok (.ireturn, 1) := by decide +kernel
theorem dX11_way_13 : decode cX11_way 13 = .ok (.iload_n 1, 1) := by decide +kernel
theorem dX11_way_14 : decode cX11_way 14 = .ok (.iconst 0, 1) := by decide +kernel
theorem dX11_way_15 : decode cX11_way 15 = .ok (.bipush 99, 2) := by decide +kernel
theorem dX11_way_17 : decode cX11_way 17 = .ok (.invokestatic 173, 3) := by decide +kernel
theorem dX11_way_20 : decode cX11_way 20 = .ok (.ifCond .eq 13, 3) := by decide +kernel
theorem dX11_way_23 : decode cX11_way 23 = .ok (.iload_n 2, 1) := by decide +kernel
theorem dX11_way_24 : decode cX11_way 24 = .ok (.iconst 0, 1) := by decide +kernel
theorem dX11_way_25 : decode cX11_way 25 = .ok (.bipush 99, 2) := by decide +kernel
theorem dX11_way_27 : decode cX11_way 27 = .ok (.invokestatic 173, 3) := by decide +kernel
theorem dX11_way_30 : decode cX11_way 30 = .ok (.ifCond .ne 9, 3) := by decide +kernel
theorem dX11_way_33 : decode cX11_way 33 = .ok (.aload_n 0, 1) := by decide +kernel
theorem dX11_way_34 : decode cX11_way 34 = .ok (.iconst 2, 1) := by decide +kernel
theorem dX11_way_35 : decode cX11_way 35 = .ok (.invokevirtual 100, 3) := by decide +kernel
theorem dX11_way_38 : decode cX11_way 38 = .ok (.ireturn, 1) := by decide +kernel
theorem dX11_way_39 : decode cX11_way 39 = .ok (.aload_n 0, 1) := by decide +kernel
theorem dX11_way_40 : decode cX11_way 40 = .ok (.aload_n 0, 1) := by decide +kernel
theorem dX11_way_41 : decode cX11_way 41 = .ok (.getfield 75, 3) := by decide +kernel
theorem dX11_way_44 : decode cX11_way 44 = .ok (.iload_n 1, 1) := by decide +kernel
theorem dX11_way_45 : decode cX11_way 45 = .ok (.iload_n 2, 1) := by decide +kernel
theorem dX11_way_46 : decode cX11_way 46 = .ok (.invokevirtual 177, 3) := by decide +kernel
theorem dX11_way_49 : decode cX11_way 49 = .ok (.invokevirtual 120, 3) := by decide +kernel
theorem dX11_way_52 : decode cX11_way 52 = .ok (.ireturn, 1) := by decide +kernel
theorem dX11_best_0 : decode cX11_best 0 = .ok (.aload_n 0, 1) := by decide +kernel
theorem dX11_best_1 : decode cX11_best 1 = .ok (.iload_n 1, 1) := by decide +kernel
theorem dX11_best_2 : decode cX11_best 2 = .ok (.iload_n 2, 1) := by decide +kernel
theorem dX11_best_3 : decode cX11_best 3 = .ok (.invokevirtual 180, 3) := by decide +kernel
theorem dX11_best_6 : decode cX11_best 6 = .ok (.istore_n 3, 1) := by decide +kernel
theorem dX11_best_7 : decode cX11_best 7 = .ok (.iload_n 3, 1) := by decide +kernel
theorem dX11_best_8 : decode cX11_best 8 = .ok (.ifCond .eq 9, 3) := by decide +kernel
theorem dX11_best_11 : decode cX11_best 11 = .ok (.aload_n 0, 1) := by decide +kernel
theorem dX11_best_12 : decode cX11_best 12 = .ok (.iload_n 3, 1) := by decide +kernel
theorem dX11_best_13 : decode cX11_best 13 = .ok (.invokevirtual 100, 3) := by decide +kernel
theorem dX11_best_16 : decode cX11_best 16 = .ok (.ireturn, 1) := by decide +kernel
theorem dX11_best_17 : decode cX11_best 17 = .ok (.aload_n 0, 1) := by decide +kernel
theorem dX11_best_18 : decode cX11_best 18 = .ok (.getfield 26, 3) := by decide +kernel
theorem dX11_best_21 : decode cX11_best 21 = .ok (.aload_n 0, 1) := by decide +kernel
theorem dX11_best_22 : decode cX11_best 22 = .ok (.getfield 75, 3) := by decide +kernel
theorem dX11_best_25 : decode cX11_best 25 = .ok (.iload_n 1, 1) := by decide +kernel
theorem dX11_best_26 : decode cX11_best 26 = .ok (.invokevirtual 183, 3) := by decide +kernel
theorem dX11_best_29 : decode cX11_best 29 = .ok (.aload_n 0, 1) := by decide +kernel
theorem dX11_best_30 : decode cX11_best 30 = .ok (.aload_n 0, 1) := by decide +kernel
theorem dX11_best_31 : decode cX11_best 31 = .ok (.getfield 26, 3) := by decide +kernel
theorem dX11_best_34 : decode cX11_best 34 = .ok (.iload_n 1, 1) := by decide +kernel
theorem dX11_best_35 : decode cX11_best 35 = .ok (.iload_n 2, 1) := by decide +kernel
theorem dX11_best_36 : decode cX11_best 36 = .ok (.invokevirtual 187, 3) := by decide +kernel
theorem dX11_best_39 : decode cX11_best 39 = .ok (.invokevirtual 120, 3) := by decide +kernel
theorem dX11_best_42 : decode cX11_best 42 = .ok (.ireturn, 1) := by decide +kernel
theorem dX11_bestAt_0 : decode cX11_bestAt 0 = .ok (.aload_n 0, 1) := by decide +kernel
theorem dX11_bestAt_1 : decode cX11_bestAt 1 = .ok (.iload_n 1, 1) := by decide +kernel
theorem dX11_bestAt_2 : decode cX11_bestAt 2 = .ok (.iload_n 2, 1) := by decide +kernel
theorem dX11_bestAt_3 : decode cX11_bestAt 3 = .ok (.invokevirtual 180, 3) := by decide +kernel
theorem dX11_bestAt_6 : decode cX11_bestAt 6 = .ok (.istore 4, 2) := by decide +kernel
theorem dX11_bestAt_8 : decode cX11_bestAt 8 = .ok (.iload 4, 2) := by decide +kernel
theorem dX11_bestAt_10 : decode cX11_bestAt 10 = .ok (.ifCond .eq 10, 3) := by decide +kernel
theorem dX11_bestAt_13 : decode cX11_bestAt 13 = .ok (.aload_n 0, 1) := by decide +kernel
theorem dX11_bestAt_14 : decode cX11_bestAt 14 = .ok (.iload 4, 2) := by decide +kernel
theorem dX11_bestAt_16 : decode cX11_bestAt 16 = .ok (.invokevirtual 100, 3) := by decide +kernel
theorem dX11_bestAt_19 : decode cX11_bestAt 19 = .ok (.ireturn, 1) := by decide +kernel
theorem dX11_bestAt_20 : decode cX11_bestAt 20 = .ok (.iload_n 3, 1) := by decide +kernel
theorem dX11_bestAt_21 : decode cX11_bestAt 21 = .ok (.ifCond .lt 11, 3) := by decide +kernel
theorem dX11_bestAt_24 : decode cX11_bestAt 24 = .ok (.iload_n 3, 1) := by decide +kernel
theorem dX11_bestAt_25 : decode cX11_bestAt 25 = .ok (.iload_n 2, 1) := by decide +kernel
theorem dX11_bestAt_26 : decode cX11_bestAt 26 = .ok (.invokestatic 190, 3) := by decide +kernel
theorem dX11_bestAt_29 : decode cX11_bestAt 29 = .ok (.if_icmp .lt 9, 3) := by decide +kernel
theorem dX11_bestAt_32 : decode cX11_bestAt 32 = .ok (.aload_n 0, 1) := by decide +kernel
theorem dX11_bestAt_33 : decode cX11_bestAt 33 = .ok (.iconst 1, 1) := by decide +kernel
theorem dX11_bestAt_34 : decode cX11_bestAt 34 = .ok (.invokevirtual 100, 3) := by decide +kernel
theorem dX11_bestAt_37 : decode cX11_bestAt 37 = .ok (.ireturn, 1) := by decide +kernel
theorem dX11_bestAt_38 : decode cX11_bestAt 38 = .ok (.aload_n 0, 1) := by decide +kernel
theorem dX11_bestAt_39 : decode cX11_bestAt 39 = .ok (.getfield 26, 3) := by decide +kernel
theorem dX11_bestAt_42 : decode cX11_bestAt 42 = .ok (.aload_n 0, 1) := by decide +kernel
theorem dX11_bestAt_43 : decode cX11_bestAt 43 = .ok (.getfield 75, 3) := by decide +kernel
theorem dX11_bestAt_46 : decode cX11_bestAt 46 = .ok (.iload_n 1, 1) := by decide +kernel
theorem dX11_bestAt_47 : decode cX11_bestAt 47 = .ok (.invokevirtual 183, 3) := by decide +kernel
theorem dX11_bestAt_50 : decode cX11_bestAt 50 = .ok (.aload_n 0, 1) := by decide +kernel
theorem dX11_bestAt_51 : decode cX11_bestAt 51 = .ok (.aload_n 0, 1) := by decide +kernel
theorem dX11_bestAt_52 : decode cX11_bestAt 52 = .ok (.getfield 26, 3) := by decide +kernel
theorem dX11_bestAt_55 : decode cX11_bestAt 55 = .ok (.iload_n 1, 1) := by decide +kernel
theorem dX11_bestAt_56 : decode cX11_bestAt 56 = .ok (.iload_n 2, 1) := by decide +kernel
theorem dX11_bestAt_57 : decode cX11_bestAt 57 = .ok (.iload_n 3, 1) := by decide +kernel
theorem dX11_bestAt_58 : decode cX11_bestAt 58 = .ok (.invokevirtual 195, 3) := by decide +kernel
theorem dX11_bestAt_61 : decode cX11_bestAt 61 = .ok (.invokevirtual 120, 3) := by decide +kernel
theorem dX11_bestAt_64 : decode cX11_bestAt 64 = .ok (.ireturn, 1) := by decide +kernel
theorem dX11_share_0 : decode cX11_share 0 = .ok (.aload_n 0, 1) := by decide +kernel
theorem dX11_share_1 : decode cX11_share 1 = .ok (.invokevirtual 149, 3) := by decide +kernel
theorem dX11_share_4 : decode cX11_share 4 = .ok (.ifCond .eq 9, 3) := by decide +kernel
theorem dX11_share_7 : decode cX11_share 7 = .ok (.aload_n 0, 1) := by decide +kernel
theorem dX11_share_8 : decode cX11_share 8 = .ok (.iconst 1, 1) := by decide +kernel
theorem dX11_share_9 : decode cX11_share 9 = .ok (.invokevirtual 100, 3) := by decide +kernel
theorem dX11_share_12 : decode cX11_share 12 = .ok (.ireturn, 1) := by decide +kernel
theorem dX11_share_13 : decode cX11_share 13 = .ok (.iconst 0, 1) := by decide +kernel
theorem dX11_share_14 : decode cX11_share 14 = .ok (.istore_n 1, 1) := by decide +kernel
theorem dX11_share_15 : decode cX11_share 15 = .ok (.iload_n 1, 1) := by decide +kernel
theorem dX11_share_16 : decode cX11_share 16 = .ok (.aload_n 0, 1) := by decide +kernel
theorem dX11_share_17 : decode cX11_share 17 = .ok (.getfield 75, 3) := by decide +kernel
theorem dX11_share_20 : decode cX11_share 20 = .ok (.iconst 4, 1) := by decide +kernel
theorem dX11_share_21 : decode cX11_share 21 = .ok (.invokevirtual 117, 3) := by decide +kernel
theorem dX11_share_24 : decode cX11_share 24 = .ok (.if_icmp .ge 21, 3) := by decide +kernel
theorem dX11_share_27 : decode cX11_share 27 = .ok (.aload_n 0, 1) := by decide +kernel
theorem dX11_share_28 : decode cX11_share 28 = .ok (.getfield 26, 3) := by decide +kernel
theorem dX11_share_31 : decode cX11_share 31 = .ok (.aload_n 0, 1) := by decide +kernel
theorem dX11_share_32 : decode cX11_share 32 = .ok (.getfield 75, 3) := by decide +kernel
theorem dX11_share_35 : decode cX11_share 35 = .ok (.iload_n 1, 1) := by decide +kernel
theorem dX11_share_36 : decode cX11_share 36 = .ok (.invokevirtual 183, 3) := by decide +kernel
theorem dX11_share_39 : decode cX11_share 39 = .ok (.iinc 1 1, 3) := by decide +kernel
theorem dX11_share_42 : decode cX11_share 42 = .ok (.goto (-27), 3) := by decide +kernel
theorem dX11_share_45 : decode cX11_share 45 = .ok (.aload_n 0, 1) := by decide +kernel
theorem dX11_share_46 : decode cX11_share 46 = .ok (.getfield 33, 3) := by decide +kernel
theorem dX11_share_49 : decode cX11_share 49 = .ok (.aload_n 0, 1) := by decide +kernel
theorem dX11_share_50 : decode cX11_share 50 = .ok (.getfield 75, 3) := by decide +kernel
theorem dX11_share_53 : decode cX11_share 53 = .ok (.aload_n 0, 1) := by decide +kernel
theorem dX11_share_54 : decode cX11_share 54 = .ok (.getfield 26, 3) := by decide +kernel
theorem dX11_share_57 : decode cX11_share 57 = .ok (.invokevirtual 198, 3) := by decide +kernel
theorem dX11_share_60 : decode cX11_share 60 = .ok (.istore_n 1, 1) := by decide +kernel
theorem dX11_share_61 : decode cX11_share 61 = .ok (.iload_n 1, 1) := by decide +kernel
theorem dX11_share_62 : decode cX11_share 62 = .ok (.ldc 202, 2) := by decide +kernel
theorem dX11_share_64 : decode cX11_share 64 = .ok (.if_icmp .ne 10, 3) := by decide +kernel
theorem dX11_share_67 : decode cX11_share 67 = .ok (.aload_n 0, 1) := by decide +kernel
theorem dX11_share_68 : decode cX11_share 68 = .ok (.bipush 6, 2) := by decide +kernel
theorem dX11_share_70 : decode cX11_share 70 = .ok (.invokevirtual 100, 3) := by decide +kernel
theorem dX11_share_73 : decode cX11_share 73 = .ok (.ireturn, 1) := by decide +kernel
theorem dX11_share_74 : decode cX11_share 74 = .ok (.aload_n 0, 1) := by decide +kernel
theorem dX11_share_75 : decode cX11_share 75 = .ok (.iload_n 1, 1) := by decide +kernel
theorem dX11_share_76 : decode cX11_share 76 = .ok (.sipush 10000, 3) := by decide +kernel
theorem dX11_share_79 : decode cX11_share 79 = .ok (.idiv, 1) := by decide +kernel
theorem dX11_share_80 : decode cX11_share 80 = .ok (.invokevirtual 120, 3) := by decide +kernel
theorem dX11_share_83 : decode cX11_share 83 = .ok (.ireturn, 1) := by decide +kernel
theorem dX11_shared_0 : decode cX11_shared 0 = .ok (.aload_n 0, 1) := by decide +kernel
theorem dX11_shared_1 : decode cX11_shared 1 = .ok (.getfield 33, 3) := by decide +kernel
theorem dX11_shared_4 : decode cX11_shared 4 = .ok (.iload_n 1, 1) := by decide +kernel
theorem dX11_shared_5 : decode cX11_shared 5 = .ok (.invokevirtual 203, 3) := by decide +kernel
theorem dX11_shared_8 : decode cX11_shared 8 = .ok (.ireturn, 1) := by decide +kernel
theorem dX11_odds_0 : decode cX11_odds 0 = .ok (.aload_n 0, 1) := by decide +kernel
theorem dX11_odds_1 : decode cX11_odds 1 = .ok (.getfield 75, 3) := by decide +kernel
theorem dX11_odds_4 : decode cX11_odds 4 = .ok (.iconst 4, 1) := by decide +kernel
theorem dX11_odds_5 : decode cX11_odds 5 = .ok (.iload_n 1, 1) := by decide +kernel
theorem dX11_odds_6 : decode cX11_odds 6 = .ok (.invokevirtual 129, 3) := by decide +kernel
theorem dX11_odds_9 : decode cX11_odds 9 = .ok (.ifCond .ne 10, 3) := by decide +kernel
theorem dX11_odds_12 : decode cX11_odds 12 = .ok (.aload_n 0, 1) := by decide +kernel
theorem dX11_odds_13 : decode cX11_odds 13 = .ok (.iconst 1, 1) := by decide +kernel
theorem dX11_odds_14 : decode cX11_odds 14 = .ok (.invokevirtual 100, 3) := by decide +kernel
theorem dX11_odds_17 : decode cX11_odds 17 = .ok (.i2l, 1) := by decide +kernel
theorem dX11_odds_18 : decode cX11_odds 18 = .ok (.lreturn, 1) := by decide +kernel
theorem dX11_odds_19 : decode cX11_odds 19 = .ok (.aload_n 0, 1) := by decide +kernel
theorem dX11_odds_20 : decode cX11_odds 20 = .ok (.iconst 0, 1) := by decide +kernel
theorem dX11_odds_21 : decode cX11_odds 21 = .ok (.putfield 79, 3) := by decide +kernel
theorem dX11_odds_24 : decode cX11_odds 24 = .ok (.aload_n 0, 1) := by decide +kernel
theorem dX11_odds_25 : decode cX11_odds 25 = .ok (.getfield 19, 3) := by decide +kernel
theorem dX11_odds_28 : decode cX11_odds 28 = .ok (.aload_n 0, 1) := by decide +kernel
theorem dX11_odds_29 : decode cX11_odds 29 = .ok (.getfield 75, 3) := by decide +kernel
theorem dX11_odds_32 : decode cX11_odds 32 = .ok (.iload_n 1, 1) := by decide +kernel
theorem dX11_odds_33 : decode cX11_odds 33 = .ok (.invokevirtual 204, 3) := by decide +kernel
theorem dX11_odds_36 : decode cX11_odds 36 = .ok (.lreturn, 1) := by decide +kernel
theorem dX11_costs_0 : decode cX11_costs 0 = .ok (.aload_n 0, 1) := by decide +kernel
theorem dX11_costs_1 : decode cX11_costs 1 = .ok (.iload_n 1, 1) := by decide +kernel
theorem dX11_costs_2 : decode cX11_costs 2 = .ok (.invokevirtual 159, 3) := by decide +kernel
theorem dX11_costs_5 : decode cX11_costs 5 = .ok (.istore_n 2, 1) := by decide +kernel
theorem dX11_costs_6 : decode cX11_costs 6 = .ok (.iload_n 2, 1) := by decide +kernel
theorem dX11_costs_7 : decode cX11_costs 7 = .ok (.ifCond .eq 13, 3) := by decide +kernel
theorem dX11_costs_10 : decode cX11_costs 10 = .ok (.aload_n 0, 1) := by decide +kernel
theorem dX11_costs_11 : decode cX11_costs 11 = .ok (.iload_n 2, 1) := by decide +kernel
theorem dX11_costs_12 : decode cX11_costs 12 = .ok (.invokevirtual 100, 3) := by decide +kernel
theorem dX11_costs_15 : decode cX11_costs 15 = .ok (.pop, 1) := by decide +kernel
theorem dX11_costs_16 : decode cX11_costs 16 = .ok (.sipush (-1000), 3) := by decide +kernel
theorem dX11_costs_19 : decode cX11_costs 19 = .ok (.ireturn, 1) := by decide +kernel
theorem dX11_costs_20 : decode cX11_costs 20 = .ok (.aload_n 0, 1) := by decide +kernel
theorem dX11_costs_21 : decode cX11_costs 21 = .ok (.getfield 19, 3) := by decide +kernel
theorem dX11_costs_24 : decode cX11_costs 24 = .ok (.iload_n 1, 1) := by decide +kernel
theorem dX11_costs_25 : decode cX11_costs 25 = .ok (.invokevirtual 133, 3) := by decide +kernel
theorem dX11_costs_28 : decode cX11_costs 28 = .ok (.istore_n 3, 1) := by decide +kernel
theorem dX11_costs_29 : decode cX11_costs 29 = .ok (.aload_n 0, 1) := by decide +kernel
theorem dX11_costs_30 : decode cX11_costs 30 = .ok (.getfield 19, 3) := by decide +kernel
theorem dX11_costs_33 : decode cX11_costs 33 = .ok (.aload_n 0, 1) := by decide +kernel
theorem dX11_costs_34 : decode cX11_costs 34 = .ok (.getfield 75, 3) := by decide +kernel
theorem dX11_costs_37 : decode cX11_costs 37 = .ok (.iload_n 3, 1) := by decide +kernel
theorem dX11_costs_38 : decode cX11_costs 38 = .ok (.iconst 1, 1) := by decide +kernel
theorem dX11_costs_39 : decode cX11_costs 39 = .ok (.iload_n 1, 1) := by decide +kernel
theorem dX11_costs_40 : decode cX11_costs 40 = .ok (.ishl, 1) := by decide +kernel
theorem dX11_costs_41 : decode cX11_costs 41 = .ok (.invokevirtual 169, 3) := by decide +kernel
theorem dX11_costs_44 : decode cX11_costs 44 = .ok (.invokestatic 190, 3) := by decide +kernel
theorem dX11_costs_47 : decode cX11_costs 47 = .ok (.istore 4, 2) := by decide +kernel
theorem dX11_costs_49 : decode cX11_costs 49 = .ok (.aload_n 0, 1) := by decide +kernel
theorem dX11_costs_50 : decode cX11_costs 50 = .ok (.getfield 19, 3) := by decide +kernel
theorem dX11_costs_53 : decode cX11_costs 53 = .ok (.aload_n 0, 1) := by decide +kernel
theorem dX11_costs_54 : decode cX11_costs 54 = .ok (.getfield 75, 3) := by decide +kernel
theorem dX11_costs_57 : decode cX11_costs 57 = .ok (.iload_n 3, 1) := by decide +kernel
theorem dX11_costs_58 : decode cX11_costs 58 = .ok (.iconst 0, 1) := by decide +kernel
theorem dX11_costs_59 : decode cX11_costs 59 = .ok (.invokevirtual 169, 3) := by decide +kernel
theorem dX11_costs_62 : decode cX11_costs 62 = .ok (.invokestatic 190, 3) := by decide +kernel
theorem dX11_costs_65 : decode cX11_costs 65 = .ok (.istore 5, 2) := by decide +kernel
theorem dX11_costs_67 : decode cX11_costs 67 = .ok (.aload_n 0, 1) := by decide +kernel
theorem dX11_costs_68 : decode cX11_costs 68 = .ok (.iload 4, 2) := by decide +kernel
theorem dX11_costs_70 : decode cX11_costs 70 = .ok (.iload 5, 2) := by decide +kernel
theorem dX11_costs_72 : decode cX11_costs 72 = .ok (.isub, 1) := by decide +kernel
theorem dX11_costs_73 : decode cX11_costs 73 = .ok (.invokevirtual 120, 3) := by decide +kernel
theorem dX11_costs_76 : decode cX11_costs 76 = .ok (.ireturn, 1) := by decide +kernel
theorem dX11_fits_0 : decode cX11_fits 0 = .ok (.aload_n 0, 1) := by decide +kernel
theorem dX11_fits_1 : decode cX11_fits 1 = .ok (.getfield 75, 3) := by decide +kernel
theorem dX11_fits_4 : decode cX11_fits 4 = .ok (.iconst 3, 1) := by decide +kernel
theorem dX11_fits_5 : decode cX11_fits 5 = .ok (.iload_n 1, 1) := by decide +kernel
theorem dX11_fits_6 : decode cX11_fits 6 = .ok (.invokevirtual 129, 3) := by decide +kernel
theorem dX11_fits_9 : decode cX11_fits 9 = .ok (.ifCond .eq 15, 3) := by decide +kernel
theorem dX11_fits_12 : decode cX11_fits 12 = .ok (.aload_n 0, 1) := by decide +kernel
theorem dX11_fits_13 : decode cX11_fits 13 = .ok (.getfield 75, 3) := by decide +kernel
theorem dX11_fits_16 : decode cX11_fits 16 = .ok (.iconst 1, 1) := by decide +kernel
theorem dX11_fits_17 : decode cX11_fits 17 = .ok (.iload_n 2, 1) := by decide +kernel
theorem dX11_fits_18 : decode cX11_fits 18 = .ok (.invokevirtual 129, 3) := by decide +kernel
theorem dX11_fits_21 : decode cX11_fits 21 = .ok (.ifCond .ne 9, 3) := by decide +kernel
theorem dX11_fits_24 : decode cX11_fits 24 = .ok (.aload_n 0, 1) := by decide +kernel
theorem dX11_fits_25 : decode cX11_fits 25 = .ok (.iconst 1, 1) := by decide +kernel
theorem dX11_fits_26 : decode cX11_fits 26 = .ok (.invokevirtual 100, 3) := by decide +kernel
theorem dX11_fits_29 : decode cX11_fits 29 = .ok (.ireturn, 1) := by decide +kernel
theorem dX11_fits_30 : decode cX11_fits 30 = .ok (.aload_n 0, 1) := by decide +kernel
theorem dX11_fits_31 : decode cX11_fits 31 = .ok (.aload_n 0, 1) := by decide +kernel
theorem dX11_fits_32 : decode cX11_fits 32 = .ok (.getfield 75, 3) := by decide +kernel
theorem dX11_fits_35 : decode cX11_fits 35 = .ok (.aload_n 0, 1) := by decide +kernel
theorem dX11_fits_36 : decode cX11_fits 36 = .ok (.getfield 75, 3) := by decide +kernel
theorem dX11_fits_39 : decode cX11_fits 39 = .ok (.iload_n 1, 1) := by decide +kernel
theorem dX11_fits_40 : decode cX11_fits 40 = .ok (.invokevirtual 208, 3) := by decide +kernel
theorem dX11_fits_43 : decode cX11_fits 43 = .ok (.iload_n 2, 1) := by decide +kernel
theorem dX11_fits_44 : decode cX11_fits 44 = .ok (.invokevirtual 211, 3) := by decide +kernel
theorem dX11_fits_47 : decode cX11_fits 47 = .ok (.ifCond .ne 7, 3) := by decide +kernel
theorem dX11_fits_50 : decode cX11_fits 50 = .ok (.iconst 1, 1) := by decide +kernel
theorem dX11_fits_51 : decode cX11_fits 51 = .ok (.goto 4, 3) := by decide +kernel
theorem dX11_fits_54 : decode cX11_fits 54 = .ok (.iconst 0, 1) := by decide +kernel
theorem dX11_fits_55 : decode cX11_fits 55 = .ok (.invokevirtual 120, 3) := by decide +kernel
theorem dX11_fits_58 : decode cX11_fits 58 = .ok (.ireturn, 1) := by decide +kernel
theorem dX11_breach_0 : decode cX11_breach 0 = .ok (.aload_n 0, 1) := by decide +kernel
theorem dX11_breach_1 : decode cX11_breach 1 = .ok (.getfield 75, 3) := by decide +kernel
theorem dX11_breach_4 : decode cX11_breach 4 = .ok (.iconst 3, 1) := by decide +kernel
theorem dX11_breach_5 : decode cX11_breach 5 = .ok (.iload_n 1, 1) := by decide +kernel
theorem dX11_breach_6 : decode cX11_breach 6 = .ok (.invokevirtual 129, 3) := by decide +kernel
theorem dX11_breach_9 : decode cX11_breach 9 = .ok (.ifCond .eq 15, 3) := by decide +kernel
theorem dX11_breach_12 : decode cX11_breach 12 = .ok (.aload_n 0, 1) := by decide +kernel
theorem dX11_breach_13 : decode cX11_breach 13 = .ok (.getfield 75, 3) := by decide +kernel
theorem dX11_breach_16 : decode cX11_breach 16 = .ok (.iconst 1, 1) := by decide +kernel
theorem dX11_breach_17 : decode cX11_breach 17 = .ok (.iload_n 2, 1) := by decide +kernel
theorem dX11_breach_18 : decode cX11_breach 18 = .ok (.invokevirtual 129, 3) := by decide +kernel
theorem dX11_breach_21 : decode cX11_breach 21 = .ok (.ifCond .ne 9, 3) := by decide +kernel
theorem dX11_breach_24 : decode cX11_breach 24 = .ok (.aload_n 0, 1) := by decide +kernel
theorem dX11_breach_25 : decode cX11_breach 25 = .ok (.iconst 1, 1) := by decide +kernel
theorem dX11_breach_26 : decode cX11_breach 26 = .ok (.invokevirtual 100, 3) := by decide +kernel
theorem dX11_breach_29 : decode cX11_breach 29 = .ok (.ireturn, 1) := by decide +kernel
theorem dX11_breach_30 : decode cX11_breach 30 = .ok (.aload_n 0, 1) := by decide +kernel
theorem dX11_breach_31 : decode cX11_breach 31 = .ok (.aload_n 0, 1) := by decide +kernel
theorem dX11_breach_32 : decode cX11_breach 32 = .ok (.getfield 75, 3) := by decide +kernel
theorem dX11_breach_35 : decode cX11_breach 35 = .ok (.aload_n 0, 1) := by decide +kernel
theorem dX11_breach_36 : decode cX11_breach 36 = .ok (.getfield 75, 3) := by decide +kernel
theorem dX11_breach_39 : decode cX11_breach 39 = .ok (.iload_n 1, 1) := by decide +kernel
theorem dX11_breach_40 : decode cX11_breach 40 = .ok (.invokevirtual 208, 3) := by decide +kernel
theorem dX11_breach_43 : decode cX11_breach 43 = .ok (.iload_n 2, 1) := by decide +kernel
theorem dX11_breach_44 : decode cX11_breach 44 = .ok (.invokevirtual 211, 3) := by decide +kernel
theorem dX11_breach_47 : decode cX11_breach 47 = .ok (.invokevirtual 120, 3) := by decide +kernel
theorem dX11_breach_50 : decode cX11_breach 50 = .ok (.ireturn, 1) := by decide +kernel
theorem dX11_forAll_0 : decode cX11_forAll 0 = .ok (.aload_n 0, 1) := by decide +kernel
theorem dX11_forAll_1 : decode cX11_forAll 1 = .ok (.invokevirtual 149, 3) := by decide +kernel
theorem dX11_forAll_4 : decode cX11_forAll 4 = .ok (.ifCond .eq 9, 3) := by decide +kernel
theorem dX11_forAll_7 : decode cX11_forAll 7 = .ok (.aload_n 0, 1) := by decide +kernel
theorem dX11_forAll_8 : decode cX11_forAll 8 = .ok (.iconst 1, 1) := by decide +kernel
theorem dX11_forAll_9 : decode cX11_forAll 9 = .ok (.invokevirtual 100, 3) := by decide +kernel
theorem dX11_forAll_12 : decode cX11_forAll 12 = .ok (.ireturn, 1) := by decide +kernel
theorem dX11_forAll_13 : decode cX11_forAll 13 = .ok (.iconst 0, 1) := by decide +kernel
theorem dX11_forAll_14 : decode cX11_forAll 14 = .ok (.istore_n 1, 1) := by decide +kernel
theorem dX11_forAll_15 : decode cX11_forAll 15 = .ok (.iconst 0, 1) := by decide +kernel
theorem dX11_forAll_16 : decode cX11_forAll 16 = .ok (.istore_n 2, 1) := by decide +kernel
theorem dX11_forAll_17 : decode cX11_forAll 17 = .ok (.iload_n 2, 1) := by decide +kernel
theorem dX11_forAll_18 : decode cX11_forAll 18 = .ok (.aload_n 0, 1) := by decide +kernel
theorem dX11_forAll_19 : decode cX11_forAll 19 = .ok (.getfield 75, 3) := by decide +kernel
theorem dX11_forAll_22 : decode cX11_forAll 22 = .ok (.iconst 1, 1) := by decide +kernel
theorem dX11_forAll_23 : decode cX11_forAll 23 = .ok (.invokevirtual 117, 3) := by decide +kernel
theorem dX11_forAll_26 : decode cX11_forAll 26 = .ok (.if_icmp .ge 26, 3) := by decide +kernel
theorem dX11_forAll_29 : decode cX11_forAll 29 = .ok (.aload_n 0, 1) := by decide +kernel
theorem dX11_forAll_30 : decode cX11_forAll 30 = .ok (.getfield 75, 3) := by decide +kernel
theorem dX11_forAll_33 : decode cX11_forAll 33 = .ok (.iload_n 2, 1) := by decide +kernel
theorem dX11_forAll_34 : decode cX11_forAll 34 = .ok (.invokevirtual 214, 3) := by decide +kernel
theorem dX11_forAll_37 : decode cX11_forAll 37 = .ok (.ifCond .eq 9, 3) := by decide +kernel
theorem dX11_forAll_40 : decode cX11_forAll 40 = .ok (.iload_n 1, 1) := by decide +kernel
theorem dX11_forAll_41 : decode cX11_forAll 41 = .ok (.iconst 1, 1) := by decide +kernel
theorem dX11_forAll_42 : decode cX11_forAll 42 = .ok (.iload_n 2, 1) := by decide +kernel
theorem dX11_forAll_43 : decode cX11_forAll 43 = .ok (.ishl, 1) := by decide +kernel
theorem dX11_forAll_44 : decode cX11_forAll 44 = .ok (.ior, 1) := by decide +kernel
theorem dX11_forAll_45 : decode cX11_forAll 45 = .ok (.istore_n 1, 1) := by decide +kernel
theorem dX11_forAll_46 : decode cX11_forAll 46 = .ok (.iinc 2 1, 3) := by decide +kernel
theorem dX11_forAll_49 : decode cX11_forAll 49 = .ok (.goto (-32), 3) := by decide +kernel
theorem dX11_forAll_52 : decode cX11_forAll 52 = .ok (.aload_n 0, 1) := by decide +kernel
theorem dX11_forAll_53 : decode cX11_forAll 53 = .ok (.iload_n 1, 1) := by decide +kernel
theorem dX11_forAll_54 : decode cX11_forAll 54 = .ok (.invokevirtual 120, 3) := by decide +kernel
theorem dX11_forAll_57 : decode cX11_forAll 57 = .ok (.ireturn, 1) := by decide +kernel
theorem dX11_menu_0 : decode cX11_menu 0 = .ok (.aload_n 0, 1) := by decide +kernel
theorem dX11_menu_1 : decode cX11_menu 1 = .ok (.getfield 75, 3) := by decide +kernel
theorem dX11_menu_4 : decode cX11_menu 4 = .ok (.iconst 2, 1) := by decide +kernel
theorem dX11_menu_5 : decode cX11_menu 5 = .ok (.iload_n 1, 1) := by decide +kernel
theorem dX11_menu_6 : decode cX11_menu 6 = .ok (.invokevirtual 129, 3) := by decide +kernel
theorem dX11_menu_9 : decode cX11_menu 9 = .ok (.ifCond .ne 9, 3) := by decide +kernel
theorem dX11_menu_12 : decode cX11_menu 12 = .ok (.aload_n 0, 1) := by decide +kernel
theorem dX11_menu_13 : decode cX11_menu 13 = .ok (.iconst 1, 1) := by decide +kernel
theorem dX11_menu_14 : decode cX11_menu 14 = .ok (.invokevirtual 100, 3) := by decide +kernel
theorem dX11_menu_17 : decode cX11_menu 17 = .ok (.ireturn, 1) := by decide +kernel
theorem dX11_menu_18 : decode cX11_menu 18 = .ok (.iload_n 2, 1) := by decide +kernel
theorem dX11_menu_19 : decode cX11_menu 19 = .ok (.iconst 1, 1) := by decide +kernel
theorem dX11_menu_20 : decode cX11_menu 20 = .ok (.bipush 14, 2) := by decide +kernel
theorem dX11_menu_22 : decode cX11_menu 22 = .ok (.invokestatic 173, 3) := by decide +kernel
theorem dX11_menu_25 : decode cX11_menu 25 = .ok (.ifCond .ne 9, 3) := by decide +kernel
theorem dX11_menu_28 : decode cX11_menu 28 = .ok (.aload_n 0, 1) := by decide +kernel
theorem dX11_menu_29 : decode cX11_menu 29 = .ok (.iconst 2, 1) := by decide +kernel
theorem dX11_menu_30 : decode cX11_menu 30 = .ok (.invokevirtual 100, 3) := by decide +kernel
theorem dX11_menu_33 : decode cX11_menu 33 = .ok (.ireturn, 1) := by decide +kernel
theorem dX11_menu_34 : decode cX11_menu 34 = .ok (.aload_n 0, 1) := by decide +kernel
theorem dX11_menu_35 : decode cX11_menu 35 = .ok (.getfield 40, 3) := by decide +kernel
theorem dX11_menu_38 : decode cX11_menu 38 = .ok (.aload_n 0, 1) := by decide +kernel
theorem dX11_menu_39 : decode cX11_menu 39 = .ok (.getfield 75, 3) := by decide +kernel
theorem dX11_menu_42 : decode cX11_menu 42 = .ok (.iload_n 1, 1) := by decide +kernel
theorem dX11_menu_43 : decode cX11_menu 43 = .ok (.iload_n 2, 1) := by decide +kernel
theorem dX11_menu_44 : decode cX11_menu 44 = .ok (.invokevirtual 217, 3) := by decide +kernel
theorem dX11_menu_47 : decode cX11_menu 47 = .ok (.istore_n 3, 1) := by decide +kernel
theorem dX11_menu_48 : decode cX11_menu 48 = .ok (.iload_n 3, 1) := by decide +kernel
theorem dX11_menu_49 : decode cX11_menu 49 = .ok (.ldc 202, 2) := by decide +kernel
theorem dX11_menu_51 : decode cX11_menu 51 = .ok (.if_icmp .ne 10, 3) := by decide +kernel
theorem dX11_menu_54 : decode cX11_menu 54 = .ok (.aload_n 0, 1) := by decide +kernel
theorem dX11_menu_55 : decode cX11_menu 55 = .ok (.bipush 6, 2) := by decide +kernel
theorem dX11_menu_57 : decode cX11_menu 57 = .ok (.invokevirtual 100, 3) := by decide +kernel
theorem dX11_menu_60 : decode cX11_menu 60 = .ok (.ireturn, 1) := by decide +kernel
theorem dX11_menu_61 : decode cX11_menu 61 = .ok (.aload_n 0, 1) := by decide +kernel
theorem dX11_menu_62 : decode cX11_menu 62 = .ok (.getfield 40, 3) := by decide +kernel
theorem dX11_menu_65 : decode cX11_menu 65 = .ok (.iload_n 2, 1) := by decide +kernel
theorem dX11_menu_66 : decode cX11_menu 66 = .ok (.invokevirtual 220, 3) := by decide +kernel
theorem dX11_menu_69 : decode cX11_menu 69 = .ok (.aload_n 0, 1) := by decide +kernel
theorem dX11_menu_70 : decode cX11_menu 70 = .ok (.iload_n 3, 1) := by decide +kernel
theorem dX11_menu_71 : decode cX11_menu 71 = .ok (.invokevirtual 120, 3) := by decide +kernel
theorem dX11_menu_74 : decode cX11_menu 74 = .ok (.ireturn, 1) := by decide +kernel
theorem dX11_menuAt_0 : decode cX11_menuAt 0 = .ok (.aload_n 0, 1) := by decide +kernel
theorem dX11_menuAt_1 : decode cX11_menuAt 1 = .ok (.getfield 40, 3) := by decide +kernel
theorem dX11_menuAt_4 : decode cX11_menuAt 4 = .ok (.iload_n 1, 1) := by decide +kernel
theorem dX11_menuAt_5 : decode cX11_menuAt 5 = .ok (.invokevirtual 223, 3) := by decide +kernel
theorem dX11_menuAt_8 : decode cX11_menuAt 8 = .ok (.ireturn, 1) := by decide +kernel
theorem dX11_dropped_0 : decode cX11_dropped 0 = .ok (.aload_n 0, 1) := by decide +kernel
theorem dX11_dropped_1 : decode cX11_dropped 1 = .ok (.invokevirtual 149, 3) := by decide +kernel
theorem dX11_dropped_4 : decode cX11_dropped 4 = .ok (.ifCond .eq 9, 3) := by decide +kernel
theorem dX11_dropped_7 : decode cX11_dropped 7 = .ok (.aload_n 0, 1) := by decide +kernel
theorem dX11_dropped_8 : decode cX11_dropped 8 = .ok (.iconst 1, 1) := by decide +kernel
theorem dX11_dropped_9 : decode cX11_dropped 9 = .ok (.invokevirtual 100, 3) := by decide +kernel
theorem dX11_dropped_12 : decode cX11_dropped 12 = .ok (.ireturn, 1) := by decide +kernel
theorem dX11_dropped_13 : decode cX11_dropped 13 = .ok (.iload_n 2, 1) := by decide +kernel
theorem dX11_dropped_14 : decode cX11_dropped 14 = .ok (.iconst 1, 1) := by decide +kernel
theorem dX11_dropped_15 : decode cX11_dropped 15 = .ok (.bipush 14, 2) := by decide +kernel
theorem dX11_dropped_17 : decode cX11_dropped 17 = .ok (.invokestatic 173, 3) := by decide +kernel
theorem dX11_dropped_20 : decode cX11_dropped 20 = .ok (.ifCond .eq 13, 3) := by decide +kernel
theorem dX11_dropped_23 : decode cX11_dropped 23 = .ok (.iload_n 1, 1) := by decide +kernel
theorem dX11_dropped_24 : decode cX11_dropped 24 = .ok (.iconst 0, 1) := by decide +kernel
theorem dX11_dropped_25 : decode cX11_dropped 25 = .ok (.ldc 226, 2) := by decide +kernel
theorem dX11_dropped_27 : decode cX11_dropped 27 = .ok (.invokestatic 173, 3) := by decide +kernel
theorem dX11_dropped_30 : decode cX11_dropped 30 = .ok (.ifCond .ne 9, 3) := by decide +kernel
theorem dX11_dropped_33 : decode cX11_dropped 33 = .ok (.aload_n 0, 1) := by decide +kernel
theorem dX11_dropped_34 : decode cX11_dropped 34 = .ok (.iconst 2, 1) := by decide +kernel
theorem dX11_dropped_35 : decode cX11_dropped 35 = .ok (.invokevirtual 100, 3) := by decide +kernel
theorem dX11_dropped_38 : decode cX11_dropped 38 = .ok (.ireturn, 1) := by decide +kernel
theorem dX11_dropped_39 : decode cX11_dropped 39 = .ok (.aload_n 0, 1) := by decide +kernel
theorem dX11_dropped_40 : decode cX11_dropped 40 = .ok (.getfield 40, 3) := by decide +kernel
theorem dX11_dropped_43 : decode cX11_dropped 43 = .ok (.aload_n 0, 1) := by decide +kernel
theorem dX11_dropped_44 : decode cX11_dropped 44 = .ok (.getfield 75, 3) := by decide +kernel
theorem dX11_dropped_47 : decode cX11_dropped 47 = .ok (.iload_n 2, 1) := by decide +kernel
theorem dX11_dropped_48 : decode cX11_dropped 48 = .ok (.invokevirtual 227, 3) := by decide +kernel
theorem dX11_dropped_51 : decode cX11_dropped 51 = .ok (.ifCond .ne 10, 3) := by decide +kernel
theorem dX11_dropped_54 : decode cX11_dropped 54 = .ok (.aload_n 0, 1) := by decide +kernel
theorem dX11_dropped_55 : decode cX11_dropped 55 = .ok (.bipush 6, 2) := by decide +kernel
theorem dX11_dropped_57 : decode cX11_dropped 57 = .ok (.invokevirtual 100, 3) := by decide +kernel
theorem dX11_dropped_60 : decode cX11_dropped 60 = .ok (.ireturn, 1) := by decide +kernel
theorem dX11_dropped_61 : decode cX11_dropped 61 = .ok (.aload_n 0, 1) := by decide +kernel
theorem dX11_dropped_62 : decode cX11_dropped 62 = .ok (.aload_n 0, 1) := by decide +kernel
theorem dX11_dropped_63 : decode cX11_dropped 63 = .ok (.getfield 40, 3) := by decide +kernel
theorem dX11_dropped_66 : decode cX11_dropped 66 = .ok (.aload_n 0, 1) := by decide +kernel
theorem dX11_dropped_67 : decode cX11_dropped 67 = .ok (.getfield 75, 3) := by decide +kernel
theorem dX11_dropped_70 : decode cX11_dropped 70 = .ok (.iload_n 1, 1) := by decide +kernel
theorem dX11_dropped_71 : decode cX11_dropped 71 = .ok (.invokevirtual 231, 3) := by decide +kernel
theorem dX11_dropped_74 : decode cX11_dropped 74 = .ok (.invokevirtual 120, 3) := by decide +kernel
theorem dX11_dropped_77 : decode cX11_dropped 77 = .ok (.ireturn, 1) := by decide +kernel
theorem dX11_knock_0 : decode cX11_knock 0 = .ok (.aload_n 0, 1) := by decide +kernel
theorem dX11_knock_1 : decode cX11_knock 1 = .ok (.invokevirtual 234, 3) := by decide +kernel
theorem dX11_knock_4 : decode cX11_knock 4 = .ok (.istore_n 1, 1) := by decide +kernel
theorem dX11_knock_5 : decode cX11_knock 5 = .ok (.iload_n 1, 1) := by decide +kernel
theorem dX11_knock_6 : decode cX11_knock 6 = .ok (.ifCond .eq 10, 3) := by decide +kernel
theorem dX11_knock_9 : decode cX11_knock 9 = .ok (.aload_n 0, 1) := by decide +kernel
theorem dX11_knock_10 : decode cX11_knock 10 = .ok (.iload_n 1, 1) := by decide +kernel
theorem dX11_knock_11 : decode cX11_knock 11 = .ok (.invokevirtual 100, 3) := by decide +kernel
theorem dX11_knock_14 : decode cX11_knock 14 = .ok (.i2l, 1) := by decide +kernel
theorem dX11_knock_15 : decode cX11_knock 15 = .ok (.lreturn, 1) := by decide +kernel
theorem dX11_knock_16 : decode cX11_knock 16 = .ok (.aload_n 0, 1) := by decide +kernel
theorem dX11_knock_17 : decode cX11_knock 17 = .ok (.iconst 0, 1) := by decide +kernel
theorem dX11_knock_18 : decode cX11_knock 18 = .ok (.putfield 79, 3) := by decide +kernel
theorem dX11_knock_21 : decode cX11_knock 21 = .ok (.aload_n 0, 1) := by decide +kernel
theorem dX11_knock_22 : decode cX11_knock 22 = .ok (.getfield 47, 3) := by decide +kernel
theorem dX11_knock_25 : decode cX11_knock 25 = .ok (.aload_n 0, 1) := by decide +kernel
theorem dX11_knock_26 : decode cX11_knock 26 = .ok (.getfield 75, 3) := by decide +kernel
theorem dX11_knock_29 : decode cX11_knock 29 = .ok (.invokevirtual 238, 3) := by decide +kernel
theorem dX11_knock_32 : decode cX11_knock 32 = .ok (.lreturn, 1) := by decide +kernel
theorem dX11_callAt_0 : decode cX11_callAt 0 = .ok (.aload_n 0, 1) := by decide +kernel
theorem dX11_callAt_1 : decode cX11_callAt 1 = .ok (.getfield 47, 3) := by decide +kernel
theorem dX11_callAt_4 : decode cX11_callAt 4 = .ok (.iload_n 1, 1) := by decide +kernel
theorem dX11_callAt_5 : decode cX11_callAt 5 = .ok (.invokevirtual 241, 3) := by decide +kernel
theorem dX11_callAt_8 : decode cX11_callAt 8 = .ok (.ireturn, 1) := by decide +kernel
theorem dX11_asTold_0 : decode cX11_asTold 0 = .ok (.aload_n 0, 1) := by decide +kernel
theorem dX11_asTold_1 : decode cX11_asTold 1 = .ok (.invokevirtual 234, 3) := by decide +kernel
theorem dX11_asTold_4 : decode cX11_asTold 4 = .ok (.istore_n 1, 1) := by decide +kernel
theorem dX11_asTold_5 : decode cX11_asTold 5 = .ok (.iload_n 1, 1) := by decide +kernel
theorem dX11_asTold_6 : decode cX11_asTold 6 = .ok (.ifCond .eq 10, 3) := by decide +kernel
theorem dX11_asTold_9 : decode cX11_asTold 9 = .ok (.aload_n 0, 1) := by decide +kernel
theorem dX11_asTold_10 : decode cX11_asTold 10 = .ok (.iload_n 1, 1) := by decide +kernel
theorem dX11_asTold_11 : decode cX11_asTold 11 = .ok (.invokevirtual 100, 3) := by decide +kernel
theorem dX11_asTold_14 : decode cX11_asTold 14 = .ok (.i2l, 1) := by decide +kernel
theorem dX11_asTold_15 : decode cX11_asTold 15 = .ok (.lreturn, 1) := by decide +kernel
theorem dX11_asTold_16 : decode cX11_asTold 16 = .ok (.aload_n 0, 1) := by decide +kernel
theorem dX11_asTold_17 : decode cX11_asTold 17 = .ok (.iconst 0, 1) := by decide +kernel
theorem dX11_asTold_18 : decode cX11_asTold 18 = .ok (.putfield 79, 3) := by decide +kernel
theorem dX11_asTold_21 : decode cX11_asTold 21 = .ok (.aload_n 0, 1) := by decide +kernel
theorem dX11_asTold_22 : decode cX11_asTold 22 = .ok (.getfield 47, 3) := by decide +kernel
theorem dX11_asTold_25 : decode cX11_asTold 25 = .ok (.aload_n 0, 1) := by decide +kernel
theorem dX11_asTold_26 : decode cX11_asTold 26 = .ok (.getfield 75, 3) := by decide +kernel
theorem dX11_asTold_29 : decode cX11_asTold 29 = .ok (.invokevirtual 244, 3) := by decide +kernel
theorem dX11_asTold_32 : decode cX11_asTold 32 = .ok (.lreturn, 1) := by decide +kernel
theorem dX11_fill_0 : decode cX11_fill 0 = .ok (.aload_n 0, 1) := by decide +kernel
theorem dX11_fill_1 : decode cX11_fill 1 = .ok (.invokevirtual 149, 3) := by decide +kernel
theorem dX11_fill_4 : decode cX11_fill 4 = .ok (.ifCond .eq 9, 3) := by decide +kernel
theorem dX11_fill_7 : decode cX11_fill 7 = .ok (.aload_n 0, 1) := by decide +kernel
theorem dX11_fill_8 : decode cX11_fill 8 = .ok (.iconst 1, 1) := by decide +kernel
theorem dX11_fill_9 : decode cX11_fill 9 = .ok (.invokevirtual 100, 3) := by decide +kernel
theorem dX11_fill_12 : decode cX11_fill 12 = .ok (.ireturn, 1) := by decide +kernel
theorem dX11_fill_13 : decode cX11_fill 13 = .ok (.aload_n 0, 1) := by decide +kernel
theorem dX11_fill_14 : decode cX11_fill 14 = .ok (.aload_n 0, 1) := by decide +kernel
theorem dX11_fill_15 : decode cX11_fill 15 = .ok (.getfield 54, 3) := by decide +kernel
theorem dX11_fill_18 : decode cX11_fill 18 = .ok (.aload_n 0, 1) := by decide +kernel
theorem dX11_fill_19 : decode cX11_fill 19 = .ok (.getfield 75, 3) := by decide +kernel
theorem dX11_fill_22 : decode cX11_fill 22 = .ok (.invokevirtual 247, 3) := by decide +kernel
theorem dX11_fill_25 : decode cX11_fill 25 = .ok (.invokevirtual 120, 3) := by decide +kernel
theorem dX11_fill_28 : decode cX11_fill 28 = .ok (.ireturn, 1) := by decide +kernel
theorem dX11_helper_0 : decode cX11_helper 0 = .ok (.aload_n 0, 1) := by decide +kernel
theorem dX11_helper_1 : decode cX11_helper 1 = .ok (.getfield 54, 3) := by decide +kernel
theorem dX11_helper_4 : decode cX11_helper 4 = .ok (.iload_n 1, 1) := by decide +kernel
theorem dX11_helper_5 : decode cX11_helper 5 = .ok (.invokevirtual 251, 3) := by decide +kernel
theorem dX11_helper_8 : decode cX11_helper 8 = .ok (.ireturn, 1) := by decide +kernel
theorem dX11_sign_0 : decode cX11_sign 0 = .ok (.aload_n 0, 1) := by decide +kernel
theorem dX11_sign_1 : decode cX11_sign 1 = .ok (.getfield 75, 3) := by decide +kernel
theorem dX11_sign_4 : decode cX11_sign 4 = .ok (.iconst 3, 1) := by decide +kernel
theorem dX11_sign_5 : decode cX11_sign 5 = .ok (.iload_n 1, 1) := by decide +kernel
theorem dX11_sign_6 : decode cX11_sign 6 = .ok (.invokevirtual 129, 3) := by decide +kernel
theorem dX11_sign_9 : decode cX11_sign 9 = .ok (.ifCond .ne 9, 3) := by decide +kernel
theorem dX11_sign_12 : decode cX11_sign 12 = .ok (.aload_n 0, 1) := by decide +kernel
theorem dX11_sign_13 : decode cX11_sign 13 = .ok (.iconst 1, 1) := by decide +kernel
theorem dX11_sign_14 : decode cX11_sign 14 = .ok (.invokevirtual 100, 3) := by decide +kernel
theorem dX11_sign_17 : decode cX11_sign 17 = .ok (.ireturn, 1) := by decide +kernel
theorem dX11_sign_18 : decode cX11_sign 18 = .ok (.iload_n 2, 1) := by decide +kernel
theorem dX11_sign_19 : decode cX11_sign 19 = .ok (.iconst 0, 1) := by decide +kernel
theorem dX11_sign_20 : decode cX11_sign 20 = .ok (.bipush 99, 2) := by decide +kernel
theorem dX11_sign_22 : decode cX11_sign 22 = .ok (.invokestatic 173, 3) := by decide +kernel
theorem dX11_sign_25 : decode cX11_sign 25 = .ok (.ifCond .ne 9, 3) := by decide +kernel
theorem dX11_sign_28 : decode cX11_sign 28 = .ok (.aload_n 0, 1) := by decide +kernel
theorem dX11_sign_29 : decode cX11_sign 29 = .ok (.iconst 2, 1) := by decide +kernel
theorem dX11_sign_30 : decode cX11_sign 30 = .ok (.invokevirtual 100, 3) := by decide +kernel
theorem dX11_sign_33 : decode cX11_sign 33 = .ok (.ireturn, 1) := by decide +kernel
theorem dX11_sign_34 : decode cX11_sign 34 = .ok (.aload_n 0, 1) := by decide +kernel
theorem dX11_sign_35 : decode cX11_sign 35 = .ok (.getfield 61, 3) := by decide +kernel
theorem dX11_sign_38 : decode cX11_sign 38 = .ok (.iload_n 1, 1) := by decide +kernel
theorem dX11_sign_39 : decode cX11_sign 39 = .ok (.invokevirtual 254, 3) := by decide +kernel
theorem dX11_sign_42 : decode cX11_sign 42 = .ok (.bipush 10, 2) := by decide +kernel
theorem dX11_sign_44 : decode cX11_sign 44 = .ok (.if_icmp .lt 9, 3) := by decide +kernel
theorem dX11_sign_47 : decode cX11_sign 47 = .ok (.aload_n 0, 1) := by decide +kernel
theorem dX11_sign_48 : decode cX11_sign 48 = .ok (.iconst 3, 1) := by decide +kernel
theorem dX11_sign_49 : decode cX11_sign 49 = .ok (.invokevirtual 100, 3) := by decide +kernel
theorem dX11_sign_52 : decode cX11_sign 52 = .ok (.ireturn, 1) := by decide +kernel
theorem dX11_sign_53 : decode cX11_sign 53 = .ok (.aload_n 0, 1) := by decide +kernel
theorem dX11_sign_54 : decode cX11_sign 54 = .ok (.aload_n 0, 1) := by decide +kernel
theorem dX11_sign_55 : decode cX11_sign 55 = .ok (.getfield 61, 3) := by decide +kernel
theorem dX11_sign_58 : decode cX11_sign 58 = .ok (.iload_n 1, 1) := by decide +kernel
theorem dX11_sign_59 : decode cX11_sign 59 = .ok (.iload_n 2, 1) := by decide +kernel
theorem dX11_sign_60 : decode cX11_sign 60 = .ok (.invokevirtual 255, 3) := by decide +kernel
theorem dX11_sign_63 : decode cX11_sign 63 = .ok (.invokevirtual 120, 3) := by decide +kernel
theorem dX11_sign_66 : decode cX11_sign 66 = .ok (.ireturn, 1) := by decide +kernel
theorem dX11_fading_0 : decode cX11_fading 0 = .ok (.aload_n 0, 1) := by decide +kernel
theorem dX11_fading_1 : decode cX11_fading 1 = .ok (.getfield 75, 3) := by decide +kernel
theorem dX11_fading_4 : decode cX11_fading 4 = .ok (.iconst 3, 1) := by decide +kernel
theorem dX11_fading_5 : decode cX11_fading 5 = .ok (.iload_n 1, 1) := by decide +kernel
theorem dX11_fading_6 : decode cX11_fading 6 = .ok (.invokevirtual 129, 3) := by decide +kernel
theorem dX11_fading_9 : decode cX11_fading 9 = .ok (.ifCond .ne 9, 3) := by decide +kernel
theorem dX11_fading_12 : decode cX11_fading 12 = .ok (.aload_n 0, 1) := by decide +kernel
theorem dX11_fading_13 : decode cX11_fading 13 = .ok (.iconst 1, 1) := by decide +kernel
theorem dX11_fading_14 : decode cX11_fading 14 = .ok (.invokevirtual 100, 3) := by decide +kernel
theorem dX11_fading_17 : decode cX11_fading 17 = .ok (.ireturn, 1) := by decide +kernel
theorem dX11_fading_18 : decode cX11_fading 18 = .ok (.aload_n 0, 1) := by decide +kernel
theorem dX11_fading_19 : decode cX11_fading 19 = .ok (.getfield 61, 3) := by decide +kernel
theorem dX11_fading_22 : decode cX11_fading 22 = .ok (.iload_n 1, 1) := by decide +kernel
theorem dX11_fading_23 : decode cX11_fading 23 = .ok (.invokevirtual 254, 3) := by decide +kernel
theorem dX11_fading_26 : decode cX11_fading 26 = .ok (.iconst 4, 1) := by decide +kernel
theorem dX11_fading_27 : decode cX11_fading 27 = .ok (.if_icmp .ge 9, 3) := by decide +kernel
theorem dX11_fading_30 : decode cX11_fading 30 = .ok (.aload_n 0, 1) := by decide +kernel
theorem dX11_fading_31 : decode cX11_fading 31 = .ok (.iconst 5, 1) := by decide +kernel
theorem dX11_fading_32 : decode cX11_fading 32 = .ok (.invokevirtual 100, 3) := by decide +kernel
theorem dX11_fading_35 : decode cX11_fading 35 = .ok (.ireturn, 1) := by decide +kernel
theorem dX11_fading_36 : decode cX11_fading 36 = .ok (.aload_n 0, 1) := by decide +kernel
theorem dX11_fading_37 : decode cX11_fading 37 = .ok (.aload_n 0, 1) := by decide +kernel
theorem dX11_fading_38 : decode cX11_fading 38 = .ok (.getfield 61, 3) := by decide +kernel
theorem dX11_fading_41 : decode cX11_fading 41 = .ok (.iload_n 1, 1) := by decide +kernel
theorem dX11_fading_42 : decode cX11_fading 42 = .ok (.invokevirtual 256, 3) := by decide +kernel
theorem dX11_fading_45 : decode cX11_fading 45 = .ok (.invokevirtual 120, 3) := by decide +kernel
theorem dX11_fading_48 : decode cX11_fading 48 = .ok (.ireturn, 1) := by decide +kernel
theorem dX11_probe_0 : decode cX11_probe 0 = .ok (.aload_n 0, 1) := by decide +kernel
theorem dX11_probe_1 : decode cX11_probe 1 = .ok (.getfield 75, 3) := by decide +kernel
theorem dX11_probe_4 : decode cX11_probe 4 = .ok (.iconst 4, 1) := by decide +kernel
theorem dX11_probe_5 : decode cX11_probe 5 = .ok (.iload_n 1, 1) := by decide +kernel
theorem dX11_probe_6 : decode cX11_probe 6 = .ok (.invokevirtual 129, 3) := by decide +kernel
theorem dX11_probe_9 : decode cX11_probe 9 = .ok (.ifCond .ne 9, 3) := by decide +kernel
theorem dX11_probe_12 : decode cX11_probe 12 = .ok (.aload_n 0, 1) := by decide +kernel
theorem dX11_probe_13 : decode cX11_probe 13 = .ok (.iconst 1, 1) := by decide +kernel
theorem dX11_probe_14 : decode cX11_probe 14 = .ok (.invokevirtual 100, 3) := by decide +kernel
theorem dX11_probe_17 : decode cX11_probe 17 = .ok (.ireturn, 1) := by decide +kernel
theorem dX11_probe_18 : decode cX11_probe 18 = .ok (.aload_n 0, 1) := by decide +kernel
theorem dX11_probe_19 : decode cX11_probe 19 = .ok (.getfield 75, 3) := by decide +kernel
theorem dX11_probe_22 : decode cX11_probe 22 = .ok (.iconst 4, 1) := by decide +kernel
theorem dX11_probe_23 : decode cX11_probe 23 = .ok (.iload_n 1, 1) := by decide +kernel
theorem dX11_probe_24 : decode cX11_probe 24 = .ok (.iconst 1, 1) := by decide +kernel
theorem dX11_probe_25 : decode cX11_probe 25 = .ok (.invokevirtual 139, 3) := by decide +kernel
theorem dX11_probe_28 : decode cX11_probe 28 = .ok (.istore 4, 2) := by decide +kernel
theorem dX11_probe_30 : decode cX11_probe 30 = .ok (.iload_n 2, 1) := by decide +kernel
theorem dX11_probe_31 : decode cX11_probe 31 = .ok (.iload 4, 2) := by decide +kernel
theorem dX11_probe_33 : decode cX11_probe 33 = .ok (.sipush 999, 3) := by decide +kernel
theorem dX11_probe_36 : decode cX11_probe 36 = .ok (.invokestatic 173, 3) := by decide +kernel
theorem dX11_probe_39 : decode cX11_probe 39 = .ok (.ifCond .eq 13, 3) := by decide +kernel
theorem dX11_probe_42 : decode cX11_probe 42 = .ok (.iload_n 3, 1) := by decide +kernel
theorem dX11_probe_43 : decode cX11_probe 43 = .ok (.iconst 0, 1) := by decide +kernel
theorem dX11_probe_44 : decode cX11_probe 44 = .ok (.bipush 99, 2) := by decide +kernel
theorem dX11_probe_46 : decode cX11_probe 46 = .ok (.invokestatic 173, 3) := by decide +kernel
theorem dX11_probe_49 : decode cX11_probe 49 = .ok (.ifCond .ne 9, 3) := by decide +kernel
theorem dX11_probe_52 : decode cX11_probe 52 = .ok (.aload_n 0, 1) := by decide +kernel
theorem dX11_probe_53 : decode cX11_probe 53 = .ok (.iconst 2, 1) := by decide +kernel
theorem dX11_probe_54 : decode cX11_probe 54 = .ok (.invokevirtual 100, 3) := by decide +kernel
theorem dX11_probe_57 : decode cX11_probe 57 = .ok (.ireturn, 1) := by decide +kernel
theorem dX11_probe_58 : decode cX11_probe 58 = .ok (.aload_n 0, 1) := by decide +kernel
theorem dX11_probe_59 : decode cX11_probe 59 = .ok (.getfield 68, 3) := by decide +kernel
theorem dX11_probe_62 : decode cX11_probe 62 = .ok (.getfield 259, 3) := by decide +kernel
theorem dX11_probe_65 : decode cX11_probe 65 = .ok (.bipush 16, 2) := by decide +kernel
theorem dX11_probe_67 : decode cX11_probe 67 = .ok (.if_icmp .lt 9, 3) := by decide +kernel
theorem dX11_probe_70 : decode cX11_probe 70 = .ok (.aload_n 0, 1) := by decide +kernel
theorem dX11_probe_71 : decode cX11_probe 71 = .ok (.iconst 3, 1) := by decide +kernel
theorem dX11_probe_72 : decode cX11_probe 72 = .ok (.invokevirtual 100, 3) := by decide +kernel
theorem dX11_probe_75 : decode cX11_probe 75 = .ok (.ireturn, 1) := by decide +kernel
theorem dX11_probe_76 : decode cX11_probe 76 = .ok (.aload_n 0, 1) := by decide +kernel
theorem dX11_probe_77 : decode cX11_probe 77 = .ok (.aload_n 0, 1) := by decide +kernel
theorem dX11_probe_78 : decode cX11_probe 78 = .ok (.getfield 68, 3) := by decide +kernel
theorem dX11_probe_81 : decode cX11_probe 81 = .ok (.iload_n 1, 1) := by decide +kernel
theorem dX11_probe_82 : decode cX11_probe 82 = .ok (.iload_n 2, 1) := by decide +kernel
theorem dX11_probe_83 : decode cX11_probe 83 = .ok (.iload_n 3, 1) := by decide +kernel
theorem dX11_probe_84 : decode cX11_probe 84 = .ok (.invokevirtual 261, 3) := by decide +kernel
theorem dX11_probe_87 : decode cX11_probe 87 = .ok (.invokevirtual 120, 3) := by decide +kernel
theorem dX11_probe_90 : decode cX11_probe 90 = .ok (.ireturn, 1) := by decide +kernel
theorem dX11_faulty_0 : decode cX11_faulty 0 = .ok (.aload_n 0, 1) := by decide +kernel
theorem dX11_faulty_1 : decode cX11_faulty 1 = .ok (.invokevirtual 149, 3) := by decide +kernel
theorem dX11_faulty_4 : decode cX11_faulty 4 = .ok (.ifCond .eq 9, 3) := by decide +kernel
theorem dX11_faulty_7 : decode cX11_faulty 7 = .ok (.aload_n 0, 1) := by decide +kernel
theorem dX11_faulty_8 : decode cX11_faulty 8 = .ok (.iconst 1, 1) := by decide +kernel
theorem dX11_faulty_9 : decode cX11_faulty 9 = .ok (.invokevirtual 100, 3) := by decide +kernel
theorem dX11_faulty_12 : decode cX11_faulty 12 = .ok (.ireturn, 1) := by decide +kernel
theorem dX11_faulty_13 : decode cX11_faulty 13 = .ok (.iload_n 1, 1) := by decide +kernel
theorem dX11_faulty_14 : decode cX11_faulty 14 = .ok (.iconst 0, 1) := by decide +kernel
theorem dX11_faulty_15 : decode cX11_faulty 15 = .ok (.bipush 99, 2) := by decide +kernel
theorem dX11_faulty_17 : decode cX11_faulty 17 = .ok (.invokestatic 173, 3) := by decide +kernel
theorem dX11_faulty_20 : decode cX11_faulty 20 = .ok (.ifCond .ne 9, 3) := by decide +kernel
theorem dX11_faulty_23 : decode cX11_faulty 23 = .ok (.aload_n 0, 1) := by decide +kernel
theorem dX11_faulty_24 : decode cX11_faulty 24 = .ok (.iconst 2, 1) := by decide +kernel
theorem dX11_faulty_25 : decode cX11_faulty 25 = .ok (.invokevirtual 100, 3) := by decide +kernel
theorem dX11_faulty_28 : decode cX11_faulty 28 = .ok (.ireturn, 1) := by decide +kernel
theorem dX11_faulty_29 : decode cX11_faulty 29 = .ok (.aload_n 0, 1) := by decide +kernel
theorem dX11_faulty_30 : decode cX11_faulty 30 = .ok (.aload_n 0, 1) := by decide +kernel
theorem dX11_faulty_31 : decode cX11_faulty 31 = .ok (.getfield 68, 3) := by decide +kernel
theorem dX11_faulty_34 : decode cX11_faulty 34 = .ok (.aload_n 0, 1) := by decide +kernel
theorem dX11_faulty_35 : decode cX11_faulty 35 = .ok (.getfield 75, 3) := by decide +kernel
theorem dX11_faulty_38 : decode cX11_faulty 38 = .ok (.iload_n 1, 1) := by decide +kernel
theorem dX11_faulty_39 : decode cX11_faulty 39 = .ok (.invokevirtual 263, 3) := by decide +kernel
theorem dX11_faulty_42 : decode cX11_faulty 42 = .ok (.invokevirtual 120, 3) := by decide +kernel
theorem dX11_faulty_45 : decode cX11_faulty 45 = .ok (.ireturn, 1) := by decide +kernel
theorem dX11_firstCold_0 : decode cX11_firstCold 0 = .ok (.aload_n 0, 1) := by decide +kernel
theorem dX11_firstCold_1 : decode cX11_firstCold 1 = .ok (.invokevirtual 149, 3) := by decide +kernel
theorem dX11_firstCold_4 : decode cX11_firstCold 4 = .ok (.ifCond .eq 9, 3) := by decide +kernel
theorem dX11_firstCold_7 : decode cX11_firstCold 7 = .ok (.aload_n 0, 1) := by decide +kernel
theorem dX11_firstCold_8 : decode cX11_firstCold 8 = .ok (.iconst 1, 1) := by decide +kernel
theorem dX11_firstCold_9 : decode cX11_firstCold 9 = .ok (.invokevirtual 100, 3) := by decide +kernel
theorem dX11_firstCold_12 : decode cX11_firstCold 12 = .ok (.ireturn, 1) := by decide +kernel
theorem dX11_firstCold_13 : decode cX11_firstCold 13 = .ok (.aload_n 0, 1) := by decide +kernel
theorem dX11_firstCold_14 : decode cX11_firstCold 14 = .ok (.aload_n 0, 1) := by decide +kernel
theorem dX11_firstCold_15 : decode cX11_firstCold 15 = .ok (.getfield 68, 3) := by decide +kernel
theorem dX11_firstCold_18 : decode cX11_firstCold 18 = .ok (.aload_n 0, 1) := by decide +kernel
theorem dX11_firstCold_19 : decode cX11_firstCold 19 = .ok (.getfield 75, 3) := by decide +kernel
theorem dX11_firstCold_22 : decode cX11_firstCold 22 = .ok (.bipush 8, 2) := by decide +kernel
theorem dX11_firstCold_24 : decode cX11_firstCold 24 = .ok (.iconst 0, 1) := by decide +kernel
theorem dX11_firstCold_25 : decode cX11_firstCold 25 = .ok (.iconst 0, 1) := by decide +kernel
theorem dX11_firstCold_26 : decode cX11_firstCold 26 = .ok (.invokevirtual 139, 3) := by decide +kernel
theorem dX11_firstCold_29 : decode cX11_firstCold 29 = .ok (.invokevirtual 266, 3) := by decide +kernel
theorem dX11_firstCold_32 : decode cX11_firstCold 32 = .ok (.invokevirtual 120, 3) := by decide +kernel
theorem dX11_firstCold_35 : decode cX11_firstCold 35 = .ok (.ireturn, 1) := by decide +kernel
theorem dX11_recall_0 : decode cX11_recall 0 = .ok (.aload_n 0, 1) := by decide +kernel
theorem dX11_recall_1 : decode cX11_recall 1 = .ok (.getfield 75, 3) := by decide +kernel
theorem dX11_recall_4 : decode cX11_recall 4 = .ok (.iconst 0, 1) := by decide +kernel
theorem dX11_recall_5 : decode cX11_recall 5 = .ok (.iload_n 1, 1) := by decide +kernel
theorem dX11_recall_6 : decode cX11_recall 6 = .ok (.invokevirtual 129, 3) := by decide +kernel
theorem dX11_recall_9 : decode cX11_recall 9 = .ok (.ifCond .ne 9, 3) := by decide +kernel
theorem dX11_recall_12 : decode cX11_recall 12 = .ok (.aload_n 0, 1) := by decide +kernel
theorem dX11_recall_13 : decode cX11_recall 13 = .ok (.iconst 1, 1) := by decide +kernel
theorem dX11_recall_14 : decode cX11_recall 14 = .ok (.invokevirtual 100, 3) := by decide +kernel
theorem dX11_recall_17 : decode cX11_recall 17 = .ok (.ireturn, 1) := by decide +kernel
theorem dX11_recall_18 : decode cX11_recall 18 = .ok (.iconst 0, 1) := by decide +kernel
theorem dX11_recall_19 : decode cX11_recall 19 = .ok (.istore_n 2, 1) := by decide +kernel
theorem dX11_recall_20 : decode cX11_recall 20 = .ok (.iconst 0, 1) := by decide +kernel
theorem dX11_recall_21 : decode cX11_recall 21 = .ok (.istore_n 3, 1) := by decide +kernel
theorem dX11_recall_22 : decode cX11_recall 22 = .ok (.iload_n 3, 1) := by decide +kernel
theorem dX11_recall_23 : decode cX11_recall 23 = .ok (.aload_n 0, 1) := by decide +kernel
theorem dX11_recall_24 : decode cX11_recall 24 = .ok (.getfield 75, 3) := by decide +kernel
theorem dX11_recall_27 : decode cX11_recall 27 = .ok (.iconst 4, 1) := by decide +kernel
theorem dX11_recall_28 : decode cX11_recall 28 = .ok (.invokevirtual 117, 3) := by decide +kernel
theorem dX11_recall_31 : decode cX11_recall 31 = .ok (.if_icmp .ge 34, 3) := by decide +kernel
theorem dX11_recall_34 : decode cX11_recall 34 = .ok (.aload_n 0, 1) := by decide +kernel
theorem dX11_recall_35 : decode cX11_recall 35 = .ok (.getfield 75, 3) := by decide +kernel
theorem dX11_recall_38 : decode cX11_recall 38 = .ok (.iconst 4, 1) := by decide +kernel
theorem dX11_recall_39 : decode cX11_recall 39 = .ok (.iload_n 3, 1) := by decide +kernel
theorem dX11_recall_40 : decode cX11_recall 40 = .ok (.iconst 0, 1) := by decide +kernel
theorem dX11_recall_41 : decode cX11_recall 41 = .ok (.invokevirtual 139, 3) := by decide +kernel
theorem dX11_recall_44 : decode cX11_recall 44 = .ok (.iload_n 1, 1) := by decide +kernel
theorem dX11_recall_45 : decode cX11_recall 45 = .ok (.if_icmp .ne 14, 3) := by decide +kernel
theorem dX11_recall_48 : decode cX11_recall 48 = .ok (.iload_n 2, 1) := by decide +kernel
theorem dX11_recall_49 : decode cX11_recall 49 = .ok (.aload_n 0, 1) := by decide +kernel
theorem dX11_recall_50 : decode cX11_recall 50 = .ok (.getfield 19, 3) := by decide +kernel
theorem dX11_recall_53 : decode cX11_recall 53 = .ok (.iload_n 3, 1) := by decide +kernel
theorem dX11_recall_54 : decode cX11_recall 54 = .ok (.invokevirtual 269, 3) := by decide +kernel
theorem dX11_recall_57 : decode cX11_recall 57 = .ok (.ior, 1) := by decide +kernel
theorem dX11_recall_58 : decode cX11_recall 58 = .ok (.istore_n 2, 1) := by decide +kernel
theorem dX11_recall_59 : decode cX11_recall 59 = .ok (.iinc 3 1, 3) := by decide +kernel
theorem dX11_recall_62 : decode cX11_recall 62 = .ok (.goto (-40), 3) := by decide +kernel
theorem dX11_recall_65 : decode cX11_recall 65 = .ok (.aload_n 0, 1) := by decide +kernel
theorem dX11_recall_66 : decode cX11_recall 66 = .ok (.iload_n 2, 1) := by decide +kernel
theorem dX11_recall_67 : decode cX11_recall 67 = .ok (.invokevirtual 120, 3) := by decide +kernel
theorem dX11_recall_70 : decode cX11_recall 70 = .ok (.ireturn, 1) := by decide +kernel
theorem dX11_led_0 : decode cX11_led 0 = .ok (.aload_n 0, 1) := by decide +kernel
theorem dX11_led_1 : decode cX11_led 1 = .ok (.getfield 19, 3) := by decide +kernel
theorem dX11_led_4 : decode cX11_led 4 = .ok (.iload_n 1, 1) := by decide +kernel
theorem dX11_led_5 : decode cX11_led 5 = .ok (.iload_n 2, 1) := by decide +kernel
theorem dX11_led_6 : decode cX11_led 6 = .ok (.invokevirtual 272, 3) := by decide +kernel
theorem dX11_led_9 : decode cX11_led 9 = .ok (.istore_n 3, 1) := by decide +kernel
theorem dX11_led_10 : decode cX11_led 10 = .ok (.iload_n 3, 1) := by decide +kernel
theorem dX11_led_11 : decode cX11_led 11 = .ok (.iconst (-1), 1) := by decide +kernel
theorem dX11_led_12 : decode cX11_led 12 = .ok (.if_icmp .ne 14, 3) := by decide +kernel
theorem dX11_led_15 : decode cX11_led 15 = .ok (.new 274, 3) := by decide +kernel
theorem dX11_led_18 : decode cX11_led 18 = .ok (.dup, 1) := by decide +kernel
theorem dX11_led_19 : decode cX11_led 19 = .ok (.ldc_w 276, 3) := by decide +kernel
theorem dX11_led_22 : decode cX11_led 22 = .ok (.invokespecial 278, 3) := by decide +kernel
theorem dX11_led_25 : decode cX11_led 25 = .ok (.athrow, 1) := by decide +kernel
theorem dX11_led_26 : decode cX11_led 26 = .ok (.iload_n 3, 1) := by decide +kernel
theorem dX11_led_27 : decode cX11_led 27 = .ok (.ireturn, 1) := by decide +kernel
theorem dX11_size_0 : decode cX11_size 0 = .ok (.iload_n 1, 1) := by decide +kernel
theorem dX11_size_1 : decode cX11_size 1 = .ok (.ifCond .lt 18, 3) := by decide +kernel
theorem dX11_size_4 : decode cX11_size 4 = .ok (.iload_n 1, 1) := by decide +kernel
theorem dX11_size_5 : decode cX11_size 5 = .ok (.bipush 8, 2) := by decide +kernel
theorem dX11_size_7 : decode cX11_size 7 = .ok (.if_icmp .ge 12, 3) := by decide +kernel
theorem dX11_size_10 : decode cX11_size 10 = .ok (.aload_n 0, 1) := by decide +kernel
theorem dX11_size_11 : decode cX11_size 11 = .ok (.getfield 75, 3) := by decide +kernel
theorem dX11_size_14 : decode cX11_size 14 = .ok (.iload_n 1, 1) := by decide +kernel
theorem dX11_size_15 : decode cX11_size 15 = .ok (.invokevirtual 117, 3) := by decide +kernel
theorem dX11_size_18 : decode cX11_size 18 = .ok (.ireturn, 1) := by decide +kernel
theorem dX11_size_19 : decode cX11_size 19 = .ok (.iload_n 1, 1) := by decide +kernel
theorem dX11_size_20 : decode cX11_size 20 = .ok (.tableswitch 55 8 10 #[28, 36, 44], 28) := by decide +kernel
theorem dX11_size_48 : decode cX11_size 48 = .ok (.aload_n 0, 1) := by decide +kernel
theorem dX11_size_49 : decode cX11_size 49 = .ok (.getfield 68, 3) := by decide +kernel
theorem dX11_size_52 : decode cX11_size 52 = .ok (.getfield 259, 3) := by decide +kernel
theorem dX11_size_55 : decode cX11_size 55 = .ok (.ireturn, 1) := by decide +kernel
theorem dX11_size_56 : decode cX11_size 56 = .ok (.aload_n 0, 1) := by decide +kernel
theorem dX11_size_57 : decode cX11_size 57 = .ok (.getfield 19, 3) := by decide +kernel
theorem dX11_size_60 : decode cX11_size 60 = .ok (.getfield 156, 3) := by decide +kernel
theorem dX11_size_63 : decode cX11_size 63 = .ok (.ireturn, 1) := by decide +kernel
theorem dX11_size_64 : decode cX11_size 64 = .ok (.aload_n 0, 1) := by decide +kernel
theorem dX11_size_65 : decode cX11_size 65 = .ok (.getfield 10, 3) := by decide +kernel
theorem dX11_size_68 : decode cX11_size 68 = .ok (.getfield 83, 3) := by decide +kernel
theorem dX11_size_71 : decode cX11_size 71 = .ok (.getfield 97, 3) := by decide +kernel
theorem dX11_size_74 : decode cX11_size 74 = .ok (.ireturn, 1) := by decide +kernel
theorem dX11_size_75 : decode cX11_size 75 = .ok (.iconst (-1), 1) := by decide +kernel
theorem dX11_size_76 : decode cX11_size 76 = .ok (.ireturn, 1) := by decide +kernel
theorem dX11_trouble_0 : decode cX11_trouble 0 = .ok (.aload_n 0, 1) := by decide +kernel
theorem dX11_trouble_1 : decode cX11_trouble 1 = .ok (.getfield 79, 3) := by decide +kernel
theorem dX11_trouble_4 : decode cX11_trouble 4 = .ok (.ireturn, 1) := by decide +kernel
theorem dX11_refuse_0 : decode cX11_refuse 0 = .ok (.aload_n 0, 1) := by decide +kernel
theorem dX11_refuse_1 : decode cX11_refuse 1 = .ok (.iload_n 1, 1) := by decide +kernel
theorem dX11_refuse_2 : decode cX11_refuse 2 = .ok (.putfield 79, 3) := by decide +kernel
theorem dX11_refuse_5 : decode cX11_refuse 5 = .ok (.iconst (-1), 1) := by decide +kernel
theorem dX11_refuse_6 : decode cX11_refuse 6 = .ok (.ireturn, 1) := by decide +kernel
theorem dX11_accept_0 : decode cX11_accept 0 = .ok (.aload_n 0, 1) := by decide +kernel
theorem dX11_accept_1 : decode cX11_accept 1 = .ok (.iconst 0, 1) := by decide +kernel
theorem dX11_accept_2 : decode cX11_accept 2 = .ok (.putfield 79, 3) := by decide +kernel
theorem dX11_accept_5 : decode cX11_accept 5 = .ok (.iload_n 1, 1) := by decide +kernel
theorem dX11_accept_6 : decode cX11_accept 6 = .ok (.ireturn, 1) := by decide +kernel
theorem dX11_noDay_0 : decode cX11_noDay 0 = .ok (.aload_n 0, 1) := by decide +kernel
theorem dX11_noDay_1 : decode cX11_noDay 1 = .ok (.getfield 75, 3) := by decide +kernel
theorem dX11_noDay_4 : decode cX11_noDay 4 = .ok (.iconst 3, 1) := by decide +kernel
theorem dX11_noDay_5 : decode cX11_noDay 5 = .ok (.invokevirtual 117, 3) := by decide +kernel
theorem dX11_noDay_8 : decode cX11_noDay 8 = .ok (.ifCond .ne 7, 3) := by decide +kernel
theorem dX11_noDay_11 : decode cX11_noDay 11 = .ok (.iconst 1, 1) := by decide +kernel
theorem dX11_noDay_12 : decode cX11_noDay 12 = .ok (.goto 4, 3) := by decide +kernel
theorem dX11_noDay_15 : decode cX11_noDay 15 = .ok (.iconst 0, 1) := by decide +kernel
theorem dX11_noDay_16 : decode cX11_noDay 16 = .ok (.ireturn, 1) := by decide +kernel
theorem dX11_forgetDoings_0 : decode cX11_forgetDoings 0 = .ok (.aload_n 0, 1) := by decide +kernel
theorem dX11_forgetDoings_1 : decode cX11_forgetDoings 1 = .ok (.getfield 19, 3) := by decide +kernel
theorem dX11_forgetDoings_4 : decode cX11_forgetDoings 4 = .ok (.invokevirtual 281, 3) := by decide +kernel
theorem dX11_forgetDoings_7 : decode cX11_forgetDoings 7 = .ok (.aload_n 0, 1) := by decide +kernel
theorem dX11_forgetDoings_8 : decode cX11_forgetDoings 8 = .ok (.getfield 26, 3) := by decide +kernel
theorem dX11_forgetDoings_11 : decode cX11_forgetDoings 11 = .ok (.invokevirtual 284, 3) := by decide +kernel
theorem dX11_forgetDoings_14 : decode cX11_forgetDoings 14 = .ok (.aload_n 0, 1) := by decide +kernel
theorem dX11_forgetDoings_15 : decode cX11_forgetDoings 15 = .ok (.getfield 33, 3) := by decide +kernel
theorem dX11_forgetDoings_18 : decode cX11_forgetDoings 18 = .ok (.invokevirtual 287, 3) := by decide +kernel
theorem dX11_forgetDoings_21 : decode cX11_forgetDoings 21 = .ok (.aload_n 0, 1) := by decide +kernel
theorem dX11_forgetDoings_22 : decode cX11_forgetDoings 22 = .ok (.getfield 40, 3) := by decide +kernel
theorem dX11_forgetDoings_25 : decode cX11_forgetDoings 25 = .ok (.invokevirtual 288, 3) := by decide +kernel
theorem dX11_forgetDoings_28 : decode cX11_forgetDoings 28 = .ok (.aload_n 0, 1) := by decide +kernel
theorem dX11_forgetDoings_29 : decode cX11_forgetDoings 29 = .ok (.getfield 47, 3) := by decide +kernel
theorem dX11_forgetDoings_32 : decode cX11_forgetDoings 32 = .ok (.invokevirtual 289, 3) := by decide +kernel
theorem dX11_forgetDoings_35 : decode cX11_forgetDoings 35 = .ok (.aload_n 0, 1) := by decide +kernel
theorem dX11_forgetDoings_36 : decode cX11_forgetDoings 36 = .ok (.getfield 54, 3) := by decide +kernel
theorem dX11_forgetDoings_39 : decode cX11_forgetDoings 39 = .ok (.invokevirtual 290, 3) := by decide +kernel
theorem dX11_forgetDoings_42 : decode cX11_forgetDoings 42 = .ok (.aload_n 0, 1) := by decide +kernel
theorem dX11_forgetDoings_43 : decode cX11_forgetDoings 43 = .ok (.getfield 61, 3) := by decide +kernel
theorem dX11_forgetDoings_46 : decode cX11_forgetDoings 46 = .ok (.invokevirtual 291, 3) := by decide +kernel
theorem dX11_forgetDoings_49 : decode cX11_forgetDoings 49 = .ok (.aload_n 0, 1) := by decide +kernel
theorem dX11_forgetDoings_50 : decode cX11_forgetDoings 50 = .ok (.getfield 68, 3) := by decide +kernel
theorem dX11_forgetDoings_53 : decode cX11_forgetDoings 53 = .ok (.invokevirtual 292, 3) := by decide +kernel
theorem dX11_forgetDoings_56 : decode cX11_forgetDoings 56 = .ok (.return_, 1) := by decide +kernel
theorem dX11_drivenTrouble_0 : decode cX11_drivenTrouble 0 = .ok (.aload_n 0, 1) := by decide +kernel
theorem dX11_drivenTrouble_1 : decode cX11_drivenTrouble 1 = .ok (.getfield 75, 3) := by decide +kernel
theorem dX11_drivenTrouble_4 : decode cX11_drivenTrouble 4 = .ok (.iconst 3, 1) := by decide +kernel
theorem dX11_drivenTrouble_5 : decode cX11_drivenTrouble 5 = .ok (.iload_n 1, 1) := by decide +kernel
theorem dX11_drivenTrouble_6 : decode cX11_drivenTrouble 6 = .ok (.invokevirtual 129, 3) := by decide +kernel
theorem dX11_drivenTrouble_9 : decode cX11_drivenTrouble 9 = .ok (.ifCond .ne 5, 3) := by decide +kernel
theorem dX11_drivenTrouble_12 : decode cX11_drivenTrouble 12 = .ok (.iconst 1, 1) := by decide +kernel
theorem dX11_drivenTrouble_13 : decode cX11_drivenTrouble 13 = .ok (.ireturn, 1) := by decide +kernel
theorem dX11_drivenTrouble_14 : decode cX11_drivenTrouble 14 = .ok (.aload_n 0, 1) := by decide +kernel
theorem dX11_drivenTrouble_15 : decode cX11_drivenTrouble 15 = .ok (.getfield 19, 3) := by decide +kernel
theorem dX11_drivenTrouble_18 : decode cX11_drivenTrouble 18 = .ok (.iload_n 1, 1) := by decide +kernel
theorem dX11_drivenTrouble_19 : decode cX11_drivenTrouble 19 = .ok (.invokevirtual 133, 3) := by decide +kernel
theorem dX11_drivenTrouble_22 : decode cX11_drivenTrouble 22 = .ok (.iconst (-1), 1) := by decide +kernel
theorem dX11_drivenTrouble_23 : decode cX11_drivenTrouble 23 = .ok (.if_icmp .ne 8, 3) := by decide +kernel
theorem dX11_drivenTrouble_26 : decode cX11_drivenTrouble 26 = .ok (.bipush 6, 2) := by decide +kernel
theorem dX11_drivenTrouble_28 : decode cX11_drivenTrouble 28 = .ok (.goto 4, 3) := by decide +kernel
theorem dX11_drivenTrouble_31 : decode cX11_drivenTrouble 31 = .ok (.iconst 0, 1) := by decide +kernel
theorem dX11_drivenTrouble_32 : decode cX11_drivenTrouble 32 = .ok (.ireturn, 1) := by decide +kernel
theorem dX11_bestTrouble_0 : decode cX11_bestTrouble 0 = .ok (.aload_n 0, 1) := by decide +kernel
theorem dX11_bestTrouble_1 : decode cX11_bestTrouble 1 = .ok (.getfield 75, 3) := by decide +kernel
theorem dX11_bestTrouble_4 : decode cX11_bestTrouble 4 = .ok (.iconst 4, 1) := by decide +kernel
theorem dX11_bestTrouble_5 : decode cX11_bestTrouble 5 = .ok (.iload_n 1, 1) := by decide +kernel
theorem dX11_bestTrouble_6 : decode cX11_bestTrouble 6 = .ok (.invokevirtual 129, 3) := by decide +kernel
theorem dX11_bestTrouble_9 : decode cX11_bestTrouble 9 = .ok (.ifCond .eq 14, 3) := by decide +kernel
theorem dX11_bestTrouble_12 : decode cX11_bestTrouble 12 = .ok (.aload_n 0, 1) := by decide +kernel
theorem dX11_bestTrouble_13 : decode cX11_bestTrouble 13 = .ok (.getfield 75, 3) := by decide +kernel
theorem dX11_bestTrouble_16 : decode cX11_bestTrouble 16 = .ok (.iload_n 2, 1) := by decide +kernel
theorem dX11_bestTrouble_17 : decode cX11_bestTrouble 17 = .ok (.invokevirtual 153, 3) := by decide +kernel
theorem dX11_bestTrouble_20 : decode cX11_bestTrouble 20 = .ok (.ifCond .ne 5, 3) := by decide +kernel
theorem dX11_bestTrouble_23 : decode cX11_bestTrouble 23 = .ok (.iconst 1, 1) := by decide +kernel
theorem dX11_bestTrouble_24 : decode cX11_bestTrouble 24 = .ok (.ireturn, 1) := by decide +kernel
theorem dX11_bestTrouble_25 : decode cX11_bestTrouble 25 = .ok (.iload_n 2, 1) := by decide +kernel
theorem dX11_bestTrouble_26 : decode cX11_bestTrouble 26 = .ok (.invokestatic 190, 3) := by decide +kernel
theorem dX11_bestTrouble_29 : decode cX11_bestTrouble 29 = .ok (.aload_n 0, 1) := by decide +kernel
theorem dX11_bestTrouble_30 : decode cX11_bestTrouble 30 = .ok (.getfield 75, 3) := by decide +kernel
theorem dX11_bestTrouble_33 : decode cX11_bestTrouble 33 = .ok (.iconst 4, 1) := by decide +kernel
theorem dX11_bestTrouble_34 : decode cX11_bestTrouble 34 = .ok (.iload_n 1, 1) := by decide +kernel
theorem dX11_bestTrouble_35 : decode cX11_bestTrouble 35 = .ok (.iconst 2, 1) := by decide +kernel
theorem dX11_bestTrouble_36 : decode cX11_bestTrouble 36 = .ok (.invokevirtual 139, 3) := by decide +kernel
theorem dX11_bestTrouble_39 : decode cX11_bestTrouble 39 = .ok (.if_icmp .gt 7, 3) := by decide +kernel
theorem dX11_bestTrouble_42 : decode cX11_bestTrouble 42 = .ok (.iconst 1, 1) := by decide +kernel
theorem dX11_bestTrouble_43 : decode cX11_bestTrouble 43 = .ok (.goto 4, 3) := by decide +kernel
theorem dX11_bestTrouble_46 : decode cX11_bestTrouble 46 = .ok (.iconst 0, 1) := by decide +kernel
theorem dX11_bestTrouble_47 : decode cX11_bestTrouble 47 = .ok (.istore_n 3, 1) := by decide +kernel
theorem dX11_bestTrouble_48 : decode cX11_bestTrouble 48 = .ok (.iload_n 3, 1) := by decide +kernel
theorem dX11_bestTrouble_49 : decode cX11_bestTrouble 49 = .ok (.ifCond .eq 7, 3) := by decide +kernel
theorem dX11_bestTrouble_52 : decode cX11_bestTrouble 52 = .ok (.iconst 0, 1) := by decide +kernel
theorem dX11_bestTrouble_53 : decode cX11_bestTrouble 53 = .ok (.goto 4, 3) := by decide +kernel
theorem dX11_bestTrouble_56 : decode cX11_bestTrouble 56 = .ok (.iconst 3, 1) := by decide +kernel
theorem dX11_bestTrouble_57 : decode cX11_bestTrouble 57 = .ok (.ireturn, 1) := by decide +kernel
theorem dX11_callTrouble_0 : decode cX11_callTrouble 0 = .ok (.aload_n 0, 1) := by decide +kernel
theorem dX11_callTrouble_1 : decode cX11_callTrouble 1 = .ok (.invokevirtual 149, 3) := by decide +kernel
theorem dX11_callTrouble_4 : decode cX11_callTrouble 4 = .ok (.ifCond .eq 5, 3) := by decide +kernel
theorem dX11_callTrouble_7 : decode cX11_callTrouble 7 = .ok (.iconst 1, 1) := by decide +kernel
theorem dX11_callTrouble_8 : decode cX11_callTrouble 8 = .ok (.ireturn, 1) := by decide +kernel
theorem dX11_callTrouble_9 : decode cX11_callTrouble 9 = .ok (.aload_n 0, 1) := by decide +kernel
theorem dX11_callTrouble_10 : decode cX11_callTrouble 10 = .ok (.getfield 75, 3) := by decide +kernel
theorem dX11_callTrouble_13 : decode cX11_callTrouble 13 = .ok (.bipush 6, 2) := by decide +kernel
theorem dX11_callTrouble_15 : decode cX11_callTrouble 15 = .ok (.invokevirtual 117, 3) := by decide +kernel
theorem dX11_callTrouble_18 : decode cX11_callTrouble 18 = .ok (.ifCond .ne 8, 3) := by decide +kernel
theorem dX11_callTrouble_21 : decode cX11_callTrouble 21 = .ok (.bipush 6, 2) := by decide +kernel
theorem dX11_callTrouble_23 : decode cX11_callTrouble 23 = .ok (.goto 4, 3) := by decide +kernel
theorem dX11_callTrouble_26 : decode cX11_callTrouble 26 = .ok (.iconst 0, 1) := by decide +kernel
theorem dX11_callTrouble_27 : decode cX11_callTrouble 27 = .ok (.ireturn, 1) := by decide +kernel
theorem dX11_isWithin_0 : decode cX11_isWithin 0 = .ok (.iload_n 0, 1) := by decide +kernel
theorem dX11_isWithin_1 : decode cX11_isWithin 1 = .ok (.iload_n 1, 1) := by decide +kernel
theorem dX11_isWithin_2 : decode cX11_isWithin 2 = .ok (.if_icmp .lt 12, 3) := by decide +kernel
theorem dX11_isWithin_5 : decode cX11_isWithin 5 = .ok (.iload_n 0, 1) := by decide +kernel
theorem dX11_isWithin_6 : decode cX11_isWithin 6 = .ok (.iload_n 2, 1) := by decide +kernel
theorem dX11_isWithin_7 : decode cX11_isWithin 7 = .ok (.if_icmp .gt 7, 3) := by decide +kernel
theorem dX11_isWithin_10 : decode cX11_isWithin 10 = .ok (.iconst 1, 1) := by decide +kernel
theorem dX11_isWithin_11 : decode cX11_isWithin 11 = .ok (.goto 4, 3) := by decide +kernel
theorem dX11_isWithin_14 : decode cX11_isWithin 14 = .ok (.iconst 0, 1) := by decide +kernel
theorem dX11_isWithin_15 : decode cX11_isWithin 15 = .ok (.ireturn, 1) := by decide +kernel
theorem dX12_init_0 : decode cX12_init 0 = .ok (.aload_n 0, 1) := by decide +kernel
theorem dX12_init_1 : decode cX12_init 1 = .ok (.invokespecial 3, 3) := by decide +kernel
theorem dX12_init_4 : decode cX12_init 4 = .ok (.aload_n 0, 1) := by decide +kernel
theorem dX12_init_5 : decode cX12_init 5 = .ok (.iconst (-1), 1) := by decide +kernel
theorem dX12_init_6 : decode cX12_init 6 = .ok (.putfield 9, 3) := by decide +kernel
theorem dX12_init_9 : decode cX12_init 9 = .ok (.aload_n 0, 1) := by decide +kernel
theorem dX12_init_10 : decode cX12_init 10 = .ok (.iconst 3, 1) := by decide +kernel
theorem dX12_init_11 : decode cX12_init 11 = .ok (.newarray .int, 2) := by decide +kernel
theorem dX12_init_13 : decode cX12_init 13 = .ok (.putfield 15, 3) := by decide +kernel
theorem dX12_init_16 : decode cX12_init 16 = .ok (.aload_n 0, 1) := by decide +kernel
theorem dX12_init_17 : decode cX12_init 17 = .ok (.iconst 3, 1) := by decide +kernel
theorem dX12_init_18 : decode cX12_init 18 = .ok (.newarray .int, 2) := by decide +kernel
theorem dX12_init_20 : decode cX12_init 20 = .ok (.putfield 19, 3) := by decide +kernel
theorem dX12_init_23 : decode cX12_init 23 = .ok (.aload_n 0, 1) := by decide +kernel
theorem dX12_init_24 : decode cX12_init 24 = .ok (.bipush 6, 2) := by decide +kernel
theorem dX12_init_26 : decode cX12_init 26 = .ok (.newarray .int, 2) := by decide +kernel
theorem dX12_init_28 : decode cX12_init 28 = .ok (.putfield 22, 3) := by decide +kernel
theorem dX12_init_31 : decode cX12_init 31 = .ok (.aload_n 0, 1) := by decide +kernel
theorem dX12_init_32 : decode cX12_init 32 = .ok (.bipush 6, 2) := by decide +kernel
theorem dX12_init_34 : decode cX12_init 34 = .ok (.newarray .int, 2) := by decide +kernel
theorem dX12_init_36 : decode cX12_init 36 = .ok (.putfield 25, 3) := by decide +kernel
theorem dX12_init_39 : decode cX12_init 39 = .ok (.aload_n 0, 1) := by decide +kernel
theorem dX12_init_40 : decode cX12_init 40 = .ok (.iconst 4, 1) := by decide +kernel
theorem dX12_init_41 : decode cX12_init 41 = .ok (.newarray .int, 2) := by decide +kernel
theorem dX12_init_43 : decode cX12_init 43 = .ok (.putfield 28, 3) := by decide +kernel
theorem dX12_init_46 : decode cX12_init 46 = .ok (.aload_n 0, 1) := by decide +kernel
theorem dX12_init_47 : decode cX12_init 47 = .ok (.iconst 3, 1) := by decide +kernel
theorem dX12_init_48 : decode cX12_init 48 = .ok (.newarray .int, 2) := by decide +kernel
theorem dX12_init_50 : decode cX12_init 50 = .ok (.putfield 31, 3) := by decide +kernel
theorem dX12_init_53 : decode cX12_init 53 = .ok (.aload_n 0, 1) := by decide +kernel
theorem dX12_init_54 : decode cX12_init 54 = .ok (.iconst 3, 1) := by decide +kernel
theorem dX12_init_55 : decode cX12_init 55 = .ok (.newarray .int, 2) := by decide +kernel
theorem dX12_init_57 : decode cX12_init 57 = .ok (.putfield 34, 3) := by decide +kernel
theorem dX12_init_60 : decode cX12_init 60 = .ok (.aload_n 0, 1) := by decide +kernel
theorem dX12_init_61 : decode cX12_init 61 = .ok (.bipush 6, 2) := by decide +kernel
theorem dX12_init_63 : decode cX12_init 63 = .ok (.newarray .int, 2) := by decide +kernel
theorem dX12_init_65 : decode cX12_init 65 = .ok (.putfield 37, 3) := by decide +kernel
theorem dX12_init_68 : decode cX12_init 68 = .ok (.aload_n 0, 1) := by decide +kernel
theorem dX12_init_69 : decode cX12_init 69 = .ok (.bipush 6, 2) := by decide +kernel
theorem dX12_init_71 : decode cX12_init 71 = .ok (.newarray .int, 2) := by decide +kernel
theorem dX12_init_73 : decode cX12_init 73 = .ok (.putfield 40, 3) := by decide +kernel
theorem dX12_init_76 : decode cX12_init 76 = .ok (.aload_n 0, 1) := by decide +kernel
theorem dX12_init_77 : decode cX12_init 77 = .ok (.bipush 6, 2) := by decide +kernel
theorem dX12_init_79 : decode cX12_init 79 = .ok (.newarray .int, 2) := by decide +kernel
theorem dX12_init_81 : decode cX12_init 81 = .ok (.putfield 43, 3) := by decide +kernel
theorem dX12_init_84 : decode cX12_init 84 = .ok (.aload_n 0, 1) := by decide +kernel
theorem dX12_init_85 : decode cX12_init 85 = .ok (.bipush 6, 2) := by decide +kernel
theorem dX12_init_87 : decode cX12_init 87 = .ok (.newarray .int, 2) := by decide +kernel
theorem dX12_init_89 : decode cX12_init 89 = .ok (.putfield 46, 3) := by decide +kernel
theorem dX12_init_92 : decode cX12_init 92 = .ok (.aload_n 0, 1) := by decide +kernel
theorem dX12_init_93 : decode cX12_init 93 = .ok (.bipush 6, 2) := by decide +kernel
theorem dX12_init_95 : decode cX12_init 95 = .ok (.newarray .int, 2) := by decide +kernel
theorem dX12_init_97 : decode cX12_init 97 = .ok (.putfield 49, 3) := by decide +kernel
theorem dX12_init_100 : decode cX12_init 100 = .ok (.aload_n 0, 1) := by decide +kernel
theorem dX12_init_101 : decode cX12_init 101 = .ok (.bipush 6, 2) := by decide +kernel
theorem dX12_init_103 : decode cX12_init 103 = .ok (.newarray .int, 2) := by decide +kernel
theorem dX12_init_105 : decode cX12_init 105 = .ok (.putfield 52, 3) := by decide +kernel
theorem dX12_init_108 : decode cX12_init 108 = .ok (.aload_n 0, 1) := by decide +kernel
theorem dX12_init_109 : decode cX12_init 109 = .ok (.bipush 6, 2) := by decide +kernel
theorem dX12_init_111 : decode cX12_init 111 = .ok (.newarray .boolean, 2) := by decide +kernel
theorem dX12_init_113 : decode cX12_init 113 = .ok (.putfield 55, 3) := by decide +kernel
theorem dX12_init_116 : decode cX12_init 116 = .ok (.aload_n 0, 1) := by decide +kernel
theorem dX12_init_117 : decode cX12_init 117 = .ok (.iconst 3, 1) := by decide +kernel
theorem dX12_init_118 : decode cX12_init 118 = .ok (.newarray .boolean, 2) := by decide +kernel
theorem dX12_init_120 : decode cX12_init 120 = .ok (.putfield 59, 3) := by decide +kernel
theorem dX12_init_123 : decode cX12_init 123 = .ok (.aload_n 0, 1) := by decide +kernel
theorem dX12_init_124 : decode cX12_init 124 = .ok (.iconst 3, 1) := by decide +kernel
theorem dX12_init_125 : decode cX12_init 125 = .ok (.newarray .int, 2) := by decide +kernel
theorem dX12_init_127 : decode cX12_init 127 = .ok (.putfield 62, 3) := by decide +kernel
theorem dX12_init_130 : decode cX12_init 130 = .ok (.aload_n 0, 1) := by decide +kernel
theorem dX12_init_131 : decode cX12_init 131 = .ok (.iconst 3, 1) := by decide +kernel
theorem dX12_init_132 : decode cX12_init 132 = .ok (.newarray .int, 2) := by decide +kernel
theorem dX12_init_134 : decode cX12_init 134 = .ok (.putfield 65, 3) := by decide +kernel
theorem dX12_init_137 : decode cX12_init 137 = .ok (.aload_n 0, 1) := by decide +kernel
theorem dX12_init_138 : decode cX12_init 138 = .ok (.iconst 3, 1) := by decide +kernel
theorem dX12_init_139 : decode cX12_init 139 = .ok (.newarray .int, 2) := by decide +kernel
theorem dX12_init_141 : decode cX12_init 141 = .ok (.putfield 68, 3) := by decide +kernel
theorem dX12_init_144 : decode cX12_init 144 = .ok (.aload_n 0, 1) := by decide +kernel
theorem dX12_init_145 : decode cX12_init 145 = .ok (.iconst 3, 1) := by decide +kernel
theorem dX12_init_146 : decode cX12_init 146 = .ok (.newarray .int, 2) := by decide +kernel
theorem dX12_init_148 : decode cX12_init 148 = .ok (.putfield 71, 3) := by decide +kernel
theorem dX12_init_151 : decode cX12_init 151 = .ok (.aload_n 0, 1) := by decide +kernel
theorem dX12_init_152 : decode cX12_init 152 = .ok (.iconst 5, 1) := by decide +kernel
theorem dX12_init_153 : decode cX12_init 153 = .ok (.newarray .int, 2) := by decide +kernel
theorem dX12_init_155 : decode cX12_init 155 = .ok (.putfield 74, 3) := by decide +kernel
theorem dX12_init_158 : decode cX12_init 158 = .ok (.aload_n 0, 1) := by decide +kernel
theorem dX12_init_159 : decode cX12_init 159 = .ok (.iconst 5, 1) := by decide +kernel
theorem dX12_init_160 : decode cX12_init 160 = .ok (.newarray .int, 2) := by decide +kernel
theorem dX12_init_162 : decode cX12_init 162 = .ok (.putfield 77, 3) := by decide +kernel
theorem dX12_init_165 : decode cX12_init 165 = .ok (.aload_n 0, 1) := by decide +kernel
theorem dX12_init_166 : decode cX12_init 166 = .ok (.iconst 5, 1) := by decide +kernel
theorem dX12_init_167 : decode cX12_init 167 = .ok (.newarray .int, 2) := by decide +kernel
theorem dX12_init_169 : decode cX12_init 169 = .ok (.putfield 80, 3) := by decide +kernel
theorem dX12_init_172 : decode cX12_init 172 = .ok (.aload_n 0, 1) := by decide +kernel
theorem dX12_init_173 : decode cX12_init 173 = .ok (.iconst 5, 1) := by decide +kernel
theorem dX12_init_174 : decode cX12_init 174 = .ok (.newarray .int, 2) := by decide +kernel
theorem dX12_init_176 : decode cX12_init 176 = .ok (.putfield 83, 3) := by decide +kernel
theorem dX12_init_179 : decode cX12_init 179 = .ok (.aload_n 0, 1) := by decide +kernel
theorem dX12_init_180 : decode cX12_init 180 = .ok (.bipush 32, 2) := by decide +kernel
theorem dX12_init_182 : decode cX12_init 182 = .ok (.newarray .long, 2) := by decide +kernel
theorem dX12_init_184 : decode cX12_init 184 = .ok (.putfield 86, 3) := by decide +kernel
theorem dX12_init_187 : decode cX12_init 187 = .ok (.aload_n 0, 1) := by decide +kernel
theorem dX12_init_188 : decode cX12_init 188 = .ok (.bipush 32, 2) := by decide +kernel
theorem dX12_init_190 : decode cX12_init 190 = .ok (.newarray .int, 2) := by decide +kernel
theorem dX12_init_192 : decode cX12_init 192 = .ok (.putfield 90, 3) := by decide +kernel
theorem dX12_init_195 : decode cX12_init 195 = .ok (.aload_n 0, 1) := by decide +kernel
theorem dX12_init_196 : decode cX12_init 196 = .ok (.bipush 32, 2) := by decide +kernel
theorem dX12_init_198 : decode cX12_init 198 = .ok (.newarray .int, 2) := by decide +kernel
theorem dX12_init_200 : decode cX12_init 200 = .ok (.putfield 93, 3) := by decide +kernel
theorem dX12_init_203 : decode cX12_init 203 = .ok (.return_, 1) := by decide +kernel
theorem dX12_find_0 : decode cX12_find 0 = .ok (.iconst 0, 1) := by decide +kernel
theorem dX12_find_1 : decode cX12_find 1 = .ok (.istore_n 3, 1) := by decide +kernel
theorem dX12_find_2 : decode cX12_find 2 = .ok (.iload_n 3, 1) := by decide +kernel
theorem dX12_find_3 : decode cX12_find 3 = .ok (.aload_n 0, 1) := by decide +kernel
theorem dX12_find_4 : decode cX12_find 4 = .ok (.getfield 96, 3) := by decide +kernel
theorem dX12_find_7 : decode cX12_find 7 = .ok (.if_icmp .ge 22, 3) := by decide +kernel
theorem dX12_find_10 : decode cX12_find 10 = .ok (.aload_n 0, 1) := by decide +kernel
theorem dX12_find_11 : decode cX12_find 11 = .ok (.getfield 86, 3) := by decide +kernel
theorem dX12_find_14 : decode cX12_find 14 = .ok (.iload_n 3, 1) := by decide +kernel
theorem dX12_find_15 : decode cX12_find 15 = .ok (.laload, 1) := by decide +kernel
theorem dX12_find_16 : decode cX12_find 16 = .ok (.lload_n 1, 1) := by decide +kernel
theorem dX12_find_17 : decode cX12_find 17 = .ok (.lcmp, 1) := by decide +kernel
theorem dX12_find_18 : decode cX12_find 18 = .ok (.ifCond .ne 5, 3) := by decide +kernel
theorem dX12_find_21 : decode cX12_find 21 = .ok (.iload_n 3, 1) := by decide +kernel
theorem dX12_find_22 : decode cX12_find 22 = .ok (.ireturn, 1) := by decide +kernel
theorem dX12_find_23 : decode cX12_find 23 = .ok (.iinc 3 1, 3) := by decide +kernel
theorem dX12_find_26 : decode cX12_find 26 = .ok (.goto (-24), 3) := by decide +kernel
theorem dX12_find_29 : decode cX12_find 29 = .ok (.iconst (-1), 1) := by decide +kernel
theorem dX12_find_30 : decode cX12_find 30 = .ok (.ireturn, 1) := by decide +kernel
theorem dX12_way_0 : decode cX12_way 0 = .ok (.iload_n 1, 1) := by decide +kernel
theorem dX12_way_1 : decode cX12_way 1 = .ok (.iload_n 2, 1) := by decide +kernel
theorem dX12_way_2 : decode cX12_way 2 = .ok (.if_icmp .ge 7, 3) := by decide +kernel
theorem dX12_way_5 : decode cX12_way 5 = .ok (.iload_n 1, 1) := by decide +kernel
theorem dX12_way_6 : decode cX12_way 6 = .ok (.goto 4, 3) := by decide +kernel
theorem dX12_way_9 : decode cX12_way 9 = .ok (.iload_n 2, 1) := by decide +kernel
theorem dX12_way_10 : decode cX12_way 10 = .ok (.istore_n 3, 1) := by decide +kernel
theorem dX12_way_11 : decode cX12_way 11 = .ok (.iload_n 1, 1) := by decide +kernel
theorem dX12_way_12 : decode cX12_way 12 = .ok (.iload_n 2, 1) := by decide +kernel
theorem dX12_way_13 : decode cX12_way 13 = .ok (.if_icmp .ge 7, 3) := by decide +kernel
theorem dX12_way_16 : decode cX12_way 16 = .ok (.iload_n 2, 1) := by decide +kernel
theorem dX12_way_17 : decode cX12_way 17 = .ok (.goto 4, 3) := by decide +kernel
theorem dX12_way_20 : decode cX12_way 20 = .ok (.iload_n 1, 1) := by decide +kernel
theorem dX12_way_21 : decode cX12_way 21 = .ok (.istore 4, 2) := by decide +kernel
theorem dX12_way_23 : decode cX12_way 23 = .ok (.iload 4, 2) := by decide +kernel
theorem dX12_way_25 : decode cX12_way 25 = .ok (.iload_n 3, 1) := by decide +kernel
theorem dX12_way_26 : decode cX12_way 26 = .ok (.isub, 1) := by decide +kernel
theorem dX12_way_27 : decode cX12_way 27 = .ok (.istore 5, 2) := by decide +kernel
theorem dX12_way_29 : decode cX12_way 29 = .ok (.iconst 0, 1) := by decide +kernel
theorem dX12_way_30 : decode cX12_way 30 = .ok (.istore 6, 2) := by decide +kernel
theorem dX12_way_32 : decode cX12_way 32 = .ok (.iload 6, 2) := by decide +kernel
theorem dX12_way_34 : decode cX12_way 34 = .ok (.aload_n 0, 1) := by decide +kernel
theorem dX12_way_35 : decode cX12_way 35 = .ok (.getfield 99, 3) := by decide +kernel
theorem dX12_way_38 : decode cX12_way 38 = .ok (.if_icmp .ge 48, 3) := by decide +kernel
theorem dX12_way_41 : decode cX12_way 41 = .ok (.iload 5, 2) := by decide +kernel
theorem dX12_way_43 : decode cX12_way 43 = .ok (.aload_n 0, 1) := by decide +kernel
theorem dX12_way_44 : decode cX12_way 44 = .ok (.getfield 31, 3) := by decide +kernel
theorem dX12_way_47 : decode cX12_way 47 = .ok (.iload 6, 2) := by decide +kernel
theorem dX12_way_49 : decode cX12_way 49 = .ok (.iaload, 1) := by decide +kernel
theorem dX12_way_50 : decode cX12_way 50 = .ok (.iload_n 3, 1) := by decide +kernel
theorem dX12_way_51 : decode cX12_way 51 = .ok (.if_icmp .lt 25, 3) := by decide +kernel
theorem dX12_way_54 : decode cX12_way 54 = .ok (.aload_n 0, 1) := by decide +kernel
theorem dX12_way_55 : decode cX12_way 55 = .ok (.getfield 31, 3) := by decide +kernel
theorem dX12_way_58 : decode cX12_way 58 = .ok (.iload 6, 2) := by decide +kernel
theorem dX12_way_60 : decode cX12_way 60 = .ok (.iaload, 1) := by decide +kernel
theorem dX12_way_61 : decode cX12_way 61 = .ok (.iload 4, 2) := by decide +kernel
theorem dX12_way_63 : decode cX12_way 63 = .ok (.if_icmp .ge 13, 3) := by decide +kernel
theorem dX12_way_66 : decode cX12_way 66 = .ok (.aload_n 0, 1) := by decide +kernel
theorem dX12_way_67 : decode cX12_way 67 = .ok (.getfield 34, 3) := by decide +kernel
theorem dX12_way_70 : decode cX12_way 70 = .ok (.iload 6, 2) := by decide +kernel
theorem dX12_way_72 : decode cX12_way 72 = .ok (.iaload, 1) := by decide +kernel
theorem dX12_way_73 : decode cX12_way 73 = .ok (.goto 4, 3) := by decide +kernel
theorem dX12_way_76 : decode cX12_way 76 = .ok (.iconst 0, 1) := by decide +kernel
theorem dX12_way_77 : decode cX12_way 77 = .ok (.iadd, 1) := by decide +kernel
theorem dX12_way_78 : decode cX12_way 78 = .ok (.istore 5, 2) := by decide +kernel
theorem dX12_way_80 : decode cX12_way 80 = .ok (.iinc 6 1, 3) := by decide +kernel
theorem dX12_way_83 : decode cX12_way 83 = .ok (.goto (-51), 3) := by decide +kernel
theorem dX12_way_86 : decode cX12_way 86 = .ok (.iload 5, 2) := by decide +kernel
theorem dX12_way_88 : decode cX12_way 88 = .ok (.ireturn, 1) := by decide +kernel
theorem dX13_init_0 : decode cX13_init 0 = .ok (.aload_n 0, 1) := by decide +kernel
theorem dX13_init_1 : decode cX13_init 1 = .ok (.invokespecial 1, 3) := by decide +kernel
theorem dX13_init_4 : decode cX13_init 4 = .ok (.aload_n 0, 1) := by decide +kernel
theorem dX13_init_5 : decode cX13_init 5 = .ok (.iconst (-1), 1) := by decide +kernel
theorem dX13_init_6 : decode cX13_init 6 = .ok (.putfield 9, 3) := by decide +kernel
theorem dX13_init_9 : decode cX13_init 9 = .ok (.aload_n 0, 1) := by decide +kernel
theorem dX13_init_10 : decode cX13_init 10 = .ok (.sipush 900, 3) := by decide +kernel
theorem dX13_init_13 : decode cX13_init 13 = .ok (.newarray .byte, 2) := by decide +kernel
theorem dX13_init_15 : decode cX13_init 15 = .ok (.putfield 13, 3) := by decide +kernel
theorem dX13_init_18 : decode cX13_init 18 = .ok (.aload_n 0, 1) := by decide +kernel
theorem dX13_init_19 : decode cX13_init 19 = .ok (.iconst 3, 1) := by decide +kernel
theorem dX13_init_20 : decode cX13_init 20 = .ok (.newarray .int, 2) := by decide +kernel
theorem dX13_init_22 : decode cX13_init 22 = .ok (.putfield 17, 3) := by decide +kernel
theorem dX13_init_25 : decode cX13_init 25 = .ok (.aload_n 0, 1) := by decide +kernel
theorem dX13_init_26 : decode cX13_init 26 = .ok (.bipush 18, 2) := by decide +kernel
theorem dX13_init_28 : decode cX13_init 28 = .ok (.newarray .int, 2) := by decide +kernel
theorem dX13_init_30 : decode cX13_init 30 = .ok (.putfield 21, 3) := by decide +kernel
theorem dX13_init_33 : decode cX13_init 33 = .ok (.aload_n 0, 1) := by decide +kernel
theorem dX13_init_34 : decode cX13_init 34 = .ok (.bipush 6, 2) := by decide +kernel
theorem dX13_init_36 : decode cX13_init 36 = .ok (.newarray .int, 2) := by decide +kernel
theorem dX13_init_38 : decode cX13_init 38 = .ok (.putfield 24, 3) := by decide +kernel
theorem dX13_init_41 : decode cX13_init 41 = .ok (.aload_n 0, 1) := by decide +kernel
theorem dX13_init_42 : decode cX13_init 42 = .ok (.bipush 6, 2) := by decide +kernel
theorem dX13_init_44 : decode cX13_init 44 = .ok (.newarray .int, 2) := by decide +kernel
theorem dX13_init_46 : decode cX13_init 46 = .ok (.putfield 27, 3) := by decide +kernel
theorem dX13_init_49 : decode cX13_init 49 = .ok (.aload_n 0, 1) := by decide +kernel
theorem dX13_init_50 : decode cX13_init 50 = .ok (.bipush 6, 2) := by decide +kernel
theorem dX13_init_52 : decode cX13_init 52 = .ok (.newarray .int, 2) := by decide +kernel
theorem dX13_init_54 : decode cX13_init 54 = .ok (.putfield 30, 3) := by decide +kernel
theorem dX13_init_57 : decode cX13_init 57 = .ok (.aload_n 0, 1) := by decide +kernel
theorem dX13_init_58 : decode cX13_init 58 = .ok (.bipush 6, 2) := by decide +kernel
theorem dX13_init_60 : decode cX13_init 60 = .ok (.newarray .int, 2) := by decide +kernel
theorem dX13_init_62 : decode cX13_init 62 = .ok (.putfield 33, 3) := by decide +kernel
theorem dX13_init_65 : decode cX13_init 65 = .ok (.aload_n 0, 1) := by decide +kernel
theorem dX13_init_66 : decode cX13_init 66 = .ok (.sipush 192, 3) := by decide +kernel
theorem dX13_init_69 : decode cX13_init 69 = .ok (.newarray .int, 2) := by decide +kernel
theorem dX13_init_71 : decode cX13_init 71 = .ok (.putfield 36, 3) := by decide +kernel
theorem dX13_init_74 : decode cX13_init 74 = .ok (.aload_n 0, 1) := by decide +kernel
theorem dX13_init_75 : decode cX13_init 75 = .ok (.sipush 192, 3) := by decide +kernel
theorem dX13_init_78 : decode cX13_init 78 = .ok (.newarray .int, 2) := by decide +kernel
theorem dX13_init_80 : decode cX13_init 80 = .ok (.putfield 39, 3) := by decide +kernel
theorem dX13_init_83 : decode cX13_init 83 = .ok (.aload_n 0, 1) := by decide +kernel
theorem dX13_init_84 : decode cX13_init 84 = .ok (.bipush 84, 2) := by decide +kernel
theorem dX13_init_86 : decode cX13_init 86 = .ok (.newarray .int, 2) := by decide +kernel
theorem dX13_init_88 : decode cX13_init 88 = .ok (.putfield 42, 3) := by decide +kernel
theorem dX13_init_91 : decode cX13_init 91 = .ok (.aload_n 0, 1) := by decide +kernel
theorem dX13_init_92 : decode cX13_init 92 = .ok (.bipush 14, 2) := by decide +kernel
theorem dX13_init_94 : decode cX13_init 94 = .ok (.newarray .int, 2) := by decide +kernel
theorem dX13_init_96 : decode cX13_init 96 = .ok (.putfield 45, 3) := by decide +kernel
theorem dX13_init_99 : decode cX13_init 99 = .ok (.aload_n 0, 1) := by decide +kernel
theorem dX13_init_100 : decode cX13_init 100 = .ok (.iconst 5, 1) := by decide +kernel
theorem dX13_init_101 : decode cX13_init 101 = .ok (.newarray .int, 2) := by decide +kernel
theorem dX13_init_103 : decode cX13_init 103 = .ok (.putfield 48, 3) := by decide +kernel
theorem dX13_init_106 : decode cX13_init 106 = .ok (.aload_n 0, 1) := by decide +kernel
theorem dX13_init_107 : decode cX13_init 107 = .ok (.iconst 5, 1) := by decide +kernel
theorem dX13_init_108 : decode cX13_init 108 = .ok (.newarray .int, 2) := by decide +kernel
theorem dX13_init_110 : decode cX13_init 110 = .ok (.putfield 51, 3) := by decide +kernel
theorem dX13_init_113 : decode cX13_init 113 = .ok (.aload_n 0, 1) := by decide +kernel
theorem dX13_init_114 : decode cX13_init 114 = .ok (.bipush 7, 2) := by decide +kernel
theorem dX13_init_116 : decode cX13_init 116 = .ok (.newarray .int, 2) := by decide +kernel
theorem dX13_init_118 : decode cX13_init 118 = .ok (.putfield 54, 3) := by decide +kernel
theorem dX13_init_121 : decode cX13_init 121 = .ok (.aload_n 0, 1) := by decide +kernel
theorem dX13_init_122 : decode cX13_init 122 = .ok (.bipush 6, 2) := by decide +kernel
theorem dX13_init_124 : decode cX13_init 124 = .ok (.newarray .int, 2) := by decide +kernel
theorem dX13_init_126 : decode cX13_init 126 = .ok (.putfield 57, 3) := by decide +kernel
theorem dX13_init_129 : decode cX13_init 129 = .ok (.aload_n 0, 1) := by decide +kernel
theorem dX13_init_130 : decode cX13_init 130 = .ok (.bipush 6, 2) := by decide +kernel
theorem dX13_init_132 : decode cX13_init 132 = .ok (.newarray .int, 2) := by decide +kernel
theorem dX13_init_134 : decode cX13_init 134 = .ok (.putfield 60, 3) := by decide +kernel
theorem dX13_init_137 : decode cX13_init 137 = .ok (.aload_n 0, 1) := by decide +kernel
theorem dX13_init_138 : decode cX13_init 138 = .ok (.bipush 60, 2) := by decide +kernel
theorem dX13_init_140 : decode cX13_init 140 = .ok (.newarray .int, 2) := by decide +kernel
theorem dX13_init_142 : decode cX13_init 142 = .ok (.putfield 63, 3) := by decide +kernel
theorem dX13_init_145 : decode cX13_init 145 = .ok (.aload_n 0, 1) := by decide +kernel
theorem dX13_init_146 : decode cX13_init 146 = .ok (.bipush 16, 2) := by decide +kernel
theorem dX13_init_148 : decode cX13_init 148 = .ok (.newarray .int, 2) := by decide +kernel
theorem dX13_init_150 : decode cX13_init 150 = .ok (.putfield 66, 3) := by decide +kernel
theorem dX13_init_153 : decode cX13_init 153 = .ok (.aload_n 0, 1) := by decide +kernel
theorem dX13_init_154 : decode cX13_init 154 = .ok (.bipush 16, 2) := by decide +kernel
theorem dX13_init_156 : decode cX13_init 156 = .ok (.newarray .int, 2) := by decide +kernel
theorem dX13_init_158 : decode cX13_init 158 = .ok (.putfield 69, 3) := by decide +kernel
theorem dX13_init_161 : decode cX13_init 161 = .ok (.aload_n 0, 1) := by decide +kernel
theorem dX13_init_162 : decode cX13_init 162 = .ok (.bipush 16, 2) := by decide +kernel
theorem dX13_init_164 : decode cX13_init 164 = .ok (.newarray .int, 2) := by decide +kernel
theorem dX13_init_166 : decode cX13_init 166 = .ok (.putfield 72, 3) := by decide +kernel
theorem dX13_init_169 : decode cX13_init 169 = .ok (.return_, 1) := by decide +kernel
theorem dX13_thrown_0 : decode cX13_thrown 0 = .ok (.aload_n 0, 1) := by decide +kernel
theorem dX13_thrown_1 : decode cX13_thrown 1 = .ok (.getfield 75, 3) := by decide +kernel
theorem dX13_thrown_4 : decode cX13_thrown 4 = .ok (.ireturn, 1) := by decide +kernel
theorem dX13_refused_0 : decode cX13_refused 0 = .ok (.aload_n 0, 1) := by decide +kernel
theorem dX13_refused_1 : decode cX13_refused 1 = .ok (.iload_n 1, 1) := by decide +kernel
theorem dX13_refused_2 : decode cX13_refused 2 = .ok (.putfield 78, 3) := by decide +kernel
theorem dX13_refused_5 : decode cX13_refused 5 = .ok (.aload_n 0, 1) := by decide +kernel
theorem dX13_refused_6 : decode cX13_refused 6 = .ok (.iconst (-1), 1) := by decide +kernel
theorem dX13_refused_7 : decode cX13_refused 7 = .ok (.putfield 9, 3) := by decide +kernel
theorem dX13_refused_10 : decode cX13_refused 10 = .ok (.iconst (-1), 1) := by decide +kernel
theorem dX13_refused_11 : decode cX13_refused 11 = .ok (.ireturn, 1) := by decide +kernel
theorem dX13_lost_0 : decode cX13_lost 0 = .ok (.aload_n 0, 1) := by decide +kernel
theorem dX13_lost_1 : decode cX13_lost 1 = .ok (.iload_n 1, 1) := by decide +kernel
theorem dX13_lost_2 : decode cX13_lost 2 = .ok (.invokevirtual 81, 3) := by decide +kernel
theorem dX13_lost_5 : decode cX13_lost 5 = .ok (.pop, 1) := by decide +kernel
theorem dX13_lost_6 : decode cX13_lost 6 = .ok (.sipush (-1000), 3) := by decide +kernel
theorem dX13_lost_9 : decode cX13_lost 9 = .ok (.ireturn, 1) := by decide +kernel
theorem dX13_done_0 : decode cX13_done 0 = .ok (.aload_n 0, 1) := by decide +kernel
theorem dX13_done_1 : decode cX13_done 1 = .ok (.iconst 0, 1) := by decide +kernel
theorem dX13_done_2 : decode cX13_done 2 = .ok (.putfield 78, 3) := by decide +kernel
theorem dX13_done_5 : decode cX13_done 5 = .ok (.aload_n 0, 1) := by decide +kernel
theorem dX13_done_6 : decode cX13_done 6 = .ok (.iconst (-1), 1) := by decide +kernel
theorem dX13_done_7 : decode cX13_done 7 = .ok (.putfield 9, 3) := by decide +kernel
theorem dX13_done_10 : decode cX13_done 10 = .ok (.iload_n 1, 1) := by decide +kernel
theorem dX13_done_11 : decode cX13_done 11 = .ok (.ireturn, 1) := by decide +kernel
theorem dX13_in_0 : decode cX13_in 0 = .ok (.iload_n 0, 1) := by decide +kernel
theorem dX13_in_1 : decode cX13_in 1 = .ok (.iload_n 1, 1) := by decide +kernel
theorem dX13_in_2 : decode cX13_in 2 = .ok (.if_icmp .lt 12, 3) := by decide +kernel
theorem dX13_in_5 : decode cX13_in 5 = .ok (.iload_n 0, 1) := by decide +kernel
theorem dX13_in_6 : decode cX13_in 6 = .ok (.iload_n 2, 1) := by decide +kernel
theorem dX13_in_7 : decode cX13_in 7 = .ok (.if_icmp .gt 7, 3) := by decide +kernel
theorem dX13_in_10 : decode cX13_in 10 = .ok (.iconst 1, 1) := by decide +kernel
theorem dX13_in_11 : decode cX13_in 11 = .ok (.goto 4, 3) := by decide +kernel
theorem dX13_in_14 : decode cX13_in 14 = .ok (.iconst 0, 1) := by decide +kernel
theorem dX13_in_15 : decode cX13_in 15 = .ok (.ireturn, 1) := by decide +kernel
theorem dX13_byteAt_0 : decode cX13_byteAt 0 = .ok (.iload_n 1, 1) := by decide +kernel
theorem dX13_byteAt_1 : decode cX13_byteAt 1 = .ok (.aload_n 0, 1) := by decide +kernel
theorem dX13_byteAt_2 : decode cX13_byteAt 2 = .ok (.getfield 85, 3) := by decide +kernel
theorem dX13_byteAt_5 : decode cX13_byteAt 5 = .ok (.if_icmp .ge 16, 3) := by decide +kernel
theorem dX13_byteAt_8 : decode cX13_byteAt 8 = .ok (.aload_n 0, 1) := by decide +kernel
theorem dX13_byteAt_9 : decode cX13_byteAt 9 = .ok (.getfield 13, 3) := by decide +kernel
theorem dX13_byteAt_12 : decode cX13_byteAt 12 = .ok (.iload_n 1, 1) := by decide +kernel
theorem dX13_byteAt_13 : decode cX13_byteAt 13 = .ok (.baload, 1) := by decide +kernel
theorem dX13_byteAt_14 : decode cX13_byteAt 14 = .ok (.sipush 255, 3) := by decide +kernel
theorem dX13_byteAt_17 : decode cX13_byteAt 17 = .ok (.iand, 1) := by decide +kernel
theorem dX13_byteAt_18 : decode cX13_byteAt 18 = .ok (.goto 4, 3) := by decide +kernel
theorem dX13_byteAt_21 : decode cX13_byteAt 21 = .ok (.iconst (-1), 1) := by decide +kernel
theorem dX13_byteAt_22 : decode cX13_byteAt 22 = .ok (.ireturn, 1) := by decide +kernel
theorem dX13_isLetter_0 : decode cX13_isLetter 0 = .ok (.iload_n 0, 1) := by decide +kernel
theorem dX13_isLetter_1 : decode cX13_isLetter 1 = .ok (.bipush 97, 2) := by decide +kernel
theorem dX13_isLetter_3 : decode cX13_isLetter 3 = .ok (.if_icmp .lt 13, 3) := by decide +kernel
theorem dX13_isLetter_6 : decode cX13_isLetter 6 = .ok (.iload_n 0, 1) := by decide +kernel
theorem dX13_isLetter_7 : decode cX13_isLetter 7 = .ok (.bipush 122, 2) := by decide +kernel
theorem dX13_isLetter_9 : decode cX13_isLetter 9 = .ok (.if_icmp .gt 7, 3) := by decide +kernel
theorem dX13_isLetter_12 : decode cX13_isLetter 12 = .ok (.iconst 1, 1) := by decide +kernel
theorem dX13_isLetter_13 : decode cX13_isLetter 13 = .ok (.goto 4, 3) := by decide +kernel
theorem dX13_isLetter_16 : decode cX13_isLetter 16 = .ok (.iconst 0, 1) := by decide +kernel
theorem dX13_isLetter_17 : decode cX13_isLetter 17 = .ok (.ireturn, 1) := by decide +kernel
theorem dX13_isDigit_0 : decode cX13_isDigit 0 = .ok (.iload_n 0, 1) := by decide +kernel
theorem dX13_isDigit_1 : decode cX13_isDigit 1 = .ok (.bipush 48, 2) := by decide +kernel
theorem dX13_isDigit_3 : decode cX13_isDigit 3 = .ok (.if_icmp .lt 13, 3) := by decide +kernel
theorem dX13_isDigit_6 : decode cX13_isDigit 6 = .ok (.iload_n 0, 1) := by decide +kernel
theorem dX13_isDigit_7 : decode cX13_isDigit 7 = .ok (.bipush 57, 2) := by decide +kernel
theorem dX13_isDigit_9 : decode cX13_isDigit 9 = .ok (.if_icmp .gt 7, 3) := by decide +kernel
theorem dX13_isDigit_12 : decode cX13_isDigit 12 = .ok (.iconst 1, 1) := by decide +kernel
theorem dX13_isDigit_13 : decode cX13_isDigit 13 = .ok (.goto 4, 3) := by decide +kernel
theorem dX13_isDigit_16 : decode cX13_isDigit 16 = .ok (.iconst 0, 1) := by decide +kernel
theorem dX13_isDigit_17 : decode cX13_isDigit 17 = .ok (.ireturn, 1) := by decide +kernel
theorem dX13_wordOf_0 : decode cX13_wordOf 0 = .ok (.lconst 0, 1) := by decide +kernel
theorem dX13_wordOf_1 : decode cX13_wordOf 1 = .ok (.lstore_n 1, 1) := by decide +kernel
theorem dX13_wordOf_2 : decode cX13_wordOf 2 = .ok (.iconst 0, 1) := by decide +kernel
theorem dX13_wordOf_3 : decode cX13_wordOf 3 = .ok (.istore_n 3, 1) := by decide +kernel
theorem dX13_wordOf_4 : decode cX13_wordOf 4 = .ok (.iload_n 3, 1) := by decide +kernel
theorem dX13_wordOf_5 : decode cX13_wordOf 5 = .ok (.aload_n 0, 1) := by decide +kernel
theorem dX13_wordOf_6 : decode cX13_wordOf 6 = .ok (.invokevirtual 88, 3) := by decide +kernel
theorem dX13_wordOf_9 : decode cX13_wordOf 9 = .ok (.if_icmp .ge 27, 3) := by decide +kernel
theorem dX13_wordOf_12 : decode cX13_wordOf 12 = .ok (.ldc2_w 94, 3) := by decide +kernel
theorem dX13_wordOf_15 : decode cX13_wordOf 15 = .ok (.lload_n 1, 1) := by decide +kernel
theorem dX13_wordOf_16 : decode cX13_wordOf 16 = .ok (.lmul, 1) := by decide +kernel
theorem dX13_wordOf_17 : decode cX13_wordOf 17 = .ok (.aload_n 0, 1) := by decide +kernel
theorem dX13_wordOf_18 : decode cX13_wordOf 18 = .ok (.iload_n 3, 1) := by decide +kernel
theorem dX13_wordOf_19 : decode cX13_wordOf 19 = .ok (.invokevirtual 96, 3) := by decide +kernel
theorem dX13_wordOf_22 : decode cX13_wordOf 22 = .ok (.bipush 97, 2) := by decide +kernel
theorem dX13_wordOf_24 : decode cX13_wordOf 24 = .ok (.isub, 1) := by decide +kernel
theorem dX13_wordOf_25 : decode cX13_wordOf 25 = .ok (.iconst 1, 1) := by decide +kernel
theorem dX13_wordOf_26 : decode cX13_wordOf 26 = .ok (.iadd, 1) := by decide +kernel
theorem dX13_wordOf_27 : decode cX13_wordOf 27 = .ok (.i2l, 1) := by decide +kernel
theorem dX13_wordOf_28 : decode cX13_wordOf 28 = .ok (.ladd, 1) := by decide +kernel
theorem dX13_wordOf_29 : decode cX13_wordOf 29 = .ok (.lstore_n 1, 1) := by decide +kernel
theorem dX13_wordOf_30 : decode cX13_wordOf 30 = .ok (.iinc 3 1, 3) := by decide +kernel
theorem dX13_wordOf_33 : decode cX13_wordOf 33 = .ok (.goto (-29), 3) := by decide +kernel
theorem dX13_wordOf_36 : decode cX13_wordOf 36 = .ok (.lload_n 1, 1) := by decide +kernel
theorem dX13_wordOf_37 : decode cX13_wordOf 37 = .ok (.lreturn, 1) := by decide +kernel
theorem dX13_goesOn_0 : decode cX13_goesOn 0 = .ok (.aload_n 0, 1) := by decide +kernel
theorem dX13_goesOn_1 : decode cX13_goesOn 1 = .ok (.getfield 100, 3) := by decide +kernel
theorem dX13_goesOn_4 : decode cX13_goesOn 4 = .ok (.iconst 5, 1) := by decide +kernel
theorem dX13_goesOn_5 : decode cX13_goesOn 5 = .ok (.if_icmp .ne 4, 3) := by decide +kernel
theorem dX13_goesOn_8 : decode cX13_goesOn 8 = .ok (.return_, 1) := by decide +kernel
theorem dX13_goesOn_9 : decode cX13_goesOn 9 = .ok (.aload_n 0, 1) := by decide +kernel
theorem dX13_goesOn_10 : decode cX13_goesOn 10 = .ok (.aload_n 0, 1) := by decide +kernel
theorem dX13_goesOn_11 : decode cX13_goesOn 11 = .ok (.getfield 103, 3) := by decide +kernel
theorem dX13_goesOn_14 : decode cX13_goesOn 14 = .ok (.invokevirtual 106, 3) := by decide +kernel
theorem dX13_goesOn_17 : decode cX13_goesOn 17 = .ok (.bipush 32, 2) := by decide +kernel
theorem dX13_goesOn_19 : decode cX13_goesOn 19 = .ok (.if_icmp .ne 16, 3) := by decide +kernel
theorem dX13_goesOn_22 : decode cX13_goesOn 22 = .ok (.aload_n 0, 1) := by decide +kernel
theorem dX13_goesOn_23 : decode cX13_goesOn 23 = .ok (.dup, 1) := by decide +kernel
theorem dX13_goesOn_24 : decode cX13_goesOn 24 = .ok (.getfield 103, 3) := by decide +kernel
theorem dX13_goesOn_27 : decode cX13_goesOn 27 = .ok (.iconst 1, 1) := by decide +kernel
theorem dX13_goesOn_28 : decode cX13_goesOn 28 = .ok (.iadd, 1) := by decide +kernel
theorem dX13_goesOn_29 : decode cX13_goesOn 29 = .ok (.putfield 103, 3) := by decide +kernel
theorem dX13_goesOn_32 : decode cX13_goesOn 32 = .ok (.goto (-23), 3) := by decide +kernel
theorem dX13_goesOn_35 : decode cX13_goesOn 35 = .ok (.aload_n 0, 1) := by decide +kernel
theorem dX13_goesOn_36 : decode cX13_goesOn 36 = .ok (.aload_n 0, 1) := by decide +kernel
theorem dX13_goesOn_37 : decode cX13_goesOn 37 = .ok (.getfield 103, 3) := by decide +kernel
theorem dX13_goesOn_40 : decode cX13_goesOn 40 = .ok (.putfield 109, 3) := by decide +kernel
theorem dX13_goesOn_43 : decode cX13_goesOn 43 = .ok (.aload_n 0, 1) := by decide +kernel
theorem dX13_goesOn_44 : decode cX13_goesOn 44 = .ok (.iconst 0, 1) := by decide +kernel
theorem dX13_goesOn_45 : decode cX13_goesOn 45 = .ok (.putfield 100, 3) := by decide +kernel
theorem dX13_goesOn_48 : decode cX13_goesOn 48 = .ok (.aload_n 0, 1) := by decide +kernel
theorem dX13_goesOn_49 : decode cX13_goesOn 49 = .ok (.iconst 0, 1) := by decide +kernel
theorem dX13_goesOn_50 : decode cX13_goesOn 50 = .ok (.putfield 112, 3) := by decide +kernel
theorem dX13_goesOn_53 : decode cX13_goesOn 53 = .ok (.aload_n 0, 1) := by decide +kernel
theorem dX13_goesOn_54 : decode cX13_goesOn 54 = .ok (.aload_n 0, 1) := by decide +kernel
theorem dX13_goesOn_55 : decode cX13_goesOn 55 = .ok (.getfield 103, 3) := by decide +kernel
theorem dX13_goesOn_58 : decode cX13_goesOn 58 = .ok (.invokevirtual 106, 3) := by decide +kernel
theorem dX13_goesOn_61 : decode cX13_goesOn 61 = .ok (.istore_n 1, 1) := by decide +kernel
theorem dX13_goesOn_62 : decode cX13_goesOn 62 = .ok (.iconst 0, 1) := by decide +kernel
theorem dX13_goesOn_63 : decode cX13_goesOn 63 = .ok (.istore_n 2, 1) := by decide +kernel
theorem dX13_goesOn_64 : decode cX13_goesOn 64 = .ok (.iload_n 1, 1) := by decide +kernel
theorem dX13_goesOn_65 : decode cX13_goesOn 65 = .ok (.iconst (-1), 1) := by decide +kernel
theorem dX13_goesOn_66 : decode cX13_goesOn 66 = .ok (.if_icmp .ne 11, 3) := by decide +kernel
theorem dX13_goesOn_69 : decode cX13_goesOn 69 = .ok (.aload_n 0, 1) := by decide +kernel
theorem dX13_goesOn_70 : decode cX13_goesOn 70 = .ok (.iconst 1, 1) := by decide +kernel
theorem dX13_goesOn_71 : decode cX13_goesOn 71 = .ok (.putfield 100, 3) := by decide +kernel
theorem dX13_goesOn_74 : decode cX13_goesOn 74 = .ok (.goto 234, 3) := by decide +kernel
theorem dX13_goesOn_77 : decode cX13_goesOn 77 = .ok (.iload_n 1, 1) := by decide +kernel
theorem dX13_goesOn_78 : decode cX13_goesOn 78 = .ok (.invokestatic 115, 3) := by decide +kernel
theorem dX13_goesOn_81 : decode cX13_goesOn 81 = .ok (.ifCond .eq 112, 3) := by decide +kernel
theorem dX13_goesOn_84 : decode cX13_goesOn 84 = .ok (.aload_n 0, 1) := by decide +kernel
theorem dX13_goesOn_85 : decode cX13_goesOn 85 = .ok (.lconst 0, 1) := by decide +kernel
theorem dX13_goesOn_86 : decode cX13_goesOn 86 = .ok (.putfield 119, 3) := by decide +kernel
theorem dX13_goesOn_89 : decode cX13_goesOn 89 = .ok (.aload_n 0, 1) := by decide +kernel
theorem dX13_goesOn_90 : decode cX13_goesOn 90 = .ok (.iconst 0, 1) := by decide +kernel
theorem dX13_goesOn_91 : decode cX13_goesOn 91 = .ok (.putfield 123, 3) := by decide +kernel
theorem dX13_goesOn_94 : decode cX13_goesOn 94 = .ok (.aload_n 0, 1) := by decide +kernel
theorem dX13_goesOn_95 : decode cX13_goesOn 95 = .ok (.aload_n 0, 1) := by decide +kernel
theorem dX13_goesOn_96 : decode cX13_goesOn 96 = .ok (.getfield 103, 3) := by decide +kernel
theorem dX13_goesOn_99 : decode cX13_goesOn 99 = .ok (.invokevirtual 106, 3) := by decide +kernel
theorem dX13_goesOn_102 : decode cX13_goesOn 102 = .ok (.invokestatic 115, 3) := by decide +kernel
theorem dX13_goesOn_105 : decode cX13_goesOn 105 = .ok (.ifCond .eq 74, 3) := by decide +kernel
theorem dX13_goesOn_108 : decode cX13_goesOn 108 = .ok (.iload_n 2, 1) := by decide +kernel
theorem dX13_goesOn_109 : decode cX13_goesOn 109 = .ok (.bipush 8, 2) := by decide +kernel
theorem dX13_goesOn_111 : decode cX13_goesOn 111 = .ok (.if_icmp .ge 30, 3) := by decide +kernel
theorem dX13_goesOn_114 : decode cX13_goesOn 114 = .ok (.aload_n 0, 1) := by decide +kernel
theorem dX13_goesOn_115 : decode cX13_goesOn 115 = .ok (.ldc2_w 94, 3) := by decide +kernel
theorem dX13_goesOn_118 : decode cX13_goesOn 118 = .ok (.aload_n 0, 1) := by decide +kernel
theorem dX13_goesOn_119 : decode cX13_goesOn 119 = .ok (.getfield 119, 3) := by decide +kernel
