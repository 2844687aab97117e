theorem dX0_init_0 : decode cX0_init 0 = .ok (.aload_n 0, 1) := by decide +kernel
theorem dX0_init_1 : decode cX0_init 1 = .ok (.invokespecial 3, 3) := by decide +kernel
theorem dX0_init_4 : decode cX0_init 4 = .ok (.aload_n 0, 1) := by decide +kernel
theorem dX0_init_5 : decode cX0_init 5 = .ok (.bipush 9, 2) := by decide +kernel
theorem dX0_init_7 : decode cX0_init 7 = .ok (.newarray .int, 2) := by decide +kernel
theorem dX0_init_9 : decode cX0_init 9 = .ok (.putfield 9, 3) := by decide +kernel
theorem dX0_init_12 : decode cX0_init 12 = .ok (.aload_n 0, 1) := by decide +kernel
theorem dX0_init_13 : decode cX0_init 13 = .ok (.sipush 378, 3) := by decide +kernel
theorem dX0_init_16 : decode cX0_init 16 = .ok (.newarray .int, 2) := by decide +kernel
theorem dX0_init_18 : decode cX0_init 18 = .ok (.putfield 15, 3) := by decide +kernel
theorem dX0_init_21 : decode cX0_init 21 = .ok (.return_, 1) := by decide +kernel
theorem dX0_clear_0 : decode cX0_clear 0 = .ok (.aload_n 0, 1) := by decide +kernel
theorem dX0_clear_1 : decode cX0_clear 1 = .ok (.getfield 9, 3) := by decide +kernel
theorem dX0_clear_4 : decode cX0_clear 4 = .ok (.iconst 0, 1) := by decide +kernel
theorem dX0_clear_5 : decode cX0_clear 5 = .ok (.invokestatic 18, 3) := by decide +kernel
theorem dX0_clear_8 : decode cX0_clear 8 = .ok (.aload_n 0, 1) := by decide +kernel
theorem dX0_clear_9 : decode cX0_clear 9 = .ok (.getfield 15, 3) := by decide +kernel
theorem dX0_clear_12 : decode cX0_clear 12 = .ok (.iconst 0, 1) := by decide +kernel
theorem dX0_clear_13 : decode cX0_clear 13 = .ok (.invokestatic 18, 3) := by decide +kernel
theorem dX0_clear_16 : decode cX0_clear 16 = .ok (.return_, 1) := by decide +kernel
theorem dX0_rows_0 : decode cX0_rows 0 = .ok (.iload_n 1, 1) := by decide +kernel
theorem dX0_rows_1 : decode cX0_rows 1 = .ok (.ifCond .lt 18, 3) := by decide +kernel
theorem dX0_rows_4 : decode cX0_rows 4 = .ok (.iload_n 1, 1) := by decide +kernel
theorem dX0_rows_5 : decode cX0_rows 5 = .ok (.bipush 9, 2) := by decide +kernel
theorem dX0_rows_7 : decode cX0_rows 7 = .ok (.if_icmp .ge 12, 3) := by decide +kernel
theorem dX0_rows_10 : decode cX0_rows 10 = .ok (.aload_n 0, 1) := by decide +kernel
theorem dX0_rows_11 : decode cX0_rows 11 = .ok (.getfield 9, 3) := by decide +kernel
theorem dX0_rows_14 : decode cX0_rows 14 = .ok (.iload_n 1, 1) := by decide +kernel
theorem dX0_rows_15 : decode cX0_rows 15 = .ok (.iaload, 1) := by decide +kernel
theorem dX0_rows_16 : decode cX0_rows 16 = .ok (.goto 4, 3) := by decide +kernel
theorem dX0_rows_19 : decode cX0_rows 19 = .ok (.iconst 0, 1) := by decide +kernel
theorem dX0_rows_20 : decode cX0_rows 20 = .ok (.ireturn, 1) := by decide +kernel
theorem dX0_has_0 : decode cX0_has 0 = .ok (.iload_n 2, 1) := by decide +kernel
theorem dX0_has_1 : decode cX0_has 1 = .ok (.ifCond .lt 16, 3) := by decide +kernel
theorem dX0_has_4 : decode cX0_has 4 = .ok (.iload_n 2, 1) := by decide +kernel
theorem dX0_has_5 : decode cX0_has 5 = .ok (.aload_n 0, 1) := by decide +kernel
theorem dX0_has_6 : decode cX0_has 6 = .ok (.iload_n 1, 1) := by decide +kernel
theorem dX0_has_7 : decode cX0_has 7 = .ok (.invokevirtual 24, 3) := by decide +kernel
theorem dX0_has_10 : decode cX0_has 10 = .ok (.if_icmp .ge 7, 3) := by decide +kernel
theorem dX0_has_13 : decode cX0_has 13 = .ok (.iconst 1, 1) := by decide +kernel
theorem dX0_has_14 : decode cX0_has 14 = .ok (.goto 4, 3) := by decide +kernel
theorem dX0_has_17 : decode cX0_has 17 = .ok (.iconst 0, 1) := by decide +kernel
theorem dX0_has_18 : decode cX0_has 18 = .ok (.ireturn, 1) := by decide +kernel
theorem dX0_allHouses_0 : decode cX0_allHouses 0 = .ok (.iconst 1, 1) := by decide +kernel
theorem dX0_allHouses_1 : decode cX0_allHouses 1 = .ok (.aload_n 0, 1) := by decide +kernel
theorem dX0_allHouses_2 : decode cX0_allHouses 2 = .ok (.iconst 3, 1) := by decide +kernel
theorem dX0_allHouses_3 : decode cX0_allHouses 3 = .ok (.invokevirtual 24, 3) := by decide +kernel
theorem dX0_allHouses_6 : decode cX0_allHouses 6 = .ok (.ishl, 1) := by decide +kernel
theorem dX0_allHouses_7 : decode cX0_allHouses 7 = .ok (.iconst 1, 1) := by decide +kernel
theorem dX0_allHouses_8 : decode cX0_allHouses 8 = .ok (.isub, 1) := by decide +kernel
theorem dX0_allHouses_9 : decode cX0_allHouses 9 = .ok (.ireturn, 1) := by decide +kernel
theorem dX0_hasHouses_0 : decode cX0_hasHouses 0 = .ok (.iload_n 1, 1) := by decide +kernel
theorem dX0_hasHouses_1 : decode cX0_hasHouses 1 = .ok (.aload_n 0, 1) := by decide +kernel
theorem dX0_hasHouses_2 : decode cX0_hasHouses 2 = .ok (.invokevirtual 28, 3) := by decide +kernel
theorem dX0_hasHouses_5 : decode cX0_hasHouses 5 = .ok (.iconst (-1), 1) := by decide +kernel
theorem dX0_hasHouses_6 : decode cX0_hasHouses 6 = .ok (.ixor, 1) := by decide +kernel
theorem dX0_hasHouses_7 : decode cX0_hasHouses 7 = .ok (.iand, 1) := by decide +kernel
theorem dX0_hasHouses_8 : decode cX0_hasHouses 8 = .ok (.ifCond .ne 7, 3) := by decide +kernel
theorem dX0_hasHouses_11 : decode cX0_hasHouses 11 = .ok (.iconst 1, 1) := by decide +kernel
theorem dX0_hasHouses_12 : decode cX0_hasHouses 12 = .ok (.goto 4, 3) := by decide +kernel
theorem dX0_hasHouses_15 : decode cX0_hasHouses 15 = .ok (.iconst 0, 1) := by decide +kernel
theorem dX0_hasHouses_16 : decode cX0_hasHouses 16 = .ok (.ireturn, 1) := by decide +kernel
theorem dX0_addRow_0 : decode cX0_addRow 0 = .ok (.iload_n 1, 1) := by decide +kernel
theorem dX0_addRow_1 : decode cX0_addRow 1 = .ok (.ifCond .lt 23, 3) := by decide +kernel
theorem dX0_addRow_4 : decode cX0_addRow 4 = .ok (.iload_n 1, 1) := by decide +kernel
theorem dX0_addRow_5 : decode cX0_addRow 5 = .ok (.bipush 9, 2) := by decide +kernel
theorem dX0_addRow_7 : decode cX0_addRow 7 = .ok (.if_icmp .ge 17, 3) := by decide +kernel
theorem dX0_addRow_10 : decode cX0_addRow 10 = .ok (.aload_n 0, 1) := by decide +kernel
theorem dX0_addRow_11 : decode cX0_addRow 11 = .ok (.getfield 9, 3) := by decide +kernel
theorem dX0_addRow_14 : decode cX0_addRow 14 = .ok (.iload_n 1, 1) := by decide +kernel
theorem dX0_addRow_15 : decode cX0_addRow 15 = .ok (.iaload, 1) := by decide +kernel
theorem dX0_addRow_16 : decode cX0_addRow 16 = .ok (.getstatic 32, 3) := by decide +kernel
theorem dX0_addRow_19 : decode cX0_addRow 19 = .ok (.iload_n 1, 1) := by decide +kernel
theorem dX0_addRow_20 : decode cX0_addRow 20 = .ok (.iaload, 1) := by decide +kernel
theorem dX0_addRow_21 : decode cX0_addRow 21 = .ok (.if_icmp .lt 5, 3) := by decide +kernel
theorem dX0_addRow_24 : decode cX0_addRow 24 = .ok (.iconst 0, 1) := by decide +kernel
theorem dX0_addRow_25 : decode cX0_addRow 25 = .ok (.ireturn, 1) := by decide +kernel
theorem dX0_addRow_26 : decode cX0_addRow 26 = .ok (.aload_n 0, 1) := by decide +kernel
theorem dX0_addRow_27 : decode cX0_addRow 27 = .ok (.getfield 9, 3) := by decide +kernel
theorem dX0_addRow_30 : decode cX0_addRow 30 = .ok (.iload_n 1, 1) := by decide +kernel
theorem dX0_addRow_31 : decode cX0_addRow 31 = .ok (.dup2, 1) := by decide +kernel
theorem dX0_addRow_32 : decode cX0_addRow 32 = .ok (.iaload, 1) := by decide +kernel
theorem dX0_addRow_33 : decode cX0_addRow 33 = .ok (.iconst 1, 1) := by decide +kernel
theorem dX0_addRow_34 : decode cX0_addRow 34 = .ok (.iadd, 1) := by decide +kernel
theorem dX0_addRow_35 : decode cX0_addRow 35 = .ok (.iastore, 1) := by decide +kernel
theorem dX0_addRow_36 : decode cX0_addRow 36 = .ok (.iconst 1, 1) := by decide +kernel
theorem dX0_addRow_37 : decode cX0_addRow 37 = .ok (.ireturn, 1) := by decide +kernel
theorem dX0_putInLatest_0 : decode cX0_putInLatest 0 = .ok (.aload_n 0, 1) := by decide +kernel
theorem dX0_putInLatest_1 : decode cX0_putInLatest 1 = .ok (.iload_n 1, 1) := by decide +kernel
theorem dX0_putInLatest_2 : decode cX0_putInLatest 2 = .ok (.aload_n 0, 1) := by decide +kernel
theorem dX0_putInLatest_3 : decode cX0_putInLatest 3 = .ok (.iload_n 1, 1) := by decide +kernel
theorem dX0_putInLatest_4 : decode cX0_putInLatest 4 = .ok (.invokevirtual 24, 3) := by decide +kernel
theorem dX0_putInLatest_7 : decode cX0_putInLatest 7 = .ok (.iconst 1, 1) := by decide +kernel
theorem dX0_putInLatest_8 : decode cX0_putInLatest 8 = .ok (.isub, 1) := by decide +kernel
theorem dX0_putInLatest_9 : decode cX0_putInLatest 9 = .ok (.iload_n 2, 1) := by decide +kernel
theorem dX0_putInLatest_10 : decode cX0_putInLatest 10 = .ok (.invokevirtual 35, 3) := by decide +kernel
theorem dX0_putInLatest_13 : decode cX0_putInLatest 13 = .ok (.istore 4, 2) := by decide +kernel
theorem dX0_putInLatest_15 : decode cX0_putInLatest 15 = .ok (.iload 4, 2) := by decide +kernel
theorem dX0_putInLatest_17 : decode cX0_putInLatest 17 = .ok (.iconst (-1), 1) := by decide +kernel
theorem dX0_putInLatest_18 : decode cX0_putInLatest 18 = .ok (.if_icmp .eq 11, 3) := by decide +kernel
theorem dX0_putInLatest_21 : decode cX0_putInLatest 21 = .ok (.aload_n 0, 1) := by decide +kernel
theorem dX0_putInLatest_22 : decode cX0_putInLatest 22 = .ok (.getfield 15, 3) := by decide +kernel
theorem dX0_putInLatest_25 : decode cX0_putInLatest 25 = .ok (.iload 4, 2) := by decide +kernel
theorem dX0_putInLatest_27 : decode cX0_putInLatest 27 = .ok (.iload_n 3, 1) := by decide +kernel
theorem dX0_putInLatest_28 : decode cX0_putInLatest 28 = .ok (.iastore, 1) := by decide +kernel
theorem dX0_putInLatest_29 : decode cX0_putInLatest 29 = .ok (.return_, 1) := by decide +kernel
theorem dX0_get_0 : decode cX0_get 0 = .ok (.aload_n 0, 1) := by decide +kernel
theorem dX0_get_1 : decode cX0_get 1 = .ok (.iload_n 1, 1) := by decide +kernel
theorem dX0_get_2 : decode cX0_get 2 = .ok (.iload_n 2, 1) := by decide +kernel
theorem dX0_get_3 : decode cX0_get 3 = .ok (.iload_n 3, 1) := by decide +kernel
theorem dX0_get_4 : decode cX0_get 4 = .ok (.invokevirtual 35, 3) := by decide +kernel
theorem dX0_get_7 : decode cX0_get 7 = .ok (.istore 4, 2) := by decide +kernel
theorem dX0_get_9 : decode cX0_get 9 = .ok (.iload 4, 2) := by decide +kernel
theorem dX0_get_11 : decode cX0_get 11 = .ok (.iconst (-1), 1) := by decide +kernel
theorem dX0_get_12 : decode cX0_get 12 = .ok (.if_icmp .ne 7, 3) := by decide +kernel
theorem dX0_get_15 : decode cX0_get 15 = .ok (.iconst 0, 1) := by decide +kernel
theorem dX0_get_16 : decode cX0_get 16 = .ok (.goto 10, 3) := by decide +kernel
theorem dX0_get_19 : decode cX0_get 19 = .ok (.aload_n 0, 1) := by decide +kernel
theorem dX0_get_20 : decode cX0_get 20 = .ok (.getfield 15, 3) := by decide +kernel
theorem dX0_get_23 : decode cX0_get 23 = .ok (.iload 4, 2) := by decide +kernel
theorem dX0_get_25 : decode cX0_get 25 = .ok (.iaload, 1) := by decide +kernel
theorem dX0_get_26 : decode cX0_get 26 = .ok (.ireturn, 1) := by decide +kernel
theorem dX0_cellOf_0 : decode cX0_cellOf 0 = .ok (.iload_n 1, 1) := by decide +kernel
theorem dX0_cellOf_1 : decode cX0_cellOf 1 = .ok (.ifCond .lt 23, 3) := by decide +kernel
theorem dX0_cellOf_4 : decode cX0_cellOf 4 = .ok (.iload_n 1, 1) := by decide +kernel
theorem dX0_cellOf_5 : decode cX0_cellOf 5 = .ok (.bipush 9, 2) := by decide +kernel
theorem dX0_cellOf_7 : decode cX0_cellOf 7 = .ok (.if_icmp .ge 17, 3) := by decide +kernel
theorem dX0_cellOf_10 : decode cX0_cellOf 10 = .ok (.iload_n 2, 1) := by decide +kernel
theorem dX0_cellOf_11 : decode cX0_cellOf 11 = .ok (.ifCond .lt 13, 3) := by decide +kernel
theorem dX0_cellOf_14 : decode cX0_cellOf 14 = .ok (.iload_n 2, 1) := by decide +kernel
theorem dX0_cellOf_15 : decode cX0_cellOf 15 = .ok (.aload_n 0, 1) := by decide +kernel
theorem dX0_cellOf_16 : decode cX0_cellOf 16 = .ok (.getfield 9, 3) := by decide +kernel
theorem dX0_cellOf_19 : decode cX0_cellOf 19 = .ok (.iload_n 1, 1) := by decide +kernel
theorem dX0_cellOf_20 : decode cX0_cellOf 20 = .ok (.iaload, 1) := by decide +kernel
theorem dX0_cellOf_21 : decode cX0_cellOf 21 = .ok (.if_icmp .lt 5, 3) := by decide +kernel
theorem dX0_cellOf_24 : decode cX0_cellOf 24 = .ok (.iconst (-1), 1) := by decide +kernel
theorem dX0_cellOf_25 : decode cX0_cellOf 25 = .ok (.ireturn, 1) := by decide +kernel
theorem dX0_cellOf_26 : decode cX0_cellOf 26 = .ok (.iload_n 3, 1) := by decide +kernel
theorem dX0_cellOf_27 : decode cX0_cellOf 27 = .ok (.ifCond .lt 9, 3) := by decide +kernel
theorem dX0_cellOf_30 : decode cX0_cellOf 30 = .ok (.iload_n 3, 1) := by decide +kernel
theorem dX0_cellOf_31 : decode cX0_cellOf 31 = .ok (.bipush 7, 2) := by decide +kernel
theorem dX0_cellOf_33 : decode cX0_cellOf 33 = .ok (.if_icmp .lt 5, 3) := by decide +kernel
theorem dX0_cellOf_36 : decode cX0_cellOf 36 = .ok (.iconst (-1), 1) := by decide +kernel
theorem dX0_cellOf_37 : decode cX0_cellOf 37 = .ok (.ireturn, 1) := by decide +kernel
theorem dX0_cellOf_38 : decode cX0_cellOf 38 = .ok (.iload_n 1, 1) := by decide +kernel
theorem dX0_cellOf_39 : decode cX0_cellOf 39 = .ok (.bipush 6, 2) := by decide +kernel
theorem dX0_cellOf_41 : decode cX0_cellOf 41 = .ok (.imul, 1) := by decide +kernel
theorem dX0_cellOf_42 : decode cX0_cellOf 42 = .ok (.iload_n 2, 1) := by decide +kernel
theorem dX0_cellOf_43 : decode cX0_cellOf 43 = .ok (.iadd, 1) := by decide +kernel
theorem dX0_cellOf_44 : decode cX0_cellOf 44 = .ok (.bipush 7, 2) := by decide +kernel
theorem dX0_cellOf_46 : decode cX0_cellOf 46 = .ok (.imul, 1) := by decide +kernel
theorem dX0_cellOf_47 : decode cX0_cellOf 47 = .ok (.iload_n 3, 1) := by decide +kernel
theorem dX0_cellOf_48 : decode cX0_cellOf 48 = .ok (.iadd, 1) := by decide +kernel
theorem dX0_cellOf_49 : decode cX0_cellOf 49 = .ok (.ireturn, 1) := by decide +kernel
theorem dX0_wayBetween_0 : decode cX0_wayBetween 0 = .ok (.iload_n 1, 1) := by decide +kernel
theorem dX0_wayBetween_1 : decode cX0_wayBetween 1 = .ok (.iload_n 2, 1) := by decide +kernel
theorem dX0_wayBetween_2 : decode cX0_wayBetween 2 = .ok (.invokestatic 39, 3) := by decide +kernel
theorem dX0_wayBetween_5 : decode cX0_wayBetween 5 = .ok (.istore_n 3, 1) := by decide +kernel
theorem dX0_wayBetween_6 : decode cX0_wayBetween 6 = .ok (.iload_n 1, 1) := by decide +kernel
theorem dX0_wayBetween_7 : decode cX0_wayBetween 7 = .ok (.iload_n 2, 1) := by decide +kernel
theorem dX0_wayBetween_8 : decode cX0_wayBetween 8 = .ok (.invokestatic 45, 3) := by decide +kernel
theorem dX0_wayBetween_11 : decode cX0_wayBetween 11 = .ok (.istore 4, 2) := by decide +kernel
theorem dX0_wayBetween_13 : decode cX0_wayBetween 13 = .ok (.iload 4, 2) := by decide +kernel
theorem dX0_wayBetween_15 : decode cX0_wayBetween 15 = .ok (.iload_n 3, 1) := by decide +kernel
theorem dX0_wayBetween_16 : decode cX0_wayBetween 16 = .ok (.isub, 1) := by decide +kernel
theorem dX0_wayBetween_17 : decode cX0_wayBetween 17 = .ok (.istore 5, 2) := by decide +kernel
theorem dX0_wayBetween_19 : decode cX0_wayBetween 19 = .ok (.iconst 0, 1) := by decide +kernel
theorem dX0_wayBetween_20 : decode cX0_wayBetween 20 = .ok (.istore 6, 2) := by decide +kernel
theorem dX0_wayBetween_22 : decode cX0_wayBetween 22 = .ok (.iload 6, 2) := by decide +kernel
theorem dX0_wayBetween_24 : decode cX0_wayBetween 24 = .ok (.aload_n 0, 1) := by decide +kernel
theorem dX0_wayBetween_25 : decode cX0_wayBetween 25 = .ok (.iconst 5, 1) := by decide +kernel
theorem dX0_wayBetween_26 : decode cX0_wayBetween 26 = .ok (.invokevirtual 24, 3) := by decide +kernel
theorem dX0_wayBetween_29 : decode cX0_wayBetween 29 = .ok (.if_icmp .ge 45, 3) := by decide +kernel
theorem dX0_wayBetween_32 : decode cX0_wayBetween 32 = .ok (.aload_n 0, 1) := by decide +kernel
theorem dX0_wayBetween_33 : decode cX0_wayBetween 33 = .ok (.iconst 5, 1) := by decide +kernel
theorem dX0_wayBetween_34 : decode cX0_wayBetween 34 = .ok (.iload 6, 2) := by decide +kernel
theorem dX0_wayBetween_36 : decode cX0_wayBetween 36 = .ok (.iconst 0, 1) := by decide +kernel
theorem dX0_wayBetween_37 : decode cX0_wayBetween 37 = .ok (.invokevirtual 48, 3) := by decide +kernel
theorem dX0_wayBetween_40 : decode cX0_wayBetween 40 = .ok (.istore 7, 2) := by decide +kernel
theorem dX0_wayBetween_42 : decode cX0_wayBetween 42 = .ok (.iload 7, 2) := by decide +kernel
theorem dX0_wayBetween_44 : decode cX0_wayBetween 44 = .ok (.iload_n 3, 1) := by decide +kernel
theorem dX0_wayBetween_45 : decode cX0_wayBetween 45 = .ok (.if_icmp .lt 23, 3) := by decide +kernel
theorem dX0_wayBetween_48 : decode cX0_wayBetween 48 = .ok (.iload 7, 2) := by decide +kernel
theorem dX0_wayBetween_50 : decode cX0_wayBetween 50 = .ok (.iload 4, 2) := by decide +kernel
theorem dX0_wayBetween_52 : decode cX0_wayBetween 52 = .ok (.if_icmp .ge 16, 3) := by decide +kernel
theorem dX0_wayBetween_55 : decode cX0_wayBetween 55 = .ok (.iload 5, 2) := by decide +kernel
theorem dX0_wayBetween_57 : decode cX0_wayBetween 57 = .ok (.aload_n 0, 1) := by decide +kernel
theorem dX0_wayBetween_58 : decode cX0_wayBetween 58 = .ok (.iconst 5, 1) := by decide +kernel
theorem dX0_wayBetween_59 : decode cX0_wayBetween 59 = .ok (.iload 6, 2) := by decide +kernel
theorem dX0_wayBetween_61 : decode cX0_wayBetween 61 = .ok (.iconst 1, 1) := by decide +kernel
theorem dX0_wayBetween_62 : decode cX0_wayBetween 62 = .ok (.invokevirtual 48, 3) := by decide +kernel
theorem dX0_wayBetween_65 : decode cX0_wayBetween 65 = .ok (.iadd, 1) := by decide +kernel
theorem dX0_wayBetween_66 : decode cX0_wayBetween 66 = .ok (.istore 5, 2) := by decide +kernel
theorem dX0_wayBetween_68 : decode cX0_wayBetween 68 = .ok (.iinc 6 1, 3) := by decide +kernel
theorem dX0_wayBetween_71 : decode cX0_wayBetween 71 = .ok (.goto (-49), 3) := by decide +kernel
theorem dX0_wayBetween_74 : decode cX0_wayBetween 74 = .ok (.iload 5, 2) := by decide +kernel
theorem dX0_wayBetween_76 : decode cX0_wayBetween 76 = .ok (.ireturn, 1) := by decide +kernel
theorem dX0_startPlace_0 : decode cX0_startPlace 0 = .ok (.aload_n 0, 1) := by decide +kernel
theorem dX0_startPlace_1 : decode cX0_startPlace 1 = .ok (.iconst 0, 1) := by decide +kernel
theorem dX0_startPlace_2 : decode cX0_startPlace 2 = .ok (.aload_n 0, 1) := by decide +kernel
theorem dX0_startPlace_3 : decode cX0_startPlace 3 = .ok (.iconst 4, 1) := by decide +kernel
theorem dX0_startPlace_4 : decode cX0_startPlace 4 = .ok (.iload_n 1, 1) := by decide +kernel
theorem dX0_startPlace_5 : decode cX0_startPlace 5 = .ok (.iconst 0, 1) := by decide +kernel
theorem dX0_startPlace_6 : decode cX0_startPlace 6 = .ok (.invokevirtual 48, 3) := by decide +kernel
theorem dX0_startPlace_9 : decode cX0_startPlace 9 = .ok (.iconst 0, 1) := by decide +kernel
theorem dX0_startPlace_10 : decode cX0_startPlace 10 = .ok (.invokevirtual 48, 3) := by decide +kernel
theorem dX0_startPlace_13 : decode cX0_startPlace 13 = .ok (.ireturn, 1) := by decide +kernel
theorem dX0_stayWithoutTea_0 : decode cX0_stayWithoutTea 0 = .ok (.aload_n 0, 1) := by decide +kernel
theorem dX0_stayWithoutTea_1 : decode cX0_stayWithoutTea 1 = .ok (.iconst 3, 1) := by decide +kernel
theorem dX0_stayWithoutTea_2 : decode cX0_stayWithoutTea 2 = .ok (.iload_n 2, 1) := by decide +kernel
theorem dX0_stayWithoutTea_3 : decode cX0_stayWithoutTea 3 = .ok (.bipush 6, 2) := by decide +kernel
theorem dX0_stayWithoutTea_5 : decode cX0_stayWithoutTea 5 = .ok (.invokevirtual 48, 3) := by decide +kernel
theorem dX0_stayWithoutTea_8 : decode cX0_stayWithoutTea 8 = .ok (.iconst 1, 1) := by decide +kernel
theorem dX0_stayWithoutTea_9 : decode cX0_stayWithoutTea 9 = .ok (.if_icmp .ne 18, 3) := by decide +kernel
theorem dX0_stayWithoutTea_12 : decode cX0_stayWithoutTea 12 = .ok (.aload_n 0, 1) := by decide +kernel
theorem dX0_stayWithoutTea_13 : decode cX0_stayWithoutTea 13 = .ok (.iconst 4, 1) := by decide +kernel
theorem dX0_stayWithoutTea_14 : decode cX0_stayWithoutTea 14 = .ok (.iload_n 1, 1) := by decide +kernel
theorem dX0_stayWithoutTea_15 : decode cX0_stayWithoutTea 15 = .ok (.iconst 4, 1) := by decide +kernel
theorem dX0_stayWithoutTea_16 : decode cX0_stayWithoutTea 16 = .ok (.invokevirtual 48, 3) := by decide +kernel
theorem dX0_stayWithoutTea_19 : decode cX0_stayWithoutTea 19 = .ok (.iconst 1, 1) := by decide +kernel
theorem dX0_stayWithoutTea_20 : decode cX0_stayWithoutTea 20 = .ok (.if_icmp .ne 7, 3) := by decide +kernel
theorem dX0_stayWithoutTea_23 : decode cX0_stayWithoutTea 23 = .ok (.iconst 1, 1) := by decide +kernel
theorem dX0_stayWithoutTea_24 : decode cX0_stayWithoutTea 24 = .ok (.goto 4, 3) := by decide +kernel
theorem dX0_stayWithoutTea_27 : decode cX0_stayWithoutTea 27 = .ok (.iconst 0, 1) := by decide +kernel
theorem dX0_stayWithoutTea_28 : decode cX0_stayWithoutTea 28 = .ok (.istore_n 3, 1) := by decide +kernel
theorem dX0_stayWithoutTea_29 : decode cX0_stayWithoutTea 29 = .ok (.aload_n 0, 1) := by decide +kernel
theorem dX0_stayWithoutTea_30 : decode cX0_stayWithoutTea 30 = .ok (.iconst 3, 1) := by decide +kernel
theorem dX0_stayWithoutTea_31 : decode cX0_stayWithoutTea 31 = .ok (.iload_n 2, 1) := by decide +kernel
theorem dX0_stayWithoutTea_32 : decode cX0_stayWithoutTea 32 = .ok (.iconst 2, 1) := by decide +kernel
theorem dX0_stayWithoutTea_33 : decode cX0_stayWithoutTea 33 = .ok (.invokevirtual 48, 3) := by decide +kernel
theorem dX0_stayWithoutTea_36 : decode cX0_stayWithoutTea 36 = .ok (.iload_n 3, 1) := by decide +kernel
theorem dX0_stayWithoutTea_37 : decode cX0_stayWithoutTea 37 = .ok (.ifCond .eq 7, 3) := by decide +kernel
theorem dX0_stayWithoutTea_40 : decode cX0_stayWithoutTea 40 = .ok (.iconst 5, 1) := by decide +kernel
theorem dX0_stayWithoutTea_41 : decode cX0_stayWithoutTea 41 = .ok (.goto 4, 3) := by decide +kernel
theorem dX0_stayWithoutTea_44 : decode cX0_stayWithoutTea 44 = .ok (.iconst 0, 1) := by decide +kernel
theorem dX0_stayWithoutTea_45 : decode cX0_stayWithoutTea 45 = .ok (.iadd, 1) := by decide +kernel
theorem dX0_stayWithoutTea_46 : decode cX0_stayWithoutTea 46 = .ok (.ireturn, 1) := by decide +kernel
theorem dX0_boxHeat_0 : decode cX0_boxHeat 0 = .ok (.aload_n 0, 1) := by decide +kernel
theorem dX0_boxHeat_1 : decode cX0_boxHeat 1 = .ok (.iconst 0, 1) := by decide +kernel
theorem dX0_boxHeat_2 : decode cX0_boxHeat 2 = .ok (.aload_n 0, 1) := by decide +kernel
theorem dX0_boxHeat_3 : decode cX0_boxHeat 3 = .ok (.iconst 4, 1) := by decide +kernel
theorem dX0_boxHeat_4 : decode cX0_boxHeat 4 = .ok (.iload_n 1, 1) := by decide +kernel
theorem dX0_boxHeat_5 : decode cX0_boxHeat 5 = .ok (.iconst 0, 1) := by decide +kernel
theorem dX0_boxHeat_6 : decode cX0_boxHeat 6 = .ok (.invokevirtual 48, 3) := by decide +kernel
theorem dX0_boxHeat_9 : decode cX0_boxHeat 9 = .ok (.iconst 1, 1) := by decide +kernel
theorem dX0_boxHeat_10 : decode cX0_boxHeat 10 = .ok (.invokevirtual 48, 3) := by decide +kernel
theorem dX0_boxHeat_13 : decode cX0_boxHeat 13 = .ok (.istore_n 3, 1) := by decide +kernel
theorem dX0_boxHeat_14 : decode cX0_boxHeat 14 = .ok (.iload_n 2, 1) := by decide +kernel
theorem dX0_boxHeat_15 : decode cX0_boxHeat 15 = .ok (.aload_n 0, 1) := by decide +kernel
theorem dX0_boxHeat_16 : decode cX0_boxHeat 16 = .ok (.iconst 4, 1) := by decide +kernel
theorem dX0_boxHeat_17 : decode cX0_boxHeat 17 = .ok (.iload_n 1, 1) := by decide +kernel
theorem dX0_boxHeat_18 : decode cX0_boxHeat 18 = .ok (.iconst 1, 1) := by decide +kernel
theorem dX0_boxHeat_19 : decode cX0_boxHeat 19 = .ok (.invokevirtual 48, 3) := by decide +kernel
theorem dX0_boxHeat_22 : decode cX0_boxHeat 22 = .ok (.isub, 1) := by decide +kernel
theorem dX0_boxHeat_23 : decode cX0_boxHeat 23 = .ok (.istore 4, 2) := by decide +kernel
theorem dX0_boxHeat_25 : decode cX0_boxHeat 25 = .ok (.iload_n 3, 1) := by decide +kernel
theorem dX0_boxHeat_26 : decode cX0_boxHeat 26 = .ok (.aload_n 0, 1) := by decide +kernel
theorem dX0_boxHeat_27 : decode cX0_boxHeat 27 = .ok (.iconst 4, 1) := by decide +kernel
theorem dX0_boxHeat_28 : decode cX0_boxHeat 28 = .ok (.iload_n 1, 1) := by decide +kernel
theorem dX0_boxHeat_29 : decode cX0_boxHeat 29 = .ok (.iconst 3, 1) := by decide +kernel
theorem dX0_boxHeat_30 : decode cX0_boxHeat 30 = .ok (.invokevirtual 48, 3) := by decide +kernel
theorem dX0_boxHeat_33 : decode cX0_boxHeat 33 = .ok (.iload 4, 2) := by decide +kernel
theorem dX0_boxHeat_35 : decode cX0_boxHeat 35 = .ok (.imul, 1) := by decide +kernel
theorem dX0_boxHeat_36 : decode cX0_boxHeat 36 = .ok (.bipush 10, 2) := by decide +kernel
theorem dX0_boxHeat_38 : decode cX0_boxHeat 38 = .ok (.invokestatic 51, 3) := by decide +kernel
theorem dX0_boxHeat_41 : decode cX0_boxHeat 41 = .ok (.isub, 1) := by decide +kernel
theorem dX0_boxHeat_42 : decode cX0_boxHeat 42 = .ok (.ireturn, 1) := by decide +kernel
theorem dX0_isBadAt_0 : decode cX0_isBadAt 0 = .ok (.iload_n 2, 1) := by decide +kernel
theorem dX0_isBadAt_1 : decode cX0_isBadAt 1 = .ok (.aload_n 0, 1) := by decide +kernel
theorem dX0_isBadAt_2 : decode cX0_isBadAt 2 = .ok (.bipush 8, 2) := by decide +kernel
theorem dX0_isBadAt_4 : decode cX0_isBadAt 4 = .ok (.iconst 0, 1) := by decide +kernel
theorem dX0_isBadAt_5 : decode cX0_isBadAt 5 = .ok (.iconst 1, 1) := by decide +kernel
theorem dX0_isBadAt_6 : decode cX0_isBadAt 6 = .ok (.invokevirtual 48, 3) := by decide +kernel
theorem dX0_isBadAt_9 : decode cX0_isBadAt 9 = .ok (.if_icmp .gt 20, 3) := by decide +kernel
theorem dX0_isBadAt_12 : decode cX0_isBadAt 12 = .ok (.aload_n 0, 1) := by decide +kernel
theorem dX0_isBadAt_13 : decode cX0_isBadAt 13 = .ok (.iload_n 1, 1) := by decide +kernel
theorem dX0_isBadAt_14 : decode cX0_isBadAt 14 = .ok (.iload_n 2, 1) := by decide +kernel
theorem dX0_isBadAt_15 : decode cX0_isBadAt 15 = .ok (.invokevirtual 54, 3) := by decide +kernel
theorem dX0_isBadAt_18 : decode cX0_isBadAt 18 = .ok (.aload_n 0, 1) := by decide +kernel
theorem dX0_isBadAt_19 : decode cX0_isBadAt 19 = .ok (.bipush 8, 2) := by decide +kernel
theorem dX0_isBadAt_21 : decode cX0_isBadAt 21 = .ok (.iconst 0, 1) := by decide +kernel
theorem dX0_isBadAt_22 : decode cX0_isBadAt 22 = .ok (.iconst 0, 1) := by decide +kernel
theorem dX0_isBadAt_23 : decode cX0_isBadAt 23 = .ok (.invokevirtual 48, 3) := by decide +kernel
theorem dX0_isBadAt_26 : decode cX0_isBadAt 26 = .ok (.if_icmp .ge 7, 3) := by decide +kernel
theorem dX0_isBadAt_29 : decode cX0_isBadAt 29 = .ok (.iconst 1, 1) := by decide +kernel
theorem dX0_isBadAt_30 : decode cX0_isBadAt 30 = .ok (.goto 4, 3) := by decide +kernel
theorem dX0_isBadAt_33 : decode cX0_isBadAt 33 = .ok (.iconst 0, 1) := by decide +kernel
theorem dX0_isBadAt_34 : decode cX0_isBadAt 34 = .ok (.ireturn, 1) := by decide +kernel
theorem dX0_dietOf_0 : decode cX0_dietOf 0 = .ok (.aload_n 0, 1) := by decide +kernel
theorem dX0_dietOf_1 : decode cX0_dietOf 1 = .ok (.iconst 3, 1) := by decide +kernel
theorem dX0_dietOf_2 : decode cX0_dietOf 2 = .ok (.iload_n 1, 1) := by decide +kernel
theorem dX0_dietOf_3 : decode cX0_dietOf 3 = .ok (.iconst 1, 1) := by decide +kernel
theorem dX0_dietOf_4 : decode cX0_dietOf 4 = .ok (.invokevirtual 48, 3) := by decide +kernel
theorem dX0_dietOf_7 : decode cX0_dietOf 7 = .ok (.ireturn, 1) := by decide +kernel
theorem dX0_barredLetters_0 : decode cX0_barredLetters 0 = .ok (.aload_n 0, 1) := by decide +kernel
theorem dX0_barredLetters_1 : decode cX0_barredLetters 1 = .ok (.iconst 2, 1) := by decide +kernel
theorem dX0_barredLetters_2 : decode cX0_barredLetters 2 = .ok (.iload_n 1, 1) := by decide +kernel
theorem dX0_barredLetters_3 : decode cX0_barredLetters 3 = .ok (.iconst 0, 1) := by decide +kernel
theorem dX0_barredLetters_4 : decode cX0_barredLetters 4 = .ok (.invokevirtual 48, 3) := by decide +kernel
theorem dX0_barredLetters_7 : decode cX0_barredLetters 7 = .ok (.aload_n 0, 1) := by decide +kernel
theorem dX0_barredLetters_8 : decode cX0_barredLetters 8 = .ok (.iconst 1, 1) := by decide +kernel
theorem dX0_barredLetters_9 : decode cX0_barredLetters 9 = .ok (.iload_n 2, 1) := by decide +kernel
theorem dX0_barredLetters_10 : decode cX0_barredLetters 10 = .ok (.iconst 0, 1) := by decide +kernel
theorem dX0_barredLetters_11 : decode cX0_barredLetters 11 = .ok (.invokevirtual 48, 3) := by decide +kernel
theorem dX0_barredLetters_14 : decode cX0_barredLetters 14 = .ok (.iand, 1) := by decide +kernel
theorem dX0_barredLetters_15 : decode cX0_barredLetters 15 = .ok (.ireturn, 1) := by decide +kernel
theorem dX0_isFitForAll_0 : decode cX0_isFitForAll 0 = .ok (.iconst 0, 1) := by decide +kernel
theorem dX0_isFitForAll_1 : decode cX0_isFitForAll 1 = .ok (.istore_n 2, 1) := by decide +kernel
theorem dX0_isFitForAll_2 : decode cX0_isFitForAll 2 = .ok (.iconst 0, 1) := by decide +kernel
theorem dX0_isFitForAll_3 : decode cX0_isFitForAll 3 = .ok (.istore_n 3, 1) := by decide +kernel
theorem dX0_isFitForAll_4 : decode cX0_isFitForAll 4 = .ok (.iload_n 3, 1) := by decide +kernel
theorem dX0_isFitForAll_5 : decode cX0_isFitForAll 5 = .ok (.aload_n 0, 1) := by decide +kernel
theorem dX0_isFitForAll_6 : decode cX0_isFitForAll 6 = .ok (.iconst 3, 1) := by decide +kernel
theorem dX0_isFitForAll_7 : decode cX0_isFitForAll 7 = .ok (.invokevirtual 24, 3) := by decide +kernel
theorem dX0_isFitForAll_10 : decode cX0_isFitForAll 10 = .ok (.if_icmp .ge 22, 3) := by decide +kernel
theorem dX0_isFitForAll_13 : decode cX0_isFitForAll 13 = .ok (.iload_n 2, 1) := by decide +kernel
theorem dX0_isFitForAll_14 : decode cX0_isFitForAll 14 = .ok (.aload_n 0, 1) := by decide +kernel
theorem dX0_isFitForAll_15 : decode cX0_isFitForAll 15 = .ok (.aload_n 0, 1) := by decide +kernel
theorem dX0_isFitForAll_16 : decode cX0_isFitForAll 16 = .ok (.iload_n 3, 1) := by decide +kernel
theorem dX0_isFitForAll_17 : decode cX0_isFitForAll 17 = .ok (.invokevirtual 57, 3) := by decide +kernel
theorem dX0_isFitForAll_20 : decode cX0_isFitForAll 20 = .ok (.iload_n 1, 1) := by decide +kernel
theorem dX0_isFitForAll_21 : decode cX0_isFitForAll 21 = .ok (.invokevirtual 60, 3) := by decide +kernel
theorem dX0_isFitForAll_24 : decode cX0_isFitForAll 24 = .ok (.ior, 1) := by decide +kernel
theorem dX0_isFitForAll_25 : decode cX0_isFitForAll 25 = .ok (.istore_n 2, 1) := by decide +kernel
theorem dX0_isFitForAll_26 : decode cX0_isFitForAll 26 = .ok (.iinc 3 1, 3) := by decide +kernel
theorem dX0_isFitForAll_29 : decode cX0_isFitForAll 29 = .ok (.goto (-25), 3) := by decide +kernel
theorem dX0_isFitForAll_32 : decode cX0_isFitForAll 32 = .ok (.iload_n 2, 1) := by decide +kernel
theorem dX0_isFitForAll_33 : decode cX0_isFitForAll 33 = .ok (.ifCond .ne 7, 3) := by decide +kernel
theorem dX0_isFitForAll_36 : decode cX0_isFitForAll 36 = .ok (.iconst 1, 1) := by decide +kernel
theorem dX0_isFitForAll_37 : decode cX0_isFitForAll 37 = .ok (.goto 4, 3) := by decide +kernel
theorem dX0_isFitForAll_40 : decode cX0_isFitForAll 40 = .ok (.iconst 0, 1) := by decide +kernel
theorem dX0_isFitForAll_41 : decode cX0_isFitForAll 41 = .ok (.ireturn, 1) := by decide +kernel
theorem dX1_init_0 : decode cX1_init 0 = .ok (.aload_n 0, 1) := by decide +kernel
theorem dX1_init_1 : decode cX1_init 1 = .ok (.invokespecial 3, 3) := by decide +kernel
theorem dX1_init_4 : decode cX1_init 4 = .ok (.aload_n 0, 1) := by decide +kernel
theorem dX1_init_5 : decode cX1_init 5 = .ok (.new 9, 3) := by decide +kernel
theorem dX1_init_8 : decode cX1_init 8 = .ok (.dup, 1) := by decide +kernel
theorem dX1_init_9 : decode cX1_init 9 = .ok (.invokespecial 11, 3) := by decide +kernel
theorem dX1_init_12 : decode cX1_init 12 = .ok (.putfield 12, 3) := by decide +kernel
theorem dX1_init_15 : decode cX1_init 15 = .ok (.aload_n 0, 1) := by decide +kernel
theorem dX1_init_16 : decode cX1_init 16 = .ok (.bipush 32, 2) := by decide +kernel
theorem dX1_init_18 : decode cX1_init 18 = .ok (.newarray .long, 2) := by decide +kernel
theorem dX1_init_20 : decode cX1_init 20 = .ok (.putfield 18, 3) := by decide +kernel
theorem dX1_init_23 : decode cX1_init 23 = .ok (.aload_n 0, 1) := by decide +kernel
theorem dX1_init_24 : decode cX1_init 24 = .ok (.bipush 32, 2) := by decide +kernel
theorem dX1_init_26 : decode cX1_init 26 = .ok (.newarray .int, 2) := by decide +kernel
theorem dX1_init_28 : decode cX1_init 28 = .ok (.putfield 22, 3) := by decide +kernel
theorem dX1_init_31 : decode cX1_init 31 = .ok (.aload_n 0, 1) := by decide +kernel
theorem dX1_init_32 : decode cX1_init 32 = .ok (.bipush 32, 2) := by decide +kernel
theorem dX1_init_34 : decode cX1_init 34 = .ok (.newarray .int, 2) := by decide +kernel
theorem dX1_init_36 : decode cX1_init 36 = .ok (.putfield 26, 3) := by decide +kernel
theorem dX1_init_39 : decode cX1_init 39 = .ok (.aload_n 0, 1) := by decide +kernel
theorem dX1_init_40 : decode cX1_init 40 = .ok (.new 29, 3) := by decide +kernel
theorem dX1_init_43 : decode cX1_init 43 = .ok (.dup, 1) := by decide +kernel
theorem dX1_init_44 : decode cX1_init 44 = .ok (.invokespecial 31, 3) := by decide +kernel
theorem dX1_init_47 : decode cX1_init 47 = .ok (.putfield 32, 3) := by decide +kernel
theorem dX1_init_50 : decode cX1_init 50 = .ok (.return_, 1) := by decide +kernel
theorem dX1_exchange_0 : decode cX1_exchange 0 = .ok (.aload_n 0, 1) := by decide +kernel
theorem dX1_exchange_1 : decode cX1_exchange 1 = .ok (.getfield 32, 3) := by decide +kernel
theorem dX1_exchange_4 : decode cX1_exchange 4 = .ok (.astore_n 2, 1) := by decide +kernel
theorem dX1_exchange_5 : decode cX1_exchange 5 = .ok (.aload_n 0, 1) := by decide +kernel
theorem dX1_exchange_6 : decode cX1_exchange 6 = .ok (.aload_n 1, 1) := by decide +kernel
theorem dX1_exchange_7 : decode cX1_exchange 7 = .ok (.putfield 32, 3) := by decide +kernel
theorem dX1_exchange_10 : decode cX1_exchange 10 = .ok (.aload_n 2, 1) := by decide +kernel
theorem dX1_exchange_11 : decode cX1_exchange 11 = .ok (.areturn, 1) := by decide +kernel
theorem dX1_read_0 : decode cX1_read 0 = .ok (.aload_n 0, 1) := by decide +kernel
theorem dX1_read_1 : decode cX1_read 1 = .ok (.getfield 32, 3) := by decide +kernel
theorem dX1_read_4 : decode cX1_read 4 = .ok (.invokevirtual 36, 3) := by decide +kernel
theorem dX1_read_7 : decode cX1_read 7 = .ok (.aload_n 0, 1) := by decide +kernel
theorem dX1_read_8 : decode cX1_read 8 = .ok (.iconst 0, 1) := by decide +kernel
theorem dX1_read_9 : decode cX1_read 9 = .ok (.putfield 39, 3) := by decide +kernel
theorem dX1_read_12 : decode cX1_read 12 = .ok (.aload_n 0, 1) := by decide +kernel
theorem dX1_read_13 : decode cX1_read 13 = .ok (.iconst 0, 1) := by decide +kernel
theorem dX1_read_14 : decode cX1_read 14 = .ok (.putfield 43, 3) := by decide +kernel
theorem dX1_read_17 : decode cX1_read 17 = .ok (.aload_n 0, 1) := by decide +kernel
theorem dX1_read_18 : decode cX1_read 18 = .ok (.iconst (-1), 1) := by decide +kernel
theorem dX1_read_19 : decode cX1_read 19 = .ok (.putfield 46, 3) := by decide +kernel
theorem dX1_read_22 : decode cX1_read 22 = .ok (.aload_n 0, 1) := by decide +kernel
theorem dX1_read_23 : decode cX1_read 23 = .ok (.getfield 12, 3) := by decide +kernel
theorem dX1_read_26 : decode cX1_read 26 = .ok (.iload_n 1, 1) := by decide +kernel
theorem dX1_read_27 : decode cX1_read 27 = .ok (.invokevirtual 49, 3) := by decide +kernel
theorem dX1_read_30 : decode cX1_read 30 = .ok (.iconst 0, 1) := by decide +kernel
theorem dX1_read_31 : decode cX1_read 31 = .ok (.istore_n 2, 1) := by decide +kernel
theorem dX1_read_32 : decode cX1_read 32 = .ok (.iload_n 2, 1) := by decide +kernel
theorem dX1_read_33 : decode cX1_read 33 = .ok (.sipush 900, 3) := by decide +kernel
theorem dX1_read_36 : decode cX1_read 36 = .ok (.if_icmp .gt 64, 3) := by decide +kernel
theorem dX1_read_39 : decode cX1_read 39 = .ok (.aload_n 0, 1) := by decide +kernel
theorem dX1_read_40 : decode cX1_read 40 = .ok (.invokevirtual 53, 3) := by decide +kernel
theorem dX1_read_43 : decode cX1_read 43 = .ok (.ifCond .eq 10, 3) := by decide +kernel
theorem dX1_read_46 : decode cX1_read 46 = .ok (.aload_n 0, 1) := by decide +kernel
theorem dX1_read_47 : decode cX1_read 47 = .ok (.invokevirtual 57, 3) := by decide +kernel
theorem dX1_read_50 : decode cX1_read 50 = .ok (.ifCond .ne 5, 3) := by decide +kernel
theorem dX1_read_53 : decode cX1_read 53 = .ok (.iconst 0, 1) := by decide +kernel
theorem dX1_read_54 : decode cX1_read 54 = .ok (.ireturn, 1) := by decide +kernel
theorem dX1_read_55 : decode cX1_read 55 = .ok (.aload_n 0, 1) := by decide +kernel
theorem dX1_read_56 : decode cX1_read 56 = .ok (.getfield 12, 3) := by decide +kernel
theorem dX1_read_59 : decode cX1_read 59 = .ok (.getfield 60, 3) := by decide +kernel
theorem dX1_read_62 : decode cX1_read 62 = .ok (.ifCond .ne 8, 3) := by decide +kernel
theorem dX1_read_65 : decode cX1_read 65 = .ok (.aload_n 0, 1) := by decide +kernel
theorem dX1_read_66 : decode cX1_read 66 = .ok (.invokevirtual 63, 3) := by decide +kernel
theorem dX1_read_69 : decode cX1_read 69 = .ok (.ireturn, 1) := by decide +kernel
theorem dX1_read_70 : decode cX1_read 70 = .ok (.aload_n 0, 1) := by decide +kernel
theorem dX1_read_71 : decode cX1_read 71 = .ok (.getfield 12, 3) := by decide +kernel
theorem dX1_read_74 : decode cX1_read 74 = .ok (.getfield 60, 3) := by decide +kernel
theorem dX1_read_77 : decode cX1_read 77 = .ok (.iconst 3, 1) := by decide +kernel
theorem dX1_read_78 : decode cX1_read 78 = .ok (.if_icmp .eq 9, 3) := by decide +kernel
theorem dX1_read_81 : decode cX1_read 81 = .ok (.aload_n 0, 1) := by decide +kernel
theorem dX1_read_82 : decode cX1_read 82 = .ok (.iconst 1, 1) := by decide +kernel
theorem dX1_read_83 : decode cX1_read 83 = .ok (.invokevirtual 66, 3) := by decide +kernel
theorem dX1_read_86 : decode cX1_read 86 = .ok (.ireturn, 1) := by decide +kernel
theorem dX1_read_87 : decode cX1_read 87 = .ok (.aload_n 0, 1) := by decide +kernel
theorem dX1_read_88 : decode cX1_read 88 = .ok (.getfield 12, 3) := by decide +kernel
theorem dX1_read_91 : decode cX1_read 91 = .ok (.invokevirtual 70, 3) := by decide +kernel
theorem dX1_read_94 : decode cX1_read 94 = .ok (.iinc 2 1, 3) := by decide +kernel
theorem dX1_read_97 : decode cX1_read 97 = .ok (.goto (-65), 3) := by decide +kernel
theorem dX1_read_100 : decode cX1_read 100 = .ok (.aload_n 0, 1) := by decide +kernel
theorem dX1_read_101 : decode cX1_read 101 = .ok (.iconst 1, 1) := by decide +kernel
theorem dX1_read_102 : decode cX1_read 102 = .ok (.invokevirtual 66, 3) := by decide +kernel
theorem dX1_read_105 : decode cX1_read 105 = .ok (.ireturn, 1) := by decide +kernel
theorem dX1_beginLine_0 : decode cX1_beginLine 0 = .ok (.aload_n 0, 1) := by decide +kernel
theorem dX1_beginLine_1 : decode cX1_beginLine 1 = .ok (.aload_n 0, 1) := by decide +kernel
theorem dX1_beginLine_2 : decode cX1_beginLine 2 = .ok (.invokevirtual 73, 3) := by decide +kernel
theorem dX1_beginLine_5 : decode cX1_beginLine 5 = .ok (.putfield 77, 3) := by decide +kernel
theorem dX1_beginLine_8 : decode cX1_beginLine 8 = .ok (.aload_n 0, 1) := by decide +kernel
theorem dX1_beginLine_9 : decode cX1_beginLine 9 = .ok (.getfield 77, 3) := by decide +kernel
theorem dX1_beginLine_12 : decode cX1_beginLine 12 = .ok (.iconst (-1), 1) := by decide +kernel
theorem dX1_beginLine_13 : decode cX1_beginLine 13 = .ok (.if_icmp .ne 9, 3) := by decide +kernel
theorem dX1_beginLine_16 : decode cX1_beginLine 16 = .ok (.aload_n 0, 1) := by decide +kernel
theorem dX1_beginLine_17 : decode cX1_beginLine 17 = .ok (.iconst 1, 1) := by decide +kernel
theorem dX1_beginLine_18 : decode cX1_beginLine 18 = .ok (.invokevirtual 66, 3) := by decide +kernel
theorem dX1_beginLine_21 : decode cX1_beginLine 21 = .ok (.ireturn, 1) := by decide +kernel
theorem dX1_beginLine_22 : decode cX1_beginLine 22 = .ok (.aload_n 0, 1) := by decide +kernel
theorem dX1_beginLine_23 : decode cX1_beginLine 23 = .ok (.getfield 32, 3) := by decide +kernel
theorem dX1_beginLine_26 : decode cX1_beginLine 26 = .ok (.aload_n 0, 1) := by decide +kernel
theorem dX1_beginLine_27 : decode cX1_beginLine 27 = .ok (.getfield 77, 3) := by decide +kernel
theorem dX1_beginLine_30 : decode cX1_beginLine 30 = .ok (.invokevirtual 80, 3) := by decide +kernel
theorem dX1_beginLine_33 : decode cX1_beginLine 33 = .ok (.ifCond .ne 22, 3) := by decide +kernel
theorem dX1_beginLine_36 : decode cX1_beginLine 36 = .ok (.aload_n 0, 1) := by decide +kernel
theorem dX1_beginLine_37 : decode cX1_beginLine 37 = .ok (.aload_n 0, 1) := by decide +kernel
theorem dX1_beginLine_38 : decode cX1_beginLine 38 = .ok (.getfield 77, 3) := by decide +kernel
theorem dX1_beginLine_41 : decode cX1_beginLine 41 = .ok (.bipush 8, 2) := by decide +kernel
theorem dX1_beginLine_43 : decode cX1_beginLine 43 = .ok (.if_icmp .ne 7, 3) := by decide +kernel
theorem dX1_beginLine_46 : decode cX1_beginLine 46 = .ok (.iconst 3, 1) := by decide +kernel
theorem dX1_beginLine_47 : decode cX1_beginLine 47 = .ok (.goto 4, 3) := by decide +kernel
theorem dX1_beginLine_50 : decode cX1_beginLine 50 = .ok (.iconst 5, 1) := by decide +kernel
theorem dX1_beginLine_51 : decode cX1_beginLine 51 = .ok (.invokevirtual 66, 3) := by decide +kernel
theorem dX1_beginLine_54 : decode cX1_beginLine 54 = .ok (.ireturn, 1) := by decide +kernel
theorem dX1_beginLine_55 : decode cX1_beginLine 55 = .ok (.aload_n 0, 1) := by decide +kernel
theorem dX1_beginLine_56 : decode cX1_beginLine 56 = .ok (.getfield 12, 3) := by decide +kernel
theorem dX1_beginLine_59 : decode cX1_beginLine 59 = .ok (.invokevirtual 70, 3) := by decide +kernel
theorem dX1_beginLine_62 : decode cX1_beginLine 62 = .ok (.iconst 1, 1) := by decide +kernel
theorem dX1_beginLine_63 : decode cX1_beginLine 63 = .ok (.ireturn, 1) := by decide +kernel
theorem dX1_sortOfLine_0 : decode cX1_sortOfLine 0 = .ok (.aload_n 0, 1) := by decide +kernel
theorem dX1_sortOfLine_1 : decode cX1_sortOfLine 1 = .ok (.getfield 12, 3) := by decide +kernel
theorem dX1_sortOfLine_4 : decode cX1_sortOfLine 4 = .ok (.ldc 83, 2) := by decide +kernel
theorem dX1_sortOfLine_6 : decode cX1_sortOfLine 6 = .ok (.invokevirtual 85, 3) := by decide +kernel
theorem dX1_sortOfLine_9 : decode cX1_sortOfLine 9 = .ok (.ifCond .eq 8, 3) := by decide +kernel
theorem dX1_sortOfLine_12 : decode cX1_sortOfLine 12 = .ok (.bipush 8, 2) := by decide +kernel
theorem dX1_sortOfLine_14 : decode cX1_sortOfLine 14 = .ok (.goto 134, 3) := by decide +kernel
theorem dX1_sortOfLine_17 : decode cX1_sortOfLine 17 = .ok (.aload_n 0, 1) := by decide +kernel
theorem dX1_sortOfLine_18 : decode cX1_sortOfLine 18 = .ok (.getfield 12, 3) := by decide +kernel
theorem dX1_sortOfLine_21 : decode cX1_sortOfLine 21 = .ok (.ldc 89, 2) := by decide +kernel
theorem dX1_sortOfLine_23 : decode cX1_sortOfLine 23 = .ok (.invokevirtual 85, 3) := by decide +kernel
theorem dX1_sortOfLine_26 : decode cX1_sortOfLine 26 = .ok (.ifCond .eq 7, 3) := by decide +kernel
theorem dX1_sortOfLine_29 : decode cX1_sortOfLine 29 = .ok (.iconst 0, 1) := by decide +kernel
theorem dX1_sortOfLine_30 : decode cX1_sortOfLine 30 = .ok (.goto 118, 3) := by decide +kernel
theorem dX1_sortOfLine_33 : decode cX1_sortOfLine 33 = .ok (.aload_n 0, 1) := by decide +kernel
theorem dX1_sortOfLine_34 : decode cX1_sortOfLine 34 = .ok (.getfield 12, 3) := by decide +kernel
theorem dX1_sortOfLine_37 : decode cX1_sortOfLine 37 = .ok (.ldc 91, 2) := by decide +kernel
theorem dX1_sortOfLine_39 : decode cX1_sortOfLine 39 = .ok (.invokevirtual 85, 3) := by decide +kernel
theorem dX1_sortOfLine_42 : decode cX1_sortOfLine 42 = .ok (.ifCond .eq 7, 3) := by decide +kernel
theorem dX1_sortOfLine_45 : decode cX1_sortOfLine 45 = .ok (.iconst 5, 1) := by decide +kernel
theorem dX1_sortOfLine_46 : decode cX1_sortOfLine 46 = .ok (.goto 102, 3) := by decide +kernel
theorem dX1_sortOfLine_49 : decode cX1_sortOfLine 49 = .ok (.aload_n 0, 1) := by decide +kernel
theorem dX1_sortOfLine_50 : decode cX1_sortOfLine 50 = .ok (.getfield 12, 3) := by decide +kernel
theorem dX1_sortOfLine_53 : decode cX1_sortOfLine 53 = .ok (.ldc 93, 2) := by decide +kernel
theorem dX1_sortOfLine_55 : decode cX1_sortOfLine 55 = .ok (.invokevirtual 85, 3) := by decide +kernel
theorem dX1_sortOfLine_58 : decode cX1_sortOfLine 58 = .ok (.ifCond .eq 7, 3) := by decide +kernel
theorem dX1_sortOfLine_61 : decode cX1_sortOfLine 61 = .ok (.iconst 1, 1) := by decide +kernel
theorem dX1_sortOfLine_62 : decode cX1_sortOfLine 62 = .ok (.goto 86, 3) := by decide +kernel
theorem dX1_sortOfLine_65 : decode cX1_sortOfLine 65 = .ok (.aload_n 0, 1) := by decide +kernel
theorem dX1_sortOfLine_66 : decode cX1_sortOfLine 66 = .ok (.getfield 12, 3) := by decide +kernel
theorem dX1_sortOfLine_69 : decode cX1_sortOfLine 69 = .ok (.ldc 95, 2) := by decide +kernel
theorem dX1_sortOfLine_71 : decode cX1_sortOfLine 71 = .ok (.invokevirtual 85, 3) := by decide +kernel
theorem dX1_sortOfLine_74 : decode cX1_sortOfLine 74 = .ok (.ifCond .eq 7, 3) := by decide +kernel
theorem dX1_sortOfLine_77 : decode cX1_sortOfLine 77 = .ok (.iconst 2, 1) := by decide +kernel
theorem dX1_sortOfLine_78 : decode cX1_sortOfLine 78 = .ok (.goto 70, 3) := by decide +kernel
theorem dX1_sortOfLine_81 : decode cX1_sortOfLine 81 = .ok (.aload_n 0, 1) := by decide +kernel
theorem dX1_sortOfLine_82 : decode cX1_sortOfLine 82 = .ok (.getfield 12, 3) := by decide +kernel
theorem dX1_sortOfLine_85 : decode cX1_sortOfLine 85 = .ok (.ldc 97, 2) := by decide +kernel
theorem dX1_sortOfLine_87 : decode cX1_sortOfLine 87 = .ok (.invokevirtual 85, 3) := by decide +kernel
theorem dX1_sortOfLine_90 : decode cX1_sortOfLine 90 = .ok (.ifCond .eq 7, 3) := by decide +kernel
theorem dX1_sortOfLine_93 : decode cX1_sortOfLine 93 = .ok (.iconst 3, 1) := by decide +kernel
theorem dX1_sortOfLine_94 : decode cX1_sortOfLine 94 = .ok (.goto 54, 3) := by decide +kernel
theorem dX1_sortOfLine_97 : decode cX1_sortOfLine 97 = .ok (.aload_n 0, 1) := by decide +kernel
theorem dX1_sortOfLine_98 : decode cX1_sortOfLine 98 = .ok (.getfield 12, 3) := by decide +kernel
theorem dX1_sortOfLine_101 : decode cX1_sortOfLine 101 = .ok (.ldc 99, 2) := by decide +kernel
theorem dX1_sortOfLine_103 : decode cX1_sortOfLine 103 = .ok (.invokevirtual 85, 3) := by decide +kernel
theorem dX1_sortOfLine_106 : decode cX1_sortOfLine 106 = .ok (.ifCond .eq 7, 3) := by decide +kernel
theorem dX1_sortOfLine_109 : decode cX1_sortOfLine 109 = .ok (.iconst 4, 1) := by decide +kernel
theorem dX1_sortOfLine_110 : decode cX1_sortOfLine 110 = .ok (.goto 38, 3) := by decide +kernel
theorem dX1_sortOfLine_113 : decode cX1_sortOfLine 113 = .ok (.aload_n 0, 1) := by decide +kernel
theorem dX1_sortOfLine_114 : decode cX1_sortOfLine 114 = .ok (.getfield 12, 3) := by decide +kernel
theorem dX1_sortOfLine_117 : decode cX1_sortOfLine 117 = .ok (.ldc 101, 2) := by decide +kernel
theorem dX1_sortOfLine_119 : decode cX1_sortOfLine 119 = .ok (.invokevirtual 85, 3) := by decide +kernel
theorem dX1_sortOfLine_122 : decode cX1_sortOfLine 122 = .ok (.ifCond .eq 8, 3) := by decide +kernel
theorem dX1_sortOfLine_125 : decode cX1_sortOfLine 125 = .ok (.bipush 6, 2) := by decide +kernel
theorem dX1_sortOfLine_127 : decode cX1_sortOfLine 127 = .ok (.goto 21, 3) := by decide +kernel
theorem dX1_sortOfLine_130 : decode cX1_sortOfLine 130 = .ok (.aload_n 0, 1) := by decide +kernel
theorem dX1_sortOfLine_131 : decode cX1_sortOfLine 131 = .ok (.getfield 12, 3) := by decide +kernel
theorem dX1_sortOfLine_134 : decode cX1_sortOfLine 134 = .ok (.ldc 103, 2) := by decide +kernel
theorem dX1_sortOfLine_136 : decode cX1_sortOfLine 136 = .ok (.invokevirtual 85, 3) := by decide +kernel
theorem dX1_sortOfLine_139 : decode cX1_sortOfLine 139 = .ok (.ifCond .eq 8, 3) := by decide +kernel
theorem dX1_sortOfLine_142 : decode cX1_sortOfLine 142 = .ok (.bipush 7, 2) := by decide +kernel
theorem dX1_sortOfLine_144 : decode cX1_sortOfLine 144 = .ok (.goto 4, 3) := by decide +kernel
theorem dX1_sortOfLine_147 : decode cX1_sortOfLine 147 = .ok (.iconst (-1), 1) := by decide +kernel
theorem dX1_sortOfLine_148 : decode cX1_sortOfLine 148 = .ok (.ireturn, 1) := by decide +kernel
theorem dX1_readRest_0 : decode cX1_readRest 0 = .ok (.aload_n 0, 1) := by decide +kernel
theorem dX1_readRest_1 : decode cX1_readRest 1 = .ok (.getfield 77, 3) := by decide +kernel
theorem dX1_readRest_4 : decode cX1_readRest 4 = .ok (.tableswitch 621 0 8 #[102, 193, 243, 273, 415, 156, 519, 572, 52], 52) := by decide +kernel
theorem dX1_readRest_56 : decode cX1_readRest 56 = .ok (.aload_n 0, 1) := by decide +kernel
theorem dX1_readRest_57 : decode cX1_readRest 57 = .ok (.ldc 105, 2) := by decide +kernel
theorem dX1_readRest_59 : decode cX1_readRest 59 = .ok (.invokevirtual 107, 3) := by decide +kernel
theorem dX1_readRest_62 : decode cX1_readRest 62 = .ok (.ifCond .eq 42, 3) := by decide +kernel
theorem dX1_readRest_65 : decode cX1_readRest 65 = .ok (.aload_n 0, 1) := by decide +kernel
theorem dX1_readRest_66 : decode cX1_readRest 66 = .ok (.iconst 0, 1) := by decide +kernel
theorem dX1_readRest_67 : decode cX1_readRest 67 = .ok (.bipush 40, 2) := by decide +kernel
theorem dX1_readRest_69 : decode cX1_readRest 69 = .ok (.bipush 90, 2) := by decide +kernel
theorem dX1_readRest_71 : decode cX1_readRest 71 = .ok (.invokevirtual 110, 3) := by decide +kernel
theorem dX1_readRest_74 : decode cX1_readRest 74 = .ok (.ifCond .eq 30, 3) := by decide +kernel
theorem dX1_readRest_77 : decode cX1_readRest 77 = .ok (.aload_n 0, 1) := by decide +kernel
theorem dX1_readRest_78 : decode cX1_readRest 78 = .ok (.ldc 114, 2) := by decide +kernel
theorem dX1_readRest_80 : decode cX1_readRest 80 = .ok (.invokevirtual 107, 3) := by decide +kernel
theorem dX1_readRest_83 : decode cX1_readRest 83 = .ok (.ifCond .eq 21, 3) := by decide +kernel
theorem dX1_readRest_86 : decode cX1_readRest 86 = .ok (.aload_n 0, 1) := by decide +kernel
theorem dX1_readRest_87 : decode cX1_readRest 87 = .ok (.iconst 1, 1) := by decide +kernel
theorem dX1_readRest_88 : decode cX1_readRest 88 = .ok (.sipush 600, 3) := by decide +kernel
theorem dX1_readRest_91 : decode cX1_readRest 91 = .ok (.sipush 900, 3) := by decide +kernel
theorem dX1_readRest_94 : decode cX1_readRest 94 = .ok (.invokevirtual 110, 3) := by decide +kernel
theorem dX1_readRest_97 : decode cX1_readRest 97 = .ok (.ifCond .eq 7, 3) := by decide +kernel
theorem dX1_readRest_100 : decode cX1_readRest 100 = .ok (.iconst 1, 1) := by decide +kernel
theorem dX1_readRest_101 : decode cX1_readRest 101 = .ok (.goto 4, 3) := by decide +kernel
theorem dX1_readRest_104 : decode cX1_readRest 104 = .ok (.iconst 0, 1) := by decide +kernel
theorem dX1_readRest_105 : decode cX1_readRest 105 = .ok (.ireturn, 1) := by decide +kernel
theorem dX1_readRest_106 : decode cX1_readRest 106 = .ok (.aload_n 0, 1) := by decide +kernel
theorem dX1_readRest_107 : decode cX1_readRest 107 = .ok (.invokevirtual 116, 3) := by decide +kernel
theorem dX1_readRest_110 : decode cX1_readRest 110 = .ok (.ifCond .eq 48, 3) := by decide +kernel
theorem dX1_readRest_113 : decode cX1_readRest 113 = .ok (.aload_n 0, 1) := by decide +kernel
theorem dX1_readRest_114 : decode cX1_readRest 114 = .ok (.ldc 119, 2) := by decide +kernel
theorem dX1_readRest_116 : decode cX1_readRest 116 = .ok (.invokevirtual 107, 3) := by decide +kernel
theorem dX1_readRest_119 : decode cX1_readRest 119 = .ok (.ifCond .eq 39, 3) := by decide +kernel
theorem dX1_readRest_122 : decode cX1_readRest 122 = .ok (.aload_n 0, 1) := by decide +kernel
theorem dX1_readRest_123 : decode cX1_readRest 123 = .ok (.iconst 0, 1) := by decide +kernel
theorem dX1_readRest_124 : decode cX1_readRest 124 = .ok (.iconst 0, 1) := by decide +kernel
theorem dX1_readRest_125 : decode cX1_readRest 125 = .ok (.bipush 99, 2) := by decide +kernel
theorem dX1_readRest_127 : decode cX1_readRest 127 = .ok (.invokevirtual 110, 3) := by decide +kernel
theorem dX1_readRest_130 : decode cX1_readRest 130 = .ok (.ifCond .eq 28, 3) := by decide +kernel
theorem dX1_readRest_133 : decode cX1_readRest 133 = .ok (.aload_n 0, 1) := by decide +kernel
theorem dX1_readRest_134 : decode cX1_readRest 134 = .ok (.ldc 105, 2) := by decide +kernel
theorem dX1_readRest_136 : decode cX1_readRest 136 = .ok (.invokevirtual 107, 3) := by decide +kernel
theorem dX1_readRest_139 : decode cX1_readRest 139 = .ok (.ifCond .eq 19, 3) := by decide +kernel
theorem dX1_readRest_142 : decode cX1_readRest 142 = .ok (.aload_n 0, 1) := by decide +kernel
theorem dX1_readRest_143 : decode cX1_readRest 143 = .ok (.iconst 1, 1) := by decide +kernel
theorem dX1_readRest_144 : decode cX1_readRest 144 = .ok (.bipush 60, 2) := by decide +kernel
theorem dX1_readRest_146 : decode cX1_readRest 146 = .ok (.bipush 99, 2) := by decide +kernel
theorem dX1_readRest_148 : decode cX1_readRest 148 = .ok (.invokevirtual 110, 3) := by decide +kernel
theorem dX1_readRest_151 : decode cX1_readRest 151 = .ok (.ifCond .eq 7, 3) := by decide +kernel
theorem dX1_readRest_154 : decode cX1_readRest 154 = .ok (.iconst 1, 1) := by decide +kernel
theorem dX1_readRest_155 : decode cX1_readRest 155 = .ok (.goto 4, 3) := by decide +kernel
theorem dX1_readRest_158 : decode cX1_readRest 158 = .ok (.iconst 0, 1) := by decide +kernel
theorem dX1_readRest_159 : decode cX1_readRest 159 = .ok (.ireturn, 1) := by decide +kernel
theorem dX1_readRest_160 : decode cX1_readRest 160 = .ok (.aload_n 0, 1) := by decide +kernel
theorem dX1_readRest_161 : decode cX1_readRest 161 = .ok (.iconst 0, 1) := by decide +kernel
theorem dX1_readRest_162 : decode cX1_readRest 162 = .ok (.iconst 0, 1) := by decide +kernel
theorem dX1_readRest_163 : decode cX1_readRest 163 = .ok (.bipush 98, 2) := by decide +kernel
theorem dX1_readRest_165 : decode cX1_readRest 165 = .ok (.invokevirtual 110, 3) := by decide +kernel
theorem dX1_readRest_168 : decode cX1_readRest 168 = .ok (.ifCond .eq 27, 3) := by decide +kernel
theorem dX1_readRest_171 : decode cX1_readRest 171 = .ok (.aload_n 0, 1) := by decide +kernel
theorem dX1_readRest_172 : decode cX1_readRest 172 = .ok (.ldc 121, 2) := by decide +kernel
theorem dX1_readRest_174 : decode cX1_readRest 174 = .ok (.invokevirtual 107, 3) := by decide +kernel
theorem dX1_readRest_177 : decode cX1_readRest 177 = .ok (.ifCond .eq 18, 3) := by decide +kernel
theorem dX1_readRest_180 : decode cX1_readRest 180 = .ok (.aload_n 0, 1) := by decide +kernel
theorem dX1_readRest_181 : decode cX1_readRest 181 = .ok (.iconst 1, 1) := by decide +kernel
theorem dX1_readRest_182 : decode cX1_readRest 182 = .ok (.iconst 1, 1) := by decide +kernel
theorem dX1_readRest_183 : decode cX1_readRest 183 = .ok (.bipush 60, 2) := by decide +kernel
theorem dX1_readRest_185 : decode cX1_readRest 185 = .ok (.invokevirtual 110, 3) := by decide +kernel
theorem dX1_readRest_188 : decode cX1_readRest 188 = .ok (.ifCond .eq 7, 3) := by decide +kernel
theorem dX1_readRest_191 : decode cX1_readRest 191 = .ok (.iconst 1, 1) := by decide +kernel
theorem dX1_readRest_192 : decode cX1_readRest 192 = .ok (.goto 4, 3) := by decide +kernel
theorem dX1_readRest_195 : decode cX1_readRest 195 = .ok (.iconst 0, 1) := by decide +kernel
theorem dX1_readRest_196 : decode cX1_readRest 196 = .ok (.ireturn, 1) := by decide +kernel
theorem dX1_readRest_197 : decode cX1_readRest 197 = .ok (.aload_n 0, 1) := by decide +kernel
theorem dX1_readRest_198 : decode cX1_readRest 198 = .ok (.invokevirtual 116, 3) := by decide +kernel
theorem dX1_readRest_201 : decode cX1_readRest 201 = .ok (.ifCond .eq 44, 3) := by decide +kernel
theorem dX1_readRest_204 : decode cX1_readRest 204 = .ok (.aload_n 0, 1) := by decide +kernel
theorem dX1_readRest_205 : decode cX1_readRest 205 = .ok (.ldc 123, 2) := by decide +kernel
theorem dX1_readRest_207 : decode cX1_readRest 207 = .ok (.invokevirtual 107, 3) := by decide +kernel
theorem dX1_readRest_210 : decode cX1_readRest 210 = .ok (.ifCond .eq 35, 3) := by decide +kernel
theorem dX1_readRest_213 : decode cX1_readRest 213 = .ok (.aload_n 0, 1) := by decide +kernel
theorem dX1_readRest_214 : decode cX1_readRest 214 = .ok (.iconst 0, 1) := by decide +kernel
theorem dX1_readRest_215 : decode cX1_readRest 215 = .ok (.invokevirtual 125, 3) := by decide +kernel
theorem dX1_readRest_218 : decode cX1_readRest 218 = .ok (.ifCond .eq 27, 3) := by decide +kernel
theorem dX1_readRest_221 : decode cX1_readRest 221 = .ok (.aload_n 0, 1) := by decide +kernel
theorem dX1_readRest_222 : decode cX1_readRest 222 = .ok (.ldc 128, 2) := by decide +kernel
theorem dX1_readRest_224 : decode cX1_readRest 224 = .ok (.invokevirtual 107, 3) := by decide +kernel
theorem dX1_readRest_227 : decode cX1_readRest 227 = .ok (.ifCond .eq 18, 3) := by decide +kernel
theorem dX1_readRest_230 : decode cX1_readRest 230 = .ok (.aload_n 0, 1) := by decide +kernel
theorem dX1_readRest_231 : decode cX1_readRest 231 = .ok (.iconst 1, 1) := by decide +kernel
theorem dX1_readRest_232 : decode cX1_readRest 232 = .ok (.iconst 1, 1) := by decide +kernel
theorem dX1_readRest_233 : decode cX1_readRest 233 = .ok (.bipush 99, 2) := by decide +kernel
theorem dX1_readRest_235 : decode cX1_readRest 235 = .ok (.invokevirtual 110, 3) := by decide +kernel
theorem dX1_readRest_238 : decode cX1_readRest 238 = .ok (.ifCond .eq 7, 3) := by decide +kernel
theorem dX1_readRest_241 : decode cX1_readRest 241 = .ok (.iconst 1, 1) := by decide +kernel
theorem dX1_readRest_242 : decode cX1_readRest 242 = .ok (.goto 4, 3) := by decide +kernel
theorem dX1_readRest_245 : decode cX1_readRest 245 = .ok (.iconst 0, 1) := by decide +kernel
theorem dX1_readRest_246 : decode cX1_readRest 246 = .ok (.ireturn, 1) := by decide +kernel
theorem dX1_readRest_247 : decode cX1_readRest 247 = .ok (.aload_n 0, 1) := by decide +kernel
theorem dX1_readRest_248 : decode cX1_readRest 248 = .ok (.invokevirtual 116, 3) := by decide +kernel
theorem dX1_readRest_251 : decode cX1_readRest 251 = .ok (.ifCond .eq 24, 3) := by decide +kernel
theorem dX1_readRest_254 : decode cX1_readRest 254 = .ok (.aload_n 0, 1) := by decide +kernel
theorem dX1_readRest_255 : decode cX1_readRest 255 = .ok (.ldc 130, 2) := by decide +kernel
theorem dX1_readRest_257 : decode cX1_readRest 257 = .ok (.invokevirtual 107, 3) := by decide +kernel
theorem dX1_readRest_260 : decode cX1_readRest 260 = .ok (.ifCond .eq 15, 3) := by decide +kernel
theorem dX1_readRest_263 : decode cX1_readRest 263 = .ok (.aload_n 0, 1) := by decide +kernel
theorem dX1_readRest_264 : decode cX1_readRest 264 = .ok (.iconst 0, 1) := by decide +kernel
theorem dX1_readRest_265 : decode cX1_readRest 265 = .ok (.invokevirtual 125, 3) := by decide +kernel
theorem dX1_readRest_268 : decode cX1_readRest 268 = .ok (.ifCond .eq 7, 3) := by decide +kernel
theorem dX1_readRest_271 : decode cX1_readRest 271 = .ok (.iconst 1, 1) := by decide +kernel
theorem dX1_readRest_272 : decode cX1_readRest 272 = .ok (.goto 4, 3) := by decide +kernel
theorem dX1_readRest_275 : decode cX1_readRest 275 = .ok (.iconst 0, 1) := by decide +kernel
theorem dX1_readRest_276 : decode cX1_readRest 276 = .ok (.ireturn, 1) := by decide +kernel
theorem dX1_readRest_277 : decode cX1_readRest 277 = .ok (.aload_n 0, 1) := by decide +kernel
theorem dX1_readRest_278 : decode cX1_readRest 278 = .ok (.invokevirtual 116, 3) := by decide +kernel
theorem dX1_readRest_281 : decode cX1_readRest 281 = .ok (.ifCond .eq 136, 3) := by decide +kernel
theorem dX1_readRest_284 : decode cX1_readRest 284 = .ok (.aload_n 0, 1) := by decide +kernel
theorem dX1_readRest_285 : decode cX1_readRest 285 = .ok (.ldc 119, 2) := by decide +kernel
theorem dX1_readRest_287 : decode cX1_readRest 287 = .ok (.invokevirtual 107, 3) := by decide +kernel
theorem dX1_readRest_290 : decode cX1_readRest 290 = .ok (.ifCond .eq 127, 3) := by decide +kernel
theorem dX1_readRest_293 : decode cX1_readRest 293 = .ok (.aload_n 0, 1) := by decide +kernel
theorem dX1_readRest_294 : decode cX1_readRest 294 = .ok (.iconst 0, 1) := by decide +kernel
theorem dX1_readRest_295 : decode cX1_readRest 295 = .ok (.iconst 0, 1) := by decide +kernel
theorem dX1_readRest_296 : decode cX1_readRest 296 = .ok (.bipush 99, 2) := by decide +kernel
theorem dX1_readRest_298 : decode cX1_readRest 298 = .ok (.invokevirtual 110, 3) := by decide +kernel
theorem dX1_readRest_301 : decode cX1_readRest 301 = .ok (.ifCond .eq 116, 3) := by decide +kernel
theorem dX1_readRest_304 : decode cX1_readRest 304 = .ok (.aload_n 0, 1) := by decide +kernel
theorem dX1_readRest_305 : decode cX1_readRest 305 = .ok (.ldc 132, 2) := by decide +kernel
theorem dX1_readRest_307 : decode cX1_readRest 307 = .ok (.invokevirtual 107, 3) := by decide +kernel
theorem dX1_readRest_310 : decode cX1_readRest 310 = .ok (.ifCond .eq 107, 3) := by decide +kernel
theorem dX1_readRest_313 : decode cX1_readRest 313 = .ok (.aload_n 0, 1) := by decide +kernel
theorem dX1_readRest_314 : decode cX1_readRest 314 = .ok (.iconst 2, 1) := by decide +kernel
theorem dX1_readRest_315 : decode cX1_readRest 315 = .ok (.iconst 1, 1) := by decide +kernel
theorem dX1_readRest_316 : decode cX1_readRest 316 = .ok (.invokevirtual 134, 3) := by decide +kernel
theorem dX1_readRest_319 : decode cX1_readRest 319 = .ok (.ifCond .eq 98, 3) := by decide +kernel
theorem dX1_readRest_322 : decode cX1_readRest 322 = .ok (.aload_n 0, 1) := by decide +kernel
theorem dX1_readRest_323 : decode cX1_readRest 323 = .ok (.ldc 138, 2) := by decide +kernel
theorem dX1_readRest_325 : decode cX1_readRest 325 = .ok (.invokevirtual 107, 3) := by decide +kernel
theorem dX1_readRest_328 : decode cX1_readRest 328 = .ok (.ifCond .eq 89, 3) := by decide +kernel
theorem dX1_readRest_331 : decode cX1_readRest 331 = .ok (.aload_n 0, 1) := by decide +kernel
theorem dX1_readRest_332 : decode cX1_readRest 332 = .ok (.iconst 2, 1) := by decide +kernel
theorem dX1_readRest_333 : decode cX1_readRest 333 = .ok (.iconst 0, 1) := by decide +kernel
theorem dX1_readRest_334 : decode cX1_readRest 334 = .ok (.bipush 30, 2) := by decide +kernel
theorem dX1_readRest_336 : decode cX1_readRest 336 = .ok (.invokevirtual 110, 3) := by decide +kernel
theorem dX1_readRest_339 : decode cX1_readRest 339 = .ok (.ifCond .eq 78, 3) := by decide +kernel
theorem dX1_readRest_342 : decode cX1_readRest 342 = .ok (.aload_n 0, 1) := by decide +kernel
theorem dX1_readRest_343 : decode cX1_readRest 343 = .ok (.ldc 140, 2) := by decide +kernel
theorem dX1_readRest_345 : decode cX1_readRest 345 = .ok (.invokevirtual 107, 3) := by decide +kernel
theorem dX1_readRest_348 : decode cX1_readRest 348 = .ok (.ifCond .eq 69, 3) := by decide +kernel
theorem dX1_readRest_351 : decode cX1_readRest 351 = .ok (.aload_n 0, 1) := by decide +kernel
theorem dX1_readRest_352 : decode cX1_readRest 352 = .ok (.iconst 3, 1) := by decide +kernel
theorem dX1_readRest_353 : decode cX1_readRest 353 = .ok (.iconst 0, 1) := by decide +kernel
theorem dX1_readRest_354 : decode cX1_readRest 354 = .ok (.bipush 60, 2) := by decide +kernel
theorem dX1_readRest_356 : decode cX1_readRest 356 = .ok (.invokevirtual 110, 3) := by decide +kernel
theorem dX1_readRest_359 : decode cX1_readRest 359 = .ok (.ifCond .eq 58, 3) := by decide +kernel
theorem dX1_readRest_362 : decode cX1_readRest 362 = .ok (.aload_n 0, 1) := by decide +kernel
theorem dX1_readRest_363 : decode cX1_readRest 363 = .ok (.ldc 142, 2) := by decide +kernel
theorem dX1_readRest_365 : decode cX1_readRest 365 = .ok (.invokevirtual 107, 3) := by decide +kernel
theorem dX1_readRest_368 : decode cX1_readRest 368 = .ok (.ifCond .eq 49, 3) := by decide +kernel
theorem dX1_readRest_371 : decode cX1_readRest 371 = .ok (.aload_n 0, 1) := by decide +kernel
theorem dX1_readRest_372 : decode cX1_readRest 372 = .ok (.iconst 4, 1) := by decide +kernel
theorem dX1_readRest_373 : decode cX1_readRest 373 = .ok (.iconst 0, 1) := by decide +kernel
theorem dX1_readRest_374 : decode cX1_readRest 374 = .ok (.bipush 100, 2) := by decide +kernel
theorem dX1_readRest_376 : decode cX1_readRest 376 = .ok (.invokevirtual 110, 3) := by decide +kernel
theorem dX1_readRest_379 : decode cX1_readRest 379 = .ok (.ifCond .eq 38, 3) := by decide +kernel
theorem dX1_readRest_382 : decode cX1_readRest 382 = .ok (.aload_n 0, 1) := by decide +kernel
theorem dX1_readRest_383 : decode cX1_readRest 383 = .ok (.ldc 144, 2) := by decide +kernel
theorem dX1_readRest_385 : decode cX1_readRest 385 = .ok (.invokevirtual 107, 3) := by decide +kernel
theorem dX1_readRest_388 : decode cX1_readRest 388 = .ok (.ifCond .eq 29, 3) := by decide +kernel
theorem dX1_readRest_391 : decode cX1_readRest 391 = .ok (.aload_n 0, 1) := by decide +kernel
theorem dX1_readRest_392 : decode cX1_readRest 392 = .ok (.iconst 5, 1) := by decide +kernel
theorem dX1_readRest_393 : decode cX1_readRest 393 = .ok (.iconst 1, 1) := by decide +kernel
theorem dX1_readRest_394 : decode cX1_readRest 394 = .ok (.bipush 9, 2) := by decide +kernel
theorem dX1_readRest_396 : decode cX1_readRest 396 = .ok (.invokevirtual 110, 3) := by decide +kernel
theorem dX1_readRest_399 : decode cX1_readRest 399 = .ok (.ifCond .eq 18, 3) := by decide +kernel
theorem dX1_readRest_402 : decode cX1_readRest 402 = .ok (.aload_n 0, 1) := by decide +kernel
theorem dX1_readRest_403 : decode cX1_readRest 403 = .ok (.ldc 146, 2) := by decide +kernel
theorem dX1_readRest_405 : decode cX1_readRest 405 = .ok (.bipush 6, 2) := by decide +kernel
theorem dX1_readRest_407 : decode cX1_readRest 407 = .ok (.invokevirtual 148, 3) := by decide +kernel
theorem dX1_readRest_410 : decode cX1_readRest 410 = .ok (.ifCond .eq 7, 3) := by decide +kernel
theorem dX1_readRest_413 : decode cX1_readRest 413 = .ok (.iconst 1, 1) := by decide +kernel
theorem dX1_readRest_414 : decode cX1_readRest 414 = .ok (.goto 4, 3) := by decide +kernel
theorem dX1_readRest_417 : decode cX1_readRest 417 = .ok (.iconst 0, 1) := by decide +kernel
theorem dX1_readRest_418 : decode cX1_readRest 418 = .ok (.ireturn, 1) := by decide +kernel
theorem dX1_readRest_419 : decode cX1_readRest 419 = .ok (.aload_n 0, 1) := by decide +kernel
theorem dX1_readRest_420 : decode cX1_readRest 420 = .ok (.invokevirtual 116, 3) := by decide +kernel
theorem dX1_readRest_423 : decode cX1_readRest 423 = .ok (.ifCond .eq 98, 3) := by decide +kernel
theorem dX1_readRest_426 : decode cX1_readRest 426 = .ok (.aload_n 0, 1) := by decide +kernel
theorem dX1_readRest_427 : decode cX1_readRest 427 = .ok (.ldc 152, 2) := by decide +kernel
theorem dX1_readRest_429 : decode cX1_readRest 429 = .ok (.invokevirtual 107, 3) := by decide +kernel
theorem dX1_readRest_432 : decode cX1_readRest 432 = .ok (.ifCond .eq 89, 3) := by decide +kernel
theorem dX1_readRest_435 : decode cX1_readRest 435 = .ok (.aload_n 0, 1) := by decide +kernel
theorem dX1_readRest_436 : decode cX1_readRest 436 = .ok (.iconst 0, 1) := by decide +kernel
theorem dX1_readRest_437 : decode cX1_readRest 437 = .ok (.iconst 0, 1) := by decide +kernel
theorem dX1_readRest_438 : decode cX1_readRest 438 = .ok (.invokevirtual 134, 3) := by decide +kernel
theorem dX1_readRest_441 : decode cX1_readRest 441 = .ok (.ifCond .eq 80, 3) := by decide +kernel
theorem dX1_readRest_444 : decode cX1_readRest 444 = .ok (.aload_n 0, 1) := by decide +kernel
theorem dX1_readRest_445 : decode cX1_readRest 445 = .ok (.ldc 154, 2) := by decide +kernel
theorem dX1_readRest_447 : decode cX1_readRest 447 = .ok (.invokevirtual 107, 3) := by decide +kernel
theorem dX1_readRest_450 : decode cX1_readRest 450 = .ok (.ifCond .eq 71, 3) := by decide +kernel
theorem dX1_readRest_453 : decode cX1_readRest 453 = .ok (.aload_n 0, 1) := by decide +kernel
theorem dX1_readRest_454 : decode cX1_readRest 454 = .ok (.iconst 1, 1) := by decide +kernel
theorem dX1_readRest_455 : decode cX1_readRest 455 = .ok (.sipush 500, 3) := by decide +kernel
theorem dX1_readRest_458 : decode cX1_readRest 458 = .ok (.sipush 800, 3) := by decide +kernel
theorem dX1_readRest_461 : decode cX1_readRest 461 = .ok (.invokevirtual 110, 3) := by decide +kernel
theorem dX1_readRest_464 : decode cX1_readRest 464 = .ok (.ifCond .eq 57, 3) := by decide +kernel
theorem dX1_readRest_467 : decode cX1_readRest 467 = .ok (.aload_n 0, 1) := by decide +kernel
theorem dX1_readRest_468 : decode cX1_readRest 468 = .ok (.ldc 156, 2) := by decide +kernel
theorem dX1_readRest_470 : decode cX1_readRest 470 = .ok (.invokevirtual 107, 3) := by decide +kernel
theorem dX1_readRest_473 : decode cX1_readRest 473 = .ok (.ifCond .eq 48, 3) := by decide +kernel
theorem dX1_readRest_476 : decode cX1_readRest 476 = .ok (.aload_n 0, 1) := by decide +kernel
theorem dX1_readRest_477 : decode cX1_readRest 477 = .ok (.iconst 2, 1) := by decide +kernel
theorem dX1_readRest_478 : decode cX1_readRest 478 = .ok (.iconst 1, 1) := by decide +kernel
theorem dX1_readRest_479 : decode cX1_readRest 479 = .ok (.bipush 6, 2) := by decide +kernel
theorem dX1_readRest_481 : decode cX1_readRest 481 = .ok (.invokevirtual 110, 3) := by decide +kernel
theorem dX1_readRest_484 : decode cX1_readRest 484 = .ok (.ifCond .eq 37, 3) := by decide +kernel
theorem dX1_readRest_487 : decode cX1_readRest 487 = .ok (.aload_n 0, 1) := by decide +kernel
theorem dX1_readRest_488 : decode cX1_readRest 488 = .ok (.ldc 158, 2) := by decide +kernel
theorem dX1_readRest_490 : decode cX1_readRest 490 = .ok (.invokevirtual 107, 3) := by decide +kernel
theorem dX1_readRest_493 : decode cX1_readRest 493 = .ok (.ifCond .eq 28, 3) := by decide +kernel
theorem dX1_readRest_496 : decode cX1_readRest 496 = .ok (.aload_n 0, 1) := by decide +kernel
theorem dX1_readRest_497 : decode cX1_readRest 497 = .ok (.iconst 3, 1) := by decide +kernel
theorem dX1_readRest_498 : decode cX1_readRest 498 = .ok (.iconst 0, 1) := by decide +kernel
theorem dX1_readRest_499 : decode cX1_readRest 499 = .ok (.bipush 50, 2) := by decide +kernel
theorem dX1_readRest_501 : decode cX1_readRest 501 = .ok (.invokevirtual 110, 3) := by decide +kernel
theorem dX1_readRest_504 : decode cX1_readRest 504 = .ok (.ifCond .eq 17, 3) := by decide +kernel
theorem dX1_readRest_507 : decode cX1_readRest 507 = .ok (.aload_n 0, 1) := by decide +kernel
theorem dX1_readRest_508 : decode cX1_readRest 508 = .ok (.ldc 160, 2) := by decide +kernel
theorem dX1_readRest_510 : decode cX1_readRest 510 = .ok (.iconst 4, 1) := by decide +kernel
theorem dX1_readRest_511 : decode cX1_readRest 511 = .ok (.invokevirtual 148, 3) := by decide +kernel
theorem dX1_readRest_514 : decode cX1_readRest 514 = .ok (.ifCond .eq 7, 3) := by decide +kernel
theorem dX1_readRest_517 : decode cX1_readRest 517 = .ok (.iconst 1, 1) := by decide +kernel
theorem dX1_readRest_518 : decode cX1_readRest 518 = .ok (.goto 4, 3) := by decide +kernel
theorem dX1_readRest_521 : decode cX1_readRest 521 = .ok (.iconst 0, 1) := by decide +kernel
theorem dX1_readRest_522 : decode cX1_readRest 522 = .ok (.ireturn, 1) := by decide +kernel
theorem dX1_readRest_523 : decode cX1_readRest 523 = .ok (.aload_n 0, 1) := by decide +kernel
theorem dX1_readRest_524 : decode cX1_readRest 524 = .ok (.invokevirtual 116, 3) := by decide +kernel
theorem dX1_readRest_527 : decode cX1_readRest 527 = .ok (.ifCond .eq 47, 3) := by decide +kernel
theorem dX1_readRest_530 : decode cX1_readRest 530 = .ok (.aload_n 0, 1) := by decide +kernel
theorem dX1_readRest_531 : decode cX1_readRest 531 = .ok (.ldc 162, 2) := by decide +kernel
theorem dX1_readRest_533 : decode cX1_readRest 533 = .ok (.invokevirtual 107, 3) := by decide +kernel
theorem dX1_readRest_536 : decode cX1_readRest 536 = .ok (.ifCond .eq 38, 3) := by decide +kernel
theorem dX1_readRest_539 : decode cX1_readRest 539 = .ok (.aload_n 0, 1) := by decide +kernel
theorem dX1_readRest_540 : decode cX1_readRest 540 = .ok (.iconst 0, 1) := by decide +kernel
theorem dX1_readRest_541 : decode cX1_readRest 541 = .ok (.iconst 1, 1) := by decide +kernel
theorem dX1_readRest_542 : decode cX1_readRest 542 = .ok (.bipush 60, 2) := by decide +kernel
theorem dX1_readRest_544 : decode cX1_readRest 544 = .ok (.invokevirtual 110, 3) := by decide +kernel
theorem dX1_readRest_547 : decode cX1_readRest 547 = .ok (.ifCond .eq 27, 3) := by decide +kernel
theorem dX1_readRest_550 : decode cX1_readRest 550 = .ok (.aload_n 0, 1) := by decide +kernel
theorem dX1_readRest_551 : decode cX1_readRest 551 = .ok (.ldc 142, 2) := by decide +kernel
theorem dX1_readRest_553 : decode cX1_readRest 553 = .ok (.invokevirtual 107, 3) := by decide +kernel
theorem dX1_readRest_556 : decode cX1_readRest 556 = .ok (.ifCond .eq 18, 3) := by decide +kernel
theorem dX1_readRest_559 : decode cX1_readRest 559 = .ok (.aload_n 0, 1) := by decide +kernel
theorem dX1_readRest_560 : decode cX1_readRest 560 = .ok (.iconst 1, 1) := by decide +kernel
theorem dX1_readRest_561 : decode cX1_readRest 561 = .ok (.iconst 0, 1) := by decide +kernel
theorem dX1_readRest_562 : decode cX1_readRest 562 = .ok (.bipush 100, 2) := by decide +kernel
theorem dX1_readRest_564 : decode cX1_readRest 564 = .ok (.invokevirtual 110, 3) := by decide +kernel
theorem dX1_readRest_567 : decode cX1_readRest 567 = .ok (.ifCond .eq 7, 3) := by decide +kernel
theorem dX1_readRest_570 : decode cX1_readRest 570 = .ok (.iconst 1, 1) := by decide +kernel
theorem dX1_readRest_571 : decode cX1_readRest 571 = .ok (.goto 4, 3) := by decide +kernel
theorem dX1_readRest_574 : decode cX1_readRest 574 = .ok (.iconst 0, 1) := by decide +kernel
theorem dX1_readRest_575 : decode cX1_readRest 575 = .ok (.ireturn, 1) := by decide +kernel
theorem dX1_readRest_576 : decode cX1_readRest 576 = .ok (.aload_n 0, 1) := by decide +kernel
theorem dX1_readRest_577 : decode cX1_readRest 577 = .ok (.invokevirtual 116, 3) := by decide +kernel
theorem dX1_readRest_580 : decode cX1_readRest 580 = .ok (.ifCond .eq 43, 3) := by decide +kernel
theorem dX1_readRest_583 : decode cX1_readRest 583 = .ok (.aload_n 0, 1) := by decide +kernel
theorem dX1_readRest_584 : decode cX1_readRest 584 = .ok (.ldc 164, 2) := by decide +kernel
theorem dX1_readRest_586 : decode cX1_readRest 586 = .ok (.invokevirtual 107, 3) := by decide +kernel
theorem dX1_readRest_589 : decode cX1_readRest 589 = .ok (.ifCond .eq 34, 3) := by decide +kernel
theorem dX1_readRest_592 : decode cX1_readRest 592 = .ok (.aload_n 0, 1) := by decide +kernel
theorem dX1_readRest_593 : decode cX1_readRest 593 = .ok (.invokevirtual 166, 3) := by decide +kernel
theorem dX1_readRest_596 : decode cX1_readRest 596 = .ok (.ifCond .eq 27, 3) := by decide +kernel
theorem dX1_readRest_599 : decode cX1_readRest 599 = .ok (.aload_n 0, 1) := by decide +kernel
theorem dX1_readRest_600 : decode cX1_readRest 600 = .ok (.ldc 169, 2) := by decide +kernel
theorem dX1_readRest_602 : decode cX1_readRest 602 = .ok (.invokevirtual 107, 3) := by decide +kernel
theorem dX1_readRest_605 : decode cX1_readRest 605 = .ok (.ifCond .eq 18, 3) := by decide +kernel
theorem dX1_readRest_608 : decode cX1_readRest 608 = .ok (.aload_n 0, 1) := by decide +kernel
theorem dX1_readRest_609 : decode cX1_readRest 609 = .ok (.iconst 1, 1) := by decide +kernel
theorem dX1_readRest_610 : decode cX1_readRest 610 = .ok (.iconst 1, 1) := by decide +kernel
theorem dX1_readRest_611 : decode cX1_readRest 611 = .ok (.bipush 7, 2) := by decide +kernel
theorem dX1_readRest_613 : decode cX1_readRest 613 = .ok (.invokevirtual 110, 3) := by decide +kernel
theorem dX1_readRest_616 : decode cX1_readRest 616 = .ok (.ifCond .eq 7, 3) := by decide +kernel
theorem dX1_readRest_619 : decode cX1_readRest 619 = .ok (.iconst 1, 1) := by decide +kernel
theorem dX1_readRest_620 : decode cX1_readRest 620 = .ok (.goto 4, 3) := by decide +kernel
theorem dX1_readRest_623 : decode cX1_readRest 623 = .ok (.iconst 0, 1) := by decide +kernel
theorem dX1_readRest_624 : decode cX1_readRest 624 = .ok (.ireturn, 1) := by decide +kernel
theorem dX1_readRest_625 : decode cX1_readRest 625 = .ok (.aload_n 0, 1) := by decide +kernel
theorem dX1_readRest_626 : decode cX1_readRest 626 = .ok (.iconst 1, 1) := by decide +kernel
theorem dX1_readRest_627 : decode cX1_readRest 627 = .ok (.invokevirtual 66, 3) := by decide +kernel
theorem dX1_readRest_630 : decode cX1_readRest 630 = .ok (.ireturn, 1) := by decide +kernel
theorem dX1_word_0 : decode cX1_word 0 = .ok (.aload_n 0, 1) := by decide +kernel
theorem dX1_word_1 : decode cX1_word 1 = .ok (.getfield 12, 3) := by decide +kernel
theorem dX1_word_4 : decode cX1_word 4 = .ok (.aload_n 1, 1) := by decide +kernel
theorem dX1_word_5 : decode cX1_word 5 = .ok (.invokevirtual 85, 3) := by decide +kernel
theorem dX1_word_8 : decode cX1_word 8 = .ok (.ifCond .ne 9, 3) := by decide +kernel
theorem dX1_word_11 : decode cX1_word 11 = .ok (.aload_n 0, 1) := by decide +kernel
theorem dX1_word_12 : decode cX1_word 12 = .ok (.iconst 1, 1) := by decide +kernel
theorem dX1_word_13 : decode cX1_word 13 = .ok (.invokevirtual 66, 3) := by decide +kernel
theorem dX1_word_16 : decode cX1_word 16 = .ok (.ireturn, 1) := by decide +kernel
theorem dX1_word_17 : decode cX1_word 17 = .ok (.aload_n 0, 1) := by decide +kernel
theorem dX1_word_18 : decode cX1_word 18 = .ok (.getfield 12, 3) := by decide +kernel
theorem dX1_word_21 : decode cX1_word 21 = .ok (.invokevirtual 70, 3) := by decide +kernel
theorem dX1_word_24 : decode cX1_word 24 = .ok (.iconst 1, 1) := by decide +kernel
theorem dX1_word_25 : decode cX1_word 25 = .ok (.ireturn, 1) := by decide +kernel
theorem dX1_perhaps_0 : decode cX1_perhaps 0 = .ok (.aload_n 0, 1) := by decide +kernel
theorem dX1_perhaps_1 : decode cX1_perhaps 1 = .ok (.getfield 12, 3) := by decide +kernel
theorem dX1_perhaps_4 : decode cX1_perhaps 4 = .ok (.aload_n 1, 1) := by decide +kernel
theorem dX1_perhaps_5 : decode cX1_perhaps 5 = .ok (.invokevirtual 85, 3) := by decide +kernel
theorem dX1_perhaps_8 : decode cX1_perhaps 8 = .ok (.ifCond .eq 10, 3) := by decide +kernel
theorem dX1_perhaps_11 : decode cX1_perhaps 11 = .ok (.aload_n 0, 1) := by decide +kernel
theorem dX1_perhaps_12 : decode cX1_perhaps 12 = .ok (.iload_n 2, 1) := by decide +kernel
theorem dX1_perhaps_13 : decode cX1_perhaps 13 = .ok (.iconst 1, 1) := by decide +kernel
theorem dX1_perhaps_14 : decode cX1_perhaps 14 = .ok (.invokevirtual 171, 3) := by decide +kernel
theorem dX1_perhaps_17 : decode cX1_perhaps 17 = .ok (.pop, 1) := by decide +kernel
theorem dX1_perhaps_18 : decode cX1_perhaps 18 = .ok (.iconst 1, 1) := by decide +kernel
theorem dX1_perhaps_19 : decode cX1_perhaps 19 = .ok (.ireturn, 1) := by decide +kernel
theorem dX1_letters_0 : decode cX1_letters 0 = .ok (.aload_n 0, 1) := by decide +kernel
theorem dX1_letters_1 : decode cX1_letters 1 = .ok (.getfield 12, 3) := by decide +kernel
theorem dX1_letters_4 : decode cX1_letters 4 = .ok (.getfield 60, 3) := by decide +kernel
theorem dX1_letters_7 : decode cX1_letters 7 = .ok (.iconst 1, 1) := by decide +kernel
theorem dX1_letters_8 : decode cX1_letters 8 = .ok (.if_icmp .eq 9, 3) := by decide +kernel
theorem dX1_letters_11 : decode cX1_letters 11 = .ok (.aload_n 0, 1) := by decide +kernel
theorem dX1_letters_12 : decode cX1_letters 12 = .ok (.iconst 1, 1) := by decide +kernel
theorem dX1_letters_13 : decode cX1_letters 13 = .ok (.invokevirtual 66, 3) := by decide +kernel
theorem dX1_letters_16 : decode cX1_letters 16 = .ok (.ireturn, 1) := by decide +kernel
theorem dX1_letters_17 : decode cX1_letters 17 = .ok (.aload_n 0, 1) := by decide +kernel
theorem dX1_letters_18 : decode cX1_letters 18 = .ok (.iload_n 1, 1) := by decide +kernel
theorem dX1_letters_19 : decode cX1_letters 19 = .ok (.aload_n 0, 1) := by decide +kernel
theorem dX1_letters_20 : decode cX1_letters 20 = .ok (.getfield 12, 3) := by decide +kernel
theorem dX1_letters_23 : decode cX1_letters 23 = .ok (.getfield 174, 3) := by decide +kernel
theorem dX1_letters_26 : decode cX1_letters 26 = .ok (.invokevirtual 171, 3) := by decide +kernel
theorem dX1_letters_29 : decode cX1_letters 29 = .ok (.ireturn, 1) := by decide +kernel
theorem dX1_whole_0 : decode cX1_whole 0 = .ok (.aload_n 0, 1) := by decide +kernel
theorem dX1_whole_1 : decode cX1_whole 1 = .ok (.getfield 12, 3) := by decide +kernel
theorem dX1_whole_4 : decode cX1_whole 4 = .ok (.getfield 60, 3) := by decide +kernel
theorem dX1_whole_7 : decode cX1_whole 7 = .ok (.iconst 2, 1) := by decide +kernel
theorem dX1_whole_8 : decode cX1_whole 8 = .ok (.if_icmp .eq 9, 3) := by decide +kernel
theorem dX1_whole_11 : decode cX1_whole 11 = .ok (.aload_n 0, 1) := by decide +kernel
theorem dX1_whole_12 : decode cX1_whole 12 = .ok (.iconst 1, 1) := by decide +kernel
theorem dX1_whole_13 : decode cX1_whole 13 = .ok (.invokevirtual 66, 3) := by decide +kernel
theorem dX1_whole_16 : decode cX1_whole 16 = .ok (.ireturn, 1) := by decide +kernel
theorem dX1_whole_17 : decode cX1_whole 17 = .ok (.aload_n 0, 1) := by decide +kernel
theorem dX1_whole_18 : decode cX1_whole 18 = .ok (.getfield 12, 3) := by decide +kernel
theorem dX1_whole_21 : decode cX1_whole 21 = .ok (.getfield 176, 3) := by decide +kernel
theorem dX1_whole_24 : decode cX1_whole 24 = .ok (.iload_n 2, 1) := by decide +kernel
theorem dX1_whole_25 : decode cX1_whole 25 = .ok (.iload_n 3, 1) := by decide +kernel
theorem dX1_whole_26 : decode cX1_whole 26 = .ok (.invokestatic 179, 3) := by decide +kernel
theorem dX1_whole_29 : decode cX1_whole 29 = .ok (.ifCond .ne 9, 3) := by decide +kernel
theorem dX1_whole_32 : decode cX1_whole 32 = .ok (.aload_n 0, 1) := by decide +kernel
theorem dX1_whole_33 : decode cX1_whole 33 = .ok (.iconst 4, 1) := by decide +kernel
theorem dX1_whole_34 : decode cX1_whole 34 = .ok (.invokevirtual 66, 3) := by decide +kernel
theorem dX1_whole_37 : decode cX1_whole 37 = .ok (.ireturn, 1) := by decide +kernel
theorem dX1_whole_38 : decode cX1_whole 38 = .ok (.aload_n 0, 1) := by decide +kernel
theorem dX1_whole_39 : decode cX1_whole 39 = .ok (.iload_n 1, 1) := by decide +kernel
theorem dX1_whole_40 : decode cX1_whole 40 = .ok (.aload_n 0, 1) := by decide +kernel
theorem dX1_whole_41 : decode cX1_whole 41 = .ok (.getfield 12, 3) := by decide +kernel
theorem dX1_whole_44 : decode cX1_whole 44 = .ok (.getfield 176, 3) := by decide +kernel
theorem dX1_whole_47 : decode cX1_whole 47 = .ok (.invokevirtual 171, 3) := by decide +kernel
theorem dX1_whole_50 : decode cX1_whole 50 = .ok (.ireturn, 1) := by decide +kernel
theorem dX1_unlikeDays_0 : decode cX1_unlikeDays 0 = .ok (.iconst 0, 1) := by decide +kernel
theorem dX1_unlikeDays_1 : decode cX1_unlikeDays 1 = .ok (.istore_n 1, 1) := by decide +kernel
theorem dX1_unlikeDays_2 : decode cX1_unlikeDays 2 = .ok (.iconst 0, 1) := by decide +kernel
theorem dX1_unlikeDays_3 : decode cX1_unlikeDays 3 = .ok (.istore_n 2, 1) := by decide +kernel
theorem dX1_unlikeDays_4 : decode cX1_unlikeDays 4 = .ok (.iload_n 2, 1) := by decide +kernel
theorem dX1_unlikeDays_5 : decode cX1_unlikeDays 5 = .ok (.bipush 7, 2) := by decide +kernel
theorem dX1_unlikeDays_7 : decode cX1_unlikeDays 7 = .ok (.if_icmp .gt 103, 3) := by decide +kernel
theorem dX1_unlikeDays_10 : decode cX1_unlikeDays 10 = .ok (.aload_n 0, 1) := by decide +kernel
theorem dX1_unlikeDays_11 : decode cX1_unlikeDays 11 = .ok (.getfield 12, 3) := by decide +kernel
theorem dX1_unlikeDays_14 : decode cX1_unlikeDays 14 = .ok (.getfield 60, 3) := by decide +kernel
theorem dX1_unlikeDays_17 : decode cX1_unlikeDays 17 = .ok (.iconst 2, 1) := by decide +kernel
theorem dX1_unlikeDays_18 : decode cX1_unlikeDays 18 = .ok (.if_icmp .eq 9, 3) := by decide +kernel
theorem dX1_unlikeDays_21 : decode cX1_unlikeDays 21 = .ok (.aload_n 0, 1) := by decide +kernel
theorem dX1_unlikeDays_22 : decode cX1_unlikeDays 22 = .ok (.iconst 1, 1) := by decide +kernel
theorem dX1_unlikeDays_23 : decode cX1_unlikeDays 23 = .ok (.invokevirtual 66, 3) := by decide +kernel
theorem dX1_unlikeDays_26 : decode cX1_unlikeDays 26 = .ok (.ireturn, 1) := by decide +kernel
theorem dX1_unlikeDays_27 : decode cX1_unlikeDays 27 = .ok (.aload_n 0, 1) := by decide +kernel
theorem dX1_unlikeDays_28 : decode cX1_unlikeDays 28 = .ok (.getfield 12, 3) := by decide +kernel
theorem dX1_unlikeDays_31 : decode cX1_unlikeDays 31 = .ok (.getfield 176, 3) := by decide +kernel
theorem dX1_unlikeDays_34 : decode cX1_unlikeDays 34 = .ok (.bipush 7, 2) := by decide +kernel
theorem dX1_unlikeDays_36 : decode cX1_unlikeDays 36 = .ok (.if_icmp .lt 9, 3) := by decide +kernel
theorem dX1_unlikeDays_39 : decode cX1_unlikeDays 39 = .ok (.aload_n 0, 1) := by decide +kernel
theorem dX1_unlikeDays_40 : decode cX1_unlikeDays 40 = .ok (.iconst 4, 1) := by decide +kernel
theorem dX1_unlikeDays_41 : decode cX1_unlikeDays 41 = .ok (.invokevirtual 66, 3) := by decide +kernel
theorem dX1_unlikeDays_44 : decode cX1_unlikeDays 44 = .ok (.ireturn, 1) := by decide +kernel
theorem dX1_unlikeDays_45 : decode cX1_unlikeDays 45 = .ok (.iload_n 1, 1) := by decide +kernel
theorem dX1_unlikeDays_46 : decode cX1_unlikeDays 46 = .ok (.iconst 1, 1) := by decide +kernel
theorem dX1_unlikeDays_47 : decode cX1_unlikeDays 47 = .ok (.aload_n 0, 1) := by decide +kernel
theorem dX1_unlikeDays_48 : decode cX1_unlikeDays 48 = .ok (.getfield 12, 3) := by decide +kernel
theorem dX1_unlikeDays_51 : decode cX1_unlikeDays 51 = .ok (.getfield 176, 3) := by decide +kernel
theorem dX1_unlikeDays_54 : decode cX1_unlikeDays 54 = .ok (.ishl, 1) := by decide +kernel
theorem dX1_unlikeDays_55 : decode cX1_unlikeDays 55 = .ok (.iand, 1) := by decide +kernel
theorem dX1_unlikeDays_56 : decode cX1_unlikeDays 56 = .ok (.ifCond .eq 9, 3) := by decide +kernel
theorem dX1_unlikeDays_59 : decode cX1_unlikeDays 59 = .ok (.aload_n 0, 1) := by decide +kernel
theorem dX1_unlikeDays_60 : decode cX1_unlikeDays 60 = .ok (.iconst 3, 1) := by decide +kernel
theorem dX1_unlikeDays_61 : decode cX1_unlikeDays 61 = .ok (.invokevirtual 66, 3) := by decide +kernel
theorem dX1_unlikeDays_64 : decode cX1_unlikeDays 64 = .ok (.ireturn, 1) := by decide +kernel
theorem dX1_unlikeDays_65 : decode cX1_unlikeDays 65 = .ok (.iload_n 1, 1) := by decide +kernel
theorem dX1_unlikeDays_66 : decode cX1_unlikeDays 66 = .ok (.iconst 1, 1) := by decide +kernel
theorem dX1_unlikeDays_67 : decode cX1_unlikeDays 67 = .ok (.aload_n 0, 1) := by decide +kernel
theorem dX1_unlikeDays_68 : decode cX1_unlikeDays 68 = .ok (.getfield 12, 3) := by decide +kernel
theorem dX1_unlikeDays_71 : decode cX1_unlikeDays 71 = .ok (.getfield 176, 3) := by decide +kernel
theorem dX1_unlikeDays_74 : decode cX1_unlikeDays 74 = .ok (.ishl, 1) := by decide +kernel
theorem dX1_unlikeDays_75 : decode cX1_unlikeDays 75 = .ok (.ior, 1) := by decide +kernel
theorem dX1_unlikeDays_76 : decode cX1_unlikeDays 76 = .ok (.istore_n 1, 1) := by decide +kernel
theorem dX1_unlikeDays_77 : decode cX1_unlikeDays 77 = .ok (.aload_n 0, 1) := by decide +kernel
theorem dX1_unlikeDays_78 : decode cX1_unlikeDays 78 = .ok (.iconst 0, 1) := by decide +kernel
theorem dX1_unlikeDays_79 : decode cX1_unlikeDays 79 = .ok (.iload_n 1, 1) := by decide +kernel
theorem dX1_unlikeDays_80 : decode cX1_unlikeDays 80 = .ok (.invokevirtual 171, 3) := by decide +kernel
theorem dX1_unlikeDays_83 : decode cX1_unlikeDays 83 = .ok (.pop, 1) := by decide +kernel
theorem dX1_unlikeDays_84 : decode cX1_unlikeDays 84 = .ok (.aload_n 0, 1) := by decide +kernel
theorem dX1_unlikeDays_85 : decode cX1_unlikeDays 85 = .ok (.getfield 12, 3) := by decide +kernel
theorem dX1_unlikeDays_88 : decode cX1_unlikeDays 88 = .ok (.getfield 60, 3) := by decide +kernel
theorem dX1_unlikeDays_91 : decode cX1_unlikeDays 91 = .ok (.iconst 4, 1) := by decide +kernel
theorem dX1_unlikeDays_92 : decode cX1_unlikeDays 92 = .ok (.if_icmp .eq 5, 3) := by decide +kernel
theorem dX1_unlikeDays_95 : decode cX1_unlikeDays 95 = .ok (.iconst 1, 1) := by decide +kernel
theorem dX1_unlikeDays_96 : decode cX1_unlikeDays 96 = .ok (.ireturn, 1) := by decide +kernel
theorem dX1_unlikeDays_97 : decode cX1_unlikeDays 97 = .ok (.aload_n 0, 1) := by decide +kernel
theorem dX1_unlikeDays_98 : decode cX1_unlikeDays 98 = .ok (.getfield 12, 3) := by decide +kernel
theorem dX1_unlikeDays_101 : decode cX1_unlikeDays 101 = .ok (.invokevirtual 70, 3) := by decide +kernel
theorem dX1_unlikeDays_104 : decode cX1_unlikeDays 104 = .ok (.iinc 2 1, 3) := by decide +kernel
theorem dX1_unlikeDays_107 : decode cX1_unlikeDays 107 = .ok (.goto (-103), 3) := by decide +kernel
theorem dX1_unlikeDays_110 : decode cX1_unlikeDays 110 = .ok (.aload_n 0, 1) := by decide +kernel
theorem dX1_unlikeDays_111 : decode cX1_unlikeDays 111 = .ok (.iconst 1, 1) := by decide +kernel
theorem dX1_unlikeDays_112 : decode cX1_unlikeDays 112 = .ok (.invokevirtual 66, 3) := by decide +kernel
theorem dX1_unlikeDays_115 : decode cX1_unlikeDays 115 = .ok (.ireturn, 1) := by decide +kernel
theorem dX1_newName_0 : decode cX1_newName 0 = .ok (.aload_n 0, 1) := by decide +kernel
theorem dX1_newName_1 : decode cX1_newName 1 = .ok (.invokevirtual 182, 3) := by decide +kernel
theorem dX1_newName_4 : decode cX1_newName 4 = .ok (.ifCond .ne 9, 3) := by decide +kernel
theorem dX1_newName_7 : decode cX1_newName 7 = .ok (.aload_n 0, 1) := by decide +kernel
theorem dX1_newName_8 : decode cX1_newName 8 = .ok (.iconst 1, 1) := by decide +kernel
theorem dX1_newName_9 : decode cX1_newName 9 = .ok (.invokevirtual 66, 3) := by decide +kernel
theorem dX1_newName_12 : decode cX1_newName 12 = .ok (.ireturn, 1) := by decide +kernel
theorem dX1_newName_13 : decode cX1_newName 13 = .ok (.aload_n 0, 1) := by decide +kernel
theorem dX1_newName_14 : decode cX1_newName 14 = .ok (.invokevirtual 185, 3) := by decide +kernel
theorem dX1_newName_17 : decode cX1_newName 17 = .ok (.iconst (-1), 1) := by decide +kernel
theorem dX1_newName_18 : decode cX1_newName 18 = .ok (.if_icmp .eq 9, 3) := by decide +kernel
theorem dX1_newName_21 : decode cX1_newName 21 = .ok (.aload_n 0, 1) := by decide +kernel
theorem dX1_newName_22 : decode cX1_newName 22 = .ok (.iconst 3, 1) := by decide +kernel
theorem dX1_newName_23 : decode cX1_newName 23 = .ok (.invokevirtual 66, 3) := by decide +kernel
theorem dX1_newName_26 : decode cX1_newName 26 = .ok (.ireturn, 1) := by decide +kernel
theorem dX1_newName_27 : decode cX1_newName 27 = .ok (.aload_n 0, 1) := by decide +kernel
theorem dX1_newName_28 : decode cX1_newName 28 = .ok (.getfield 39, 3) := by decide +kernel
theorem dX1_newName_31 : decode cX1_newName 31 = .ok (.bipush 32, 2) := by decide +kernel
theorem dX1_newName_33 : decode cX1_newName 33 = .ok (.if_icmp .ge 64, 3) := by decide +kernel
theorem dX1_newName_36 : decode cX1_newName 36 = .ok (.aload_n 0, 1) := by decide +kernel
theorem dX1_newName_37 : decode cX1_newName 37 = .ok (.getfield 18, 3) := by decide +kernel
theorem dX1_newName_40 : decode cX1_newName 40 = .ok (.aload_n 0, 1) := by decide +kernel
theorem dX1_newName_41 : decode cX1_newName 41 = .ok (.getfield 39, 3) := by decide +kernel
theorem dX1_newName_44 : decode cX1_newName 44 = .ok (.aload_n 0, 1) := by decide +kernel
theorem dX1_newName_45 : decode cX1_newName 45 = .ok (.getfield 12, 3) := by decide +kernel
theorem dX1_newName_48 : decode cX1_newName 48 = .ok (.getfield 188, 3) := by decide +kernel
theorem dX1_newName_51 : decode cX1_newName 51 = .ok (.lastore, 1) := by decide +kernel
theorem dX1_newName_52 : decode cX1_newName 52 = .ok (.aload_n 0, 1) := by decide +kernel
theorem dX1_newName_53 : decode cX1_newName 53 = .ok (.getfield 22, 3) := by decide +kernel
theorem dX1_newName_56 : decode cX1_newName 56 = .ok (.aload_n 0, 1) := by decide +kernel
theorem dX1_newName_57 : decode cX1_newName 57 = .ok (.getfield 39, 3) := by decide +kernel
theorem dX1_newName_60 : decode cX1_newName 60 = .ok (.aload_n 0, 1) := by decide +kernel
theorem dX1_newName_61 : decode cX1_newName 61 = .ok (.getfield 77, 3) := by decide +kernel
theorem dX1_newName_64 : decode cX1_newName 64 = .ok (.iastore, 1) := by decide +kernel
theorem dX1_newName_65 : decode cX1_newName 65 = .ok (.aload_n 0, 1) := by decide +kernel
theorem dX1_newName_66 : decode cX1_newName 66 = .ok (.getfield 26, 3) := by decide +kernel
theorem dX1_newName_69 : decode cX1_newName 69 = .ok (.aload_n 0, 1) := by decide +kernel
theorem dX1_newName_70 : decode cX1_newName 70 = .ok (.getfield 39, 3) := by decide +kernel
theorem dX1_newName_73 : decode cX1_newName 73 = .ok (.aload_n 0, 1) := by decide +kernel
theorem dX1_newName_74 : decode cX1_newName 74 = .ok (.getfield 32, 3) := by decide +kernel
theorem dX1_newName_77 : decode cX1_newName 77 = .ok (.aload_n 0, 1) := by decide +kernel
theorem dX1_newName_78 : decode cX1_newName 78 = .ok (.getfield 77, 3) := by decide +kernel
theorem dX1_newName_81 : decode cX1_newName 81 = .ok (.invokevirtual 192, 3) := by decide +kernel
theorem dX1_newName_84 : decode cX1_newName 84 = .ok (.iconst 1, 1) := by decide +kernel
theorem dX1_newName_85 : decode cX1_newName 85 = .ok (.isub, 1) := by decide +kernel
theorem dX1_newName_86 : decode cX1_newName 86 = .ok (.iastore, 1) := by decide +kernel
theorem dX1_newName_87 : decode cX1_newName 87 = .ok (.aload_n 0, 1) := by decide +kernel
theorem dX1_newName_88 : decode cX1_newName 88 = .ok (.dup, 1) := by decide +kernel
theorem dX1_newName_89 : decode cX1_newName 89 = .ok (.getfield 39, 3) := by decide +kernel
theorem dX1_newName_92 : decode cX1_newName 92 = .ok (.iconst 1, 1) := by decide +kernel
theorem dX1_newName_93 : decode cX1_newName 93 = .ok (.iadd, 1) := by decide +kernel
theorem dX1_newName_94 : decode cX1_newName 94 = .ok (.putfield 39, 3) := by decide +kernel
theorem dX1_newName_97 : decode cX1_newName 97 = .ok (.aload_n 0, 1) := by decide +kernel
theorem dX1_newName_98 : decode cX1_newName 98 = .ok (.getfield 12, 3) := by decide +kernel
theorem dX1_newName_101 : decode cX1_newName 101 = .ok (.invokevirtual 70, 3) := by decide +kernel
theorem dX1_newName_104 : decode cX1_newName 104 = .ok (.iconst 1, 1) := by decide +kernel
theorem dX1_newName_105 : decode cX1_newName 105 = .ok (.ireturn, 1) := by decide +kernel
theorem dX1_toldName_0 : decode cX1_toldName 0 = .ok (.aload_n 0, 1) := by decide +kernel
theorem dX1_toldName_1 : decode cX1_toldName 1 = .ok (.invokevirtual 182, 3) := by decide +kernel
theorem dX1_toldName_4 : decode cX1_toldName 4 = .ok (.ifCond .ne 9, 3) := by decide +kernel
theorem dX1_toldName_7 : decode cX1_toldName 7 = .ok (.aload_n 0, 1) := by decide +kernel
theorem dX1_toldName_8 : decode cX1_toldName 8 = .ok (.iconst 1, 1) := by decide +kernel
theorem dX1_toldName_9 : decode cX1_toldName 9 = .ok (.invokevirtual 66, 3) := by decide +kernel
theorem dX1_toldName_12 : decode cX1_toldName 12 = .ok (.ireturn, 1) := by decide +kernel
theorem dX1_toldName_13 : decode cX1_toldName 13 = .ok (.aload_n 0, 1) := by decide +kernel
theorem dX1_toldName_14 : decode cX1_toldName 14 = .ok (.invokevirtual 185, 3) := by decide +kernel
theorem dX1_toldName_17 : decode cX1_toldName 17 = .ok (.istore_n 3, 1) := by decide +kernel
theorem dX1_toldName_18 : decode cX1_toldName 18 = .ok (.iload_n 3, 1) := by decide +kernel
theorem dX1_toldName_19 : decode cX1_toldName 19 = .ok (.iconst (-1), 1) := by decide +kernel
theorem dX1_toldName_20 : decode cX1_toldName 20 = .ok (.if_icmp .eq 13, 3) := by decide +kernel
theorem dX1_toldName_23 : decode cX1_toldName 23 = .ok (.aload_n 0, 1) := by decide +kernel
theorem dX1_toldName_24 : decode cX1_toldName 24 = .ok (.getfield 22, 3) := by decide +kernel
theorem dX1_toldName_27 : decode cX1_toldName 27 = .ok (.iload_n 3, 1) := by decide +kernel
theorem dX1_toldName_28 : decode cX1_toldName 28 = .ok (.iaload, 1) := by decide +kernel
theorem dX1_toldName_29 : decode cX1_toldName 29 = .ok (.iload_n 1, 1) := by decide +kernel
theorem dX1_toldName_30 : decode cX1_toldName 30 = .ok (.if_icmp .eq 9, 3) := by decide +kernel
theorem dX1_toldName_33 : decode cX1_toldName 33 = .ok (.aload_n 0, 1) := by decide +kernel
theorem dX1_toldName_34 : decode cX1_toldName 34 = .ok (.iconst 2, 1) := by decide +kernel
theorem dX1_toldName_35 : decode cX1_toldName 35 = .ok (.invokevirtual 66, 3) := by decide +kernel
theorem dX1_toldName_38 : decode cX1_toldName 38 = .ok (.ireturn, 1) := by decide +kernel
theorem dX1_toldName_39 : decode cX1_toldName 39 = .ok (.aload_n 0, 1) := by decide +kernel
theorem dX1_toldName_40 : decode cX1_toldName 40 = .ok (.iload_n 2, 1) := by decide +kernel
theorem dX1_toldName_41 : decode cX1_toldName 41 = .ok (.aload_n 0, 1) := by decide +kernel
theorem dX1_toldName_42 : decode cX1_toldName 42 = .ok (.getfield 26, 3) := by decide +kernel
theorem dX1_toldName_45 : decode cX1_toldName 45 = .ok (.iload_n 3, 1) := by decide +kernel
theorem dX1_toldName_46 : decode cX1_toldName 46 = .ok (.iaload, 1) := by decide +kernel
theorem dX1_toldName_47 : decode cX1_toldName 47 = .ok (.invokevirtual 171, 3) := by decide +kernel
theorem dX1_toldName_50 : decode cX1_toldName 50 = .ok (.ireturn, 1) := by decide +kernel
theorem dX1_take_0 : decode cX1_take 0 = .ok (.aload_n 0, 1) := by decide +kernel
theorem dX1_take_1 : decode cX1_take 1 = .ok (.getfield 32, 3) := by decide +kernel
theorem dX1_take_4 : decode cX1_take 4 = .ok (.aload_n 0, 1) := by decide +kernel
theorem dX1_take_5 : decode cX1_take 5 = .ok (.getfield 77, 3) := by decide +kernel
theorem dX1_take_8 : decode cX1_take 8 = .ok (.iload_n 1, 1) := by decide +kernel
theorem dX1_take_9 : decode cX1_take 9 = .ok (.iload_n 2, 1) := by decide +kernel
theorem dX1_take_10 : decode cX1_take 10 = .ok (.invokevirtual 196, 3) := by decide +kernel
theorem dX1_take_13 : decode cX1_take 13 = .ok (.aload_n 0, 1) := by decide +kernel
theorem dX1_take_14 : decode cX1_take 14 = .ok (.getfield 12, 3) := by decide +kernel
theorem dX1_take_17 : decode cX1_take 17 = .ok (.invokevirtual 70, 3) := by decide +kernel
theorem dX1_take_20 : decode cX1_take 20 = .ok (.iconst 1, 1) := by decide +kernel
theorem dX1_take_21 : decode cX1_take 21 = .ok (.ireturn, 1) := by decide +kernel
theorem dX1_findName_0 : decode cX1_findName 0 = .ok (.iconst 0, 1) := by decide +kernel
theorem dX1_findName_1 : decode cX1_findName 1 = .ok (.istore_n 1, 1) := by decide +kernel
theorem dX1_findName_2 : decode cX1_findName 2 = .ok (.iload_n 1, 1) := by decide +kernel
theorem dX1_findName_3 : decode cX1_findName 3 = .ok (.aload_n 0, 1) := by decide +kernel
theorem dX1_findName_4 : decode cX1_findName 4 = .ok (.getfield 39, 3) := by decide +kernel
theorem dX1_findName_7 : decode cX1_findName 7 = .ok (.if_icmp .ge 28, 3) := by decide +kernel
theorem dX1_findName_10 : decode cX1_findName 10 = .ok (.aload_n 0, 1) := by decide +kernel
theorem dX1_findName_11 : decode cX1_findName 11 = .ok (.getfield 18, 3) := by decide +kernel
theorem dX1_findName_14 : decode cX1_findName 14 = .ok (.iload_n 1, 1) := by decide +kernel
theorem dX1_findName_15 : decode cX1_findName 15 = .ok (.laload, 1) := by decide +kernel
theorem dX1_findName_16 : decode cX1_findName 16 = .ok (.aload_n 0, 1) := by decide +kernel
theorem dX1_findName_17 : decode cX1_findName 17 = .ok (.getfield 12, 3) := by decide +kernel
theorem dX1_findName_20 : decode cX1_findName 20 = .ok (.getfield 188, 3) := by decide +kernel
theorem dX1_findName_23 : decode cX1_findName 23 = .ok (.lcmp, 1) := by decide +kernel
theorem dX1_findName_24 : decode cX1_findName 24 = .ok (.ifCond .ne 5, 3) := by decide +kernel
theorem dX1_findName_27 : decode cX1_findName 27 = .ok (.iload_n 1, 1) := by decide +kernel
theorem dX1_findName_28 : decode cX1_findName 28 = .ok (.ireturn, 1) := by decide +kernel
theorem dX1_findName_29 : decode cX1_findName 29 = .ok (.iinc 1 1, 3) := by decide +kernel
theorem dX1_findName_32 : decode cX1_findName 32 = .ok (.goto (-30), 3) := by decide +kernel
theorem dX1_findName_35 : decode cX1_findName 35 = .ok (.iconst (-1), 1) := by decide +kernel
theorem dX1_findName_36 : decode cX1_findName 36 = .ok (.ireturn, 1) := by decide +kernel
theorem dX1_isName_0 : decode cX1_isName 0 = .ok (.aload_n 0, 1) := by decide +kernel
theorem dX1_isName_1 : decode cX1_isName 1 = .ok (.getfield 12, 3) := by decide +kernel
theorem dX1_isName_4 : decode cX1_isName 4 = .ok (.getfield 60, 3) := by decide +kernel
theorem dX1_isName_7 : decode cX1_isName 7 = .ok (.iconst 1, 1) := by decide +kernel
theorem dX1_isName_8 : decode cX1_isName 8 = .ok (.if_icmp .ne 39, 3) := by decide +kernel
theorem dX1_isName_11 : decode cX1_isName 11 = .ok (.aload_n 0, 1) := by decide +kernel
theorem dX1_isName_12 : decode cX1_isName 12 = .ok (.invokevirtual 73, 3) := by decide +kernel
theorem dX1_isName_15 : decode cX1_isName 15 = .ok (.iconst (-1), 1) := by decide +kernel
theorem dX1_isName_16 : decode cX1_isName 16 = .ok (.if_icmp .ne 31, 3) := by decide +kernel
theorem dX1_isName_19 : decode cX1_isName 19 = .ok (.aload_n 0, 1) := by decide +kernel
theorem dX1_isName_20 : decode cX1_isName 20 = .ok (.getfield 12, 3) := by decide +kernel
theorem dX1_isName_23 : decode cX1_isName 23 = .ok (.ldc 146, 2) := by decide +kernel
theorem dX1_isName_25 : decode cX1_isName 25 = .ok (.invokevirtual 85, 3) := by decide +kernel
theorem dX1_isName_28 : decode cX1_isName 28 = .ok (.ifCond .ne 19, 3) := by decide +kernel
theorem dX1_isName_31 : decode cX1_isName 31 = .ok (.aload_n 0, 1) := by decide +kernel
theorem dX1_isName_32 : decode cX1_isName 32 = .ok (.getfield 12, 3) := by decide +kernel
theorem dX1_isName_35 : decode cX1_isName 35 = .ok (.ldc 160, 2) := by decide +kernel
theorem dX1_isName_37 : decode cX1_isName 37 = .ok (.invokevirtual 85, 3) := by decide +kernel
theorem dX1_isName_40 : decode cX1_isName 40 = .ok (.ifCond .ne 7, 3) := by decide +kernel
theorem dX1_isName_43 : decode cX1_isName 43 = .ok (.iconst 1, 1) := by decide +kernel
theorem dX1_isName_44 : decode cX1_isName 44 = .ok (.goto 4, 3) := by decide +kernel
theorem dX1_isName_47 : decode cX1_isName 47 = .ok (.iconst 0, 1) := by decide +kernel
theorem dX1_isName_48 : decode cX1_isName 48 = .ok (.ireturn, 1) := by decide +kernel
theorem dX1_lacksNothing_0 : decode cX1_lacksNothing 0 = .ok (.aload_n 0, 1) := by decide +kernel
theorem dX1_lacksNothing_1 : decode cX1_lacksNothing 1 = .ok (.getfield 32, 3) := by decide +kernel
theorem dX1_lacksNothing_4 : decode cX1_lacksNothing 4 = .ok (.bipush 8, 2) := by decide +kernel
theorem dX1_lacksNothing_6 : decode cX1_lacksNothing 6 = .ok (.invokevirtual 192, 3) := by decide +kernel
theorem dX1_lacksNothing_9 : decode cX1_lacksNothing 9 = .ok (.ifCond .eq 25, 3) := by decide +kernel
theorem dX1_lacksNothing_12 : decode cX1_lacksNothing 12 = .ok (.aload_n 0, 1) := by decide +kernel
theorem dX1_lacksNothing_13 : decode cX1_lacksNothing 13 = .ok (.getfield 32, 3) := by decide +kernel
theorem dX1_lacksNothing_16 : decode cX1_lacksNothing 16 = .ok (.iconst 3, 1) := by decide +kernel
theorem dX1_lacksNothing_17 : decode cX1_lacksNothing 17 = .ok (.invokevirtual 192, 3) := by decide +kernel
theorem dX1_lacksNothing_20 : decode cX1_lacksNothing 20 = .ok (.ifCond .eq 14, 3) := by decide +kernel
theorem dX1_lacksNothing_23 : decode cX1_lacksNothing 23 = .ok (.aload_n 0, 1) := by decide +kernel
theorem dX1_lacksNothing_24 : decode cX1_lacksNothing 24 = .ok (.getfield 32, 3) := by decide +kernel
theorem dX1_lacksNothing_27 : decode cX1_lacksNothing 27 = .ok (.iconst 4, 1) := by decide +kernel
theorem dX1_lacksNothing_28 : decode cX1_lacksNothing 28 = .ok (.invokevirtual 192, 3) := by decide +kernel
theorem dX1_lacksNothing_31 : decode cX1_lacksNothing 31 = .ok (.ifCond .ne 7, 3) := by decide +kernel
theorem dX1_lacksNothing_34 : decode cX1_lacksNothing 34 = .ok (.iconst 1, 1) := by decide +kernel
theorem dX1_lacksNothing_35 : decode cX1_lacksNothing 35 = .ok (.goto 4, 3) := by decide +kernel
theorem dX1_lacksNothing_38 : decode cX1_lacksNothing 38 = .ok (.iconst 0, 1) := by decide +kernel
theorem dX1_lacksNothing_39 : decode cX1_lacksNothing 39 = .ok (.istore_n 1, 1) := by decide +kernel
theorem dX1_lacksNothing_40 : decode cX1_lacksNothing 40 = .ok (.iload_n 1, 1) := by decide +kernel
theorem dX1_lacksNothing_41 : decode cX1_lacksNothing 41 = .ok (.ifCond .eq 12, 3) := by decide +kernel
theorem dX1_lacksNothing_44 : decode cX1_lacksNothing 44 = .ok (.aload_n 0, 1) := by decide +kernel
theorem dX1_lacksNothing_45 : decode cX1_lacksNothing 45 = .ok (.bipush 6, 2) := by decide +kernel
theorem dX1_lacksNothing_47 : decode cX1_lacksNothing 47 = .ok (.invokevirtual 66, 3) := by decide +kernel
theorem dX1_lacksNothing_50 : decode cX1_lacksNothing 50 = .ok (.ifCond .eq 7, 3) := by decide +kernel
theorem dX1_lacksNothing_53 : decode cX1_lacksNothing 53 = .ok (.iconst 1, 1) := by decide +kernel
theorem dX1_lacksNothing_54 : decode cX1_lacksNothing 54 = .ok (.goto 4, 3) := by decide +kernel
theorem dX1_lacksNothing_57 : decode cX1_lacksNothing 57 = .ok (.iconst 0, 1) := by decide +kernel
theorem dX1_lacksNothing_58 : decode cX1_lacksNothing 58 = .ok (.ireturn, 1) := by decide +kernel
theorem dX1_fail_0 : decode cX1_fail 0 = .ok (.aload_n 0, 1) := by decide +kernel
theorem dX1_fail_1 : decode cX1_fail 1 = .ok (.iload_n 1, 1) := by decide +kernel
theorem dX1_fail_2 : decode cX1_fail 2 = .ok (.putfield 43, 3) := by decide +kernel
theorem dX1_fail_5 : decode cX1_fail 5 = .ok (.aload_n 0, 1) := by decide +kernel
theorem dX1_fail_6 : decode cX1_fail 6 = .ok (.aload_n 0, 1) := by decide +kernel
theorem dX1_fail_7 : decode cX1_fail 7 = .ok (.getfield 12, 3) := by decide +kernel
theorem dX1_fail_10 : decode cX1_fail 10 = .ok (.getfield 200, 3) := by decide +kernel
theorem dX1_fail_13 : decode cX1_fail 13 = .ok (.putfield 46, 3) := by decide +kernel
theorem dX1_fail_16 : decode cX1_fail 16 = .ok (.iconst 0, 1) := by decide +kernel
theorem dX1_fail_17 : decode cX1_fail 17 = .ok (.ireturn, 1) := by decide +kernel
theorem dX2_init_0 : decode cX2_init 0 = .ok (.aload_n 0, 1) := by decide +kernel
theorem dX2_init_1 : decode cX2_init 1 = .ok (.invokespecial 3, 3) := by decide +kernel
theorem dX2_init_4 : decode cX2_init 4 = .ok (.aload_n 0, 1) := by decide +kernel
theorem dX2_init_5 : decode cX2_init 5 = .ok (.iconst 5, 1) := by decide +kernel
theorem dX2_init_6 : decode cX2_init 6 = .ok (.newarray .int, 2) := by decide +kernel
theorem dX2_init_8 : decode cX2_init 8 = .ok (.putfield 9, 3) := by decide +kernel
theorem dX2_init_11 : decode cX2_init 11 = .ok (.aload_n 0, 1) := by decide +kernel
theorem dX2_init_12 : decode cX2_init 12 = .ok (.iconst 5, 1) := by decide +kernel
theorem dX2_init_13 : decode cX2_init 13 = .ok (.newarray .int, 2) := by decide +kernel
theorem dX2_init_15 : decode cX2_init 15 = .ok (.putfield 15, 3) := by decide +kernel
theorem dX2_init_18 : decode cX2_init 18 = .ok (.return_, 1) := by decide +kernel
theorem dX2_forget_0 : decode cX2_forget 0 = .ok (.aload_n 0, 1) := by decide +kernel
theorem dX2_forget_1 : decode cX2_forget 1 = .ok (.iconst 0, 1) := by decide +kernel
theorem dX2_forget_2 : decode cX2_forget 2 = .ok (.putfield 18, 3) := by decide +kernel
theorem dX2_forget_5 : decode cX2_forget 5 = .ok (.return_, 1) := by decide +kernel
theorem dX2_callOf_0 : decode cX2_callOf 0 = .ok (.iload_n 1, 1) := by decide +kernel
theorem dX2_callOf_1 : decode cX2_callOf 1 = .ok (.ifCond .lt 20, 3) := by decide +kernel
theorem dX2_callOf_4 : decode cX2_callOf 4 = .ok (.iload_n 1, 1) := by decide +kernel
theorem dX2_callOf_5 : decode cX2_callOf 5 = .ok (.aload_n 0, 1) := by decide +kernel
theorem dX2_callOf_6 : decode cX2_callOf 6 = .ok (.getfield 18, 3) := by decide +kernel
theorem dX2_callOf_9 : decode cX2_callOf 9 = .ok (.if_icmp .ge 12, 3) := by decide +kernel
theorem dX2_callOf_12 : decode cX2_callOf 12 = .ok (.aload_n 0, 1) := by decide +kernel
theorem dX2_callOf_13 : decode cX2_callOf 13 = .ok (.getfield 15, 3) := by decide +kernel
theorem dX2_callOf_16 : decode cX2_callOf 16 = .ok (.iload_n 1, 1) := by decide +kernel
theorem dX2_callOf_17 : decode cX2_callOf 17 = .ok (.iaload, 1) := by decide +kernel
theorem dX2_callOf_18 : decode cX2_callOf 18 = .ok (.goto 4, 3) := by decide +kernel
theorem dX2_callOf_21 : decode cX2_callOf 21 = .ok (.iconst (-1), 1) := by decide +kernel
theorem dX2_callOf_22 : decode cX2_callOf 22 = .ok (.ireturn, 1) := by decide +kernel
theorem dX2_search_0 : decode cX2_search 0 = .ok (.aload_n 0, 1) := by decide +kernel
theorem dX2_search_1 : decode cX2_search 1 = .ok (.ldc2_w 22, 3) := by decide +kernel
theorem dX2_search_4 : decode cX2_search 4 = .ok (.putfield 24, 3) := by decide +kernel
theorem dX2_search_7 : decode cX2_search 7 = .ok (.aload_n 0, 1) := by decide +kernel
theorem dX2_search_8 : decode cX2_search 8 = .ok (.aload_n 1, 1) := by decide +kernel
theorem dX2_search_9 : decode cX2_search 9 = .ok (.iconst 0, 1) := by decide +kernel
theorem dX2_search_10 : decode cX2_search 10 = .ok (.iconst 0, 1) := by decide +kernel
theorem dX2_search_11 : decode cX2_search 11 = .ok (.invokestatic 28, 3) := by decide +kernel
theorem dX2_search_14 : decode cX2_search 14 = .ok (.aload_n 0, 1) := by decide +kernel
theorem dX2_search_15 : decode cX2_search 15 = .ok (.aload_n 1, 1) := by decide +kernel
theorem dX2_search_16 : decode cX2_search 16 = .ok (.invokestatic 32, 3) := by decide +kernel
theorem dX2_search_19 : decode cX2_search 19 = .ok (.putfield 18, 3) := by decide +kernel
theorem dX2_search_22 : decode cX2_search 22 = .ok (.aload_n 0, 1) := by decide +kernel
theorem dX2_search_23 : decode cX2_search 23 = .ok (.getfield 24, 3) := by decide +kernel
theorem dX2_search_26 : decode cX2_search 26 = .ok (.lreturn, 1) := by decide +kernel
theorem dX2_expectedAsTold_0 : decode cX2_expectedAsTold 0 = .ok (.iconst 0, 1) := by decide +kernel
theorem dX2_expectedAsTold_1 : decode cX2_expectedAsTold 1 = .ok (.istore_n 2, 1) := by decide +kernel
theorem dX2_expectedAsTold_2 : decode cX2_expectedAsTold 2 = .ok (.iload_n 2, 1) := by decide +kernel
theorem dX2_expectedAsTold_3 : decode cX2_expectedAsTold 3 = .ok (.iconst 5, 1) := by decide +kernel
theorem dX2_expectedAsTold_4 : decode cX2_expectedAsTold 4 = .ok (.if_icmp .ge 16, 3) := by decide +kernel
theorem dX2_expectedAsTold_7 : decode cX2_expectedAsTold 7 = .ok (.aload_n 0, 1) := by decide +kernel
theorem dX2_expectedAsTold_8 : decode cX2_expectedAsTold 8 = .ok (.getfield 9, 3) := by decide +kernel
theorem dX2_expectedAsTold_11 : decode cX2_expectedAsTold 11 = .ok (.iload_n 2, 1) := by decide +kernel
theorem dX2_expectedAsTold_12 : decode cX2_expectedAsTold 12 = .ok (.iload_n 2, 1) := by decide +kernel
theorem dX2_expectedAsTold_13 : decode cX2_expectedAsTold 13 = .ok (.iastore, 1) := by decide +kernel
theorem dX2_expectedAsTold_14 : decode cX2_expectedAsTold 14 = .ok (.iinc 2 1, 3) := by decide +kernel
theorem dX2_expectedAsTold_17 : decode cX2_expectedAsTold 17 = .ok (.goto (-15), 3) := by decide +kernel
theorem dX2_expectedAsTold_20 : decode cX2_expectedAsTold 20 = .ok (.aload_n 0, 1) := by decide +kernel
theorem dX2_expectedAsTold_21 : decode cX2_expectedAsTold 21 = .ok (.aload_n 1, 1) := by decide +kernel
theorem dX2_expectedAsTold_22 : decode cX2_expectedAsTold 22 = .ok (.invokevirtual 36, 3) := by decide +kernel
theorem dX2_expectedAsTold_25 : decode cX2_expectedAsTold 25 = .ok (.lreturn, 1) := by decide +kernel
theorem dX2_extend_0 : decode cX2_extend 0 = .ok (.iload_n 2, 1) := by decide +kernel
theorem dX2_extend_1 : decode cX2_extend 1 = .ok (.aload_n 1, 1) := by decide +kernel
theorem dX2_extend_2 : decode cX2_extend 2 = .ok (.invokestatic 32, 3) := by decide +kernel
theorem dX2_extend_5 : decode cX2_extend 5 = .ok (.if_icmp .lt 9, 3) := by decide +kernel
theorem dX2_extend_8 : decode cX2_extend 8 = .ok (.aload_n 0, 1) := by decide +kernel
theorem dX2_extend_9 : decode cX2_extend 9 = .ok (.aload_n 1, 1) := by decide +kernel
theorem dX2_extend_10 : decode cX2_extend 10 = .ok (.invokevirtual 40, 3) := by decide +kernel
theorem dX2_extend_13 : decode cX2_extend 13 = .ok (.return_, 1) := by decide +kernel
theorem dX2_extend_14 : decode cX2_extend 14 = .ok (.iconst 0, 1) := by decide +kernel
theorem dX2_extend_15 : decode cX2_extend 15 = .ok (.istore 4, 2) := by decide +kernel
theorem dX2_extend_17 : decode cX2_extend 17 = .ok (.iload 4, 2) := by decide +kernel
theorem dX2_extend_19 : decode cX2_extend 19 = .ok (.aload_n 1, 1) := by decide +kernel
theorem dX2_extend_20 : decode cX2_extend 20 = .ok (.invokestatic 32, 3) := by decide +kernel
theorem dX2_extend_23 : decode cX2_extend 23 = .ok (.if_icmp .ge 40, 3) := by decide +kernel
theorem dX2_extend_26 : decode cX2_extend 26 = .ok (.iload_n 3, 1) := by decide +kernel
theorem dX2_extend_27 : decode cX2_extend 27 = .ok (.iconst 1, 1) := by decide +kernel
theorem dX2_extend_28 : decode cX2_extend 28 = .ok (.iload 4, 2) := by decide +kernel
theorem dX2_extend_30 : decode cX2_extend 30 = .ok (.ishl, 1) := by decide +kernel
theorem dX2_extend_31 : decode cX2_extend 31 = .ok (.iand, 1) := by decide +kernel
theorem dX2_extend_32 : decode cX2_extend 32 = .ok (.ifCond .ne 25, 3) := by decide +kernel
theorem dX2_extend_35 : decode cX2_extend 35 = .ok (.aload_n 0, 1) := by decide +kernel
theorem dX2_extend_36 : decode cX2_extend 36 = .ok (.getfield 9, 3) := by decide +kernel
theorem dX2_extend_39 : decode cX2_extend 39 = .ok (.iload_n 2, 1) := by decide +kernel
theorem dX2_extend_40 : decode cX2_extend 40 = .ok (.iload 4, 2) := by decide +kernel
theorem dX2_extend_42 : decode cX2_extend 42 = .ok (.iastore, 1) := by decide +kernel
theorem dX2_extend_43 : decode cX2_extend 43 = .ok (.aload_n 0, 1) := by decide +kernel
theorem dX2_extend_44 : decode cX2_extend 44 = .ok (.aload_n 1, 1) := by decide +kernel
theorem dX2_extend_45 : decode cX2_extend 45 = .ok (.iload_n 2, 1) := by decide +kernel
theorem dX2_extend_46 : decode cX2_extend 46 = .ok (.iconst 1, 1) := by decide +kernel
theorem dX2_extend_47 : decode cX2_extend 47 = .ok (.iadd, 1) := by decide +kernel
theorem dX2_extend_48 : decode cX2_extend 48 = .ok (.iload_n 3, 1) := by decide +kernel
theorem dX2_extend_49 : decode cX2_extend 49 = .ok (.iconst 1, 1) := by decide +kernel
theorem dX2_extend_50 : decode cX2_extend 50 = .ok (.iload 4, 2) := by decide +kernel
theorem dX2_extend_52 : decode cX2_extend 52 = .ok (.ishl, 1) := by decide +kernel
theorem dX2_extend_53 : decode cX2_extend 53 = .ok (.ior, 1) := by decide +kernel
theorem dX2_extend_54 : decode cX2_extend 54 = .ok (.invokestatic 28, 3) := by decide +kernel
theorem dX2_extend_57 : decode cX2_extend 57 = .ok (.iinc 4 1, 3) := by decide +kernel
theorem dX2_extend_60 : decode cX2_extend 60 = .ok (.goto (-43), 3) := by decide +kernel
theorem dX2_extend_63 : decode cX2_extend 63 = .ok (.return_, 1) := by decide +kernel
theorem dX2_note_0 : decode cX2_note 0 = .ok (.aload_n 0, 1) := by decide +kernel
theorem dX2_note_1 : decode cX2_note 1 = .ok (.aload_n 1, 1) := by decide +kernel
theorem dX2_note_2 : decode cX2_note 2 = .ok (.invokevirtual 36, 3) := by decide +kernel
theorem dX2_note_5 : decode cX2_note 5 = .ok (.lstore_n 2, 1) := by decide +kernel
theorem dX2_note_6 : decode cX2_note 6 = .ok (.lload_n 2, 1) := by decide +kernel
theorem dX2_note_7 : decode cX2_note 7 = .ok (.aload_n 0, 1) := by decide +kernel
theorem dX2_note_8 : decode cX2_note 8 = .ok (.getfield 24, 3) := by decide +kernel
theorem dX2_note_11 : decode cX2_note 11 = .ok (.lcmp, 1) := by decide +kernel
theorem dX2_note_12 : decode cX2_note 12 = .ok (.ifCond .ge 22, 3) := by decide +kernel
theorem dX2_note_15 : decode cX2_note 15 = .ok (.aload_n 0, 1) := by decide +kernel
theorem dX2_note_16 : decode cX2_note 16 = .ok (.lload_n 2, 1) := by decide +kernel
theorem dX2_note_17 : decode cX2_note 17 = .ok (.putfield 24, 3) := by decide +kernel
theorem dX2_note_20 : decode cX2_note 20 = .ok (.aload_n 0, 1) := by decide +kernel
theorem dX2_note_21 : decode cX2_note 21 = .ok (.getfield 9, 3) := by decide +kernel
theorem dX2_note_24 : decode cX2_note 24 = .ok (.iconst 0, 1) := by decide +kernel
theorem dX2_note_25 : decode cX2_note 25 = .ok (.aload_n 0, 1) := by decide +kernel
theorem dX2_note_26 : decode cX2_note 26 = .ok (.getfield 15, 3) := by decide +kernel
theorem dX2_note_29 : decode cX2_note 29 = .ok (.iconst 0, 1) := by decide +kernel
theorem dX2_note_30 : decode cX2_note 30 = .ok (.iconst 5, 1) := by decide +kernel
theorem dX2_note_31 : decode cX2_note 31 = .ok (.invokestatic 44, 3) := by decide +kernel
theorem dX2_note_34 : decode cX2_note 34 = .ok (.return_, 1) := by decide +kernel
theorem dX2_expected_0 : decode cX2_expected 0 = .ok (.lconst 0, 1) := by decide +kernel
theorem dX2_expected_1 : decode cX2_expected 1 = .ok (.lstore_n 2, 1) := by decide +kernel
theorem dX2_expected_2 : decode cX2_expected 2 = .ok (.lconst 1, 1) := by decide +kernel
theorem dX2_expected_3 : decode cX2_expected 3 = .ok (.lstore 4, 2) := by decide +kernel
theorem dX2_expected_5 : decode cX2_expected 5 = .ok (.aload_n 1, 1) := by decide +kernel
theorem dX2_expected_6 : decode cX2_expected 6 = .ok (.invokestatic 32, 3) := by decide +kernel
theorem dX2_expected_9 : decode cX2_expected 9 = .ok (.iconst 1, 1) := by decide +kernel
theorem dX2_expected_10 : decode cX2_expected 10 = .ok (.isub, 1) := by decide +kernel
theorem dX2_expected_11 : decode cX2_expected 11 = .ok (.istore 6, 2) := by decide +kernel
theorem dX2_expected_13 : decode cX2_expected 13 = .ok (.iload 6, 2) := by decide +kernel
theorem dX2_expected_15 : decode cX2_expected 15 = .ok (.ifCond .lt 61, 3) := by decide +kernel
theorem dX2_expected_18 : decode cX2_expected 18 = .ok (.lload 4, 2) := by decide +kernel
theorem dX2_expected_20 : decode cX2_expected 20 = .ok (.ldc2_w 50, 3) := by decide +kernel
theorem dX2_expected_23 : decode cX2_expected 23 = .ok (.lmul, 1) := by decide +kernel
theorem dX2_expected_24 : decode cX2_expected 24 = .ok (.lstore 4, 2) := by decide +kernel
theorem dX2_expected_26 : decode cX2_expected 26 = .ok (.bipush 100, 2) := by decide +kernel
theorem dX2_expected_28 : decode cX2_expected 28 = .ok (.aload_n 1, 1) := by decide +kernel
theorem dX2_expected_29 : decode cX2_expected 29 = .ok (.bipush 6, 2) := by decide +kernel
theorem dX2_expected_31 : decode cX2_expected 31 = .ok (.aload_n 0, 1) := by decide +kernel
theorem dX2_expected_32 : decode cX2_expected 32 = .ok (.getfield 9, 3) := by decide +kernel
theorem dX2_expected_35 : decode cX2_expected 35 = .ok (.iload 6, 2) := by decide +kernel
theorem dX2_expected_37 : decode cX2_expected 37 = .ok (.iaload, 1) := by decide +kernel
theorem dX2_expected_38 : decode cX2_expected 38 = .ok (.iconst 1, 1) := by decide +kernel
theorem dX2_expected_39 : decode cX2_expected 39 = .ok (.invokevirtual 52, 3) := by decide +kernel
theorem dX2_expected_42 : decode cX2_expected 42 = .ok (.isub, 1) := by decide +kernel
theorem dX2_expected_43 : decode cX2_expected 43 = .ok (.i2l, 1) := by decide +kernel
theorem dX2_expected_44 : decode cX2_expected 44 = .ok (.lstore 7, 2) := by decide +kernel
theorem dX2_expected_46 : decode cX2_expected 46 = .ok (.aload_n 1, 1) := by decide +kernel
theorem dX2_expected_47 : decode cX2_expected 47 = .ok (.bipush 6, 2) := by decide +kernel
theorem dX2_expected_49 : decode cX2_expected 49 = .ok (.aload_n 0, 1) := by decide +kernel
theorem dX2_expected_50 : decode cX2_expected 50 = .ok (.getfield 9, 3) := by decide +kernel
theorem dX2_expected_53 : decode cX2_expected 53 = .ok (.iload 6, 2) := by decide +kernel
theorem dX2_expected_55 : decode cX2_expected 55 = .ok (.iaload, 1) := by decide +kernel
theorem dX2_expected_56 : decode cX2_expected 56 = .ok (.iconst 0, 1) := by decide +kernel
theorem dX2_expected_57 : decode cX2_expected 57 = .ok (.invokevirtual 52, 3) := by decide +kernel
theorem dX2_expected_60 : decode cX2_expected 60 = .ok (.i2l, 1) := by decide +kernel
theorem dX2_expected_61 : decode cX2_expected 61 = .ok (.lload 4, 2) := by decide +kernel
theorem dX2_expected_63 : decode cX2_expected 63 = .ok (.lmul, 1) := by decide +kernel
theorem dX2_expected_64 : decode cX2_expected 64 = .ok (.lload 7, 2) := by decide +kernel
theorem dX2_expected_66 : decode cX2_expected 66 = .ok (.lload_n 2, 1) := by decide +kernel
theorem dX2_expected_67 : decode cX2_expected 67 = .ok (.lmul, 1) := by decide +kernel
theorem dX2_expected_68 : decode cX2_expected 68 = .ok (.ladd, 1) := by decide +kernel
theorem dX2_expected_69 : decode cX2_expected 69 = .ok (.lstore_n 2, 1) := by decide +kernel
theorem dX2_expected_70 : decode cX2_expected 70 = .ok (.iinc 6 (-1), 3) := by decide +kernel
theorem dX2_expected_73 : decode cX2_expected 73 = .ok (.goto (-60), 3) := by decide +kernel
theorem dX2_expected_76 : decode cX2_expected 76 = .ok (.lload_n 2, 1) := by decide +kernel
theorem dX2_expected_77 : decode cX2_expected 77 = .ok (.lreturn, 1) := by decide +kernel
theorem dX2_callCount_0 : decode cX2_callCount 0 = .ok (.iconst 5, 1) := by decide +kernel
theorem dX2_callCount_1 : decode cX2_callCount 1 = .ok (.aload_n 0, 1) := by decide +kernel
theorem dX2_callCount_2 : decode cX2_callCount 2 = .ok (.bipush 6, 2) := by decide +kernel
theorem dX2_callCount_4 : decode cX2_callCount 4 = .ok (.invokevirtual 58, 3) := by decide +kernel
theorem dX2_callCount_7 : decode cX2_callCount 7 = .ok (.invokestatic 62, 3) := by decide +kernel
theorem dX2_callCount_10 : decode cX2_callCount 10 = .ok (.ireturn, 1) := by decide +kernel
theorem dX3_init_0 : decode cX3_init 0 = .ok (.aload_n 0, 1) := by decide +kernel
theorem dX3_init_1 : decode cX3_init 1 = .ok (.invokespecial 3, 3) := by decide +kernel
theorem dX3_init_4 : decode cX3_init 4 = .ok (.aload_n 0, 1) := by decide +kernel
theorem dX3_init_5 : decode cX3_init 5 = .ok (.bipush 15, 2) := by decide +kernel
theorem dX3_init_7 : decode cX3_init 7 = .ok (.bipush 6, 2) := by decide +kernel
theorem dX3_init_9 : decode cX3_init 9 = .ok (.multianewarray 9 2, 4) := by decide +kernel
theorem dX3_init_13 : decode cX3_init 13 = .ok (.putfield 11, 3) := by decide +kernel
theorem dX3_init_16 : decode cX3_init 16 = .ok (.aload_n 0, 1) := by decide +kernel
theorem dX3_init_17 : decode cX3_init 17 = .ok (.bipush 14, 2) := by decide +kernel
theorem dX3_init_19 : decode cX3_init 19 = .ok (.newarray .int, 2) := by decide +kernel
theorem dX3_init_21 : decode cX3_init 21 = .ok (.putfield 16, 3) := by decide +kernel
theorem dX3_init_24 : decode cX3_init 24 = .ok (.aload_n 0, 1) := by decide +kernel
theorem dX3_init_25 : decode cX3_init 25 = .ok (.bipush 6, 2) := by decide +kernel
theorem dX3_init_27 : decode cX3_init 27 = .ok (.newarray .int, 2) := by decide +kernel
theorem dX3_init_29 : decode cX3_init 29 = .ok (.putfield 20, 3) := by decide +kernel
theorem dX3_init_32 : decode cX3_init 32 = .ok (.return_, 1) := by decide +kernel
theorem dX3_forget_0 : decode cX3_forget 0 = .ok (.aload_n 0, 1) := by decide +kernel
theorem dX3_forget_1 : decode cX3_forget 1 = .ok (.iconst 0, 1) := by decide +kernel
theorem dX3_forget_2 : decode cX3_forget 2 = .ok (.putfield 23, 3) := by decide +kernel
theorem dX3_forget_5 : decode cX3_forget 5 = .ok (.return_, 1) := by decide +kernel
theorem dX3_dishOn_0 : decode cX3_dishOn 0 = .ok (.iload_n 1, 1) := by decide +kernel
theorem dX3_dishOn_1 : decode cX3_dishOn 1 = .ok (.ifCond .lt 20, 3) := by decide +kernel
theorem dX3_dishOn_4 : decode cX3_dishOn 4 = .ok (.iload_n 1, 1) := by decide +kernel
theorem dX3_dishOn_5 : decode cX3_dishOn 5 = .ok (.aload_n 0, 1) := by decide +kernel
theorem dX3_dishOn_6 : decode cX3_dishOn 6 = .ok (.getfield 23, 3) := by decide +kernel
theorem dX3_dishOn_9 : decode cX3_dishOn 9 = .ok (.if_icmp .ge 12, 3) := by decide +kernel
theorem dX3_dishOn_12 : decode cX3_dishOn 12 = .ok (.aload_n 0, 1) := by decide +kernel
theorem dX3_dishOn_13 : decode cX3_dishOn 13 = .ok (.getfield 16, 3) := by decide +kernel
theorem dX3_dishOn_16 : decode cX3_dishOn 16 = .ok (.iload_n 1, 1) := by decide +kernel
theorem dX3_dishOn_17 : decode cX3_dishOn 17 = .ok (.iaload, 1) := by decide +kernel
theorem dX3_dishOn_18 : decode cX3_dishOn 18 = .ok (.goto 4, 3) := by decide +kernel
theorem dX3_dishOn_21 : decode cX3_dishOn 21 = .ok (.iconst (-1), 1) := by decide +kernel
theorem dX3_dishOn_22 : decode cX3_dishOn 22 = .ok (.ireturn, 1) := by decide +kernel
theorem dX3_cheapest_0 : decode cX3_cheapest 0 = .ok (.iload_n 3, 1) := by decide +kernel
theorem dX3_cheapest_1 : decode cX3_cheapest 1 = .ok (.bipush 14, 2) := by decide +kernel
theorem dX3_cheapest_3 : decode cX3_cheapest 3 = .ok (.invokestatic 27, 3) := by decide +kernel
theorem dX3_cheapest_6 : decode cX3_cheapest 6 = .ok (.istore 4, 2) := by decide +kernel
theorem dX3_cheapest_8 : decode cX3_cheapest 8 = .ok (.iconst 1, 1) := by decide +kernel
theorem dX3_cheapest_9 : decode cX3_cheapest 9 = .ok (.istore 5, 2) := by decide +kernel
theorem dX3_cheapest_11 : decode cX3_cheapest 11 = .ok (.iload 5, 2) := by decide +kernel
theorem dX3_cheapest_13 : decode cX3_cheapest 13 = .ok (.iload 4, 2) := by decide +kernel
theorem dX3_cheapest_15 : decode cX3_cheapest 15 = .ok (.if_icmp .gt 45, 3) := by decide +kernel
theorem dX3_cheapest_18 : decode cX3_cheapest 18 = .ok (.iconst 0, 1) := by decide +kernel
theorem dX3_cheapest_19 : decode cX3_cheapest 19 = .ok (.istore 6, 2) := by decide +kernel
theorem dX3_cheapest_21 : decode cX3_cheapest 21 = .ok (.iload 6, 2) := by decide +kernel
theorem dX3_cheapest_23 : decode cX3_cheapest 23 = .ok (.bipush 6, 2) := by decide +kernel
theorem dX3_cheapest_25 : decode cX3_cheapest 25 = .ok (.if_icmp .ge 29, 3) := by decide +kernel
theorem dX3_cheapest_28 : decode cX3_cheapest 28 = .ok (.aload_n 0, 1) := by decide +kernel
theorem dX3_cheapest_29 : decode cX3_cheapest 29 = .ok (.getfield 11, 3) := by decide +kernel
theorem dX3_cheapest_32 : decode cX3_cheapest 32 = .ok (.iload 5, 2) := by decide +kernel
theorem dX3_cheapest_34 : decode cX3_cheapest 34 = .ok (.aaload, 1) := by decide +kernel
theorem dX3_cheapest_35 : decode cX3_cheapest 35 = .ok (.iload 6, 2) := by decide +kernel
theorem dX3_cheapest_37 : decode cX3_cheapest 37 = .ok (.aload_n 0, 1) := by decide +kernel
theorem dX3_cheapest_38 : decode cX3_cheapest 38 = .ok (.aload_n 1, 1) := by decide +kernel
theorem dX3_cheapest_39 : decode cX3_cheapest 39 = .ok (.iload_n 2, 1) := by decide +kernel
theorem dX3_cheapest_40 : decode cX3_cheapest 40 = .ok (.iload 5, 2) := by decide +kernel
theorem dX3_cheapest_42 : decode cX3_cheapest 42 = .ok (.iload 6, 2) := by decide +kernel
theorem dX3_cheapest_44 : decode cX3_cheapest 44 = .ok (.invokevirtual 33, 3) := by decide +kernel
theorem dX3_cheapest_47 : decode cX3_cheapest 47 = .ok (.iastore, 1) := by decide +kernel
theorem dX3_cheapest_48 : decode cX3_cheapest 48 = .ok (.iinc 6 1, 3) := by decide +kernel
theorem dX3_cheapest_51 : decode cX3_cheapest 51 = .ok (.goto (-30), 3) := by decide +kernel
theorem dX3_cheapest_54 : decode cX3_cheapest 54 = .ok (.iinc 5 1, 3) := by decide +kernel
theorem dX3_cheapest_57 : decode cX3_cheapest 57 = .ok (.goto (-46), 3) := by decide +kernel
theorem dX3_cheapest_60 : decode cX3_cheapest 60 = .ok (.iload 4, 2) := by decide +kernel
theorem dX3_cheapest_62 : decode cX3_cheapest 62 = .ok (.iconst 1, 1) := by decide +kernel
theorem dX3_cheapest_63 : decode cX3_cheapest 63 = .ok (.if_icmp .ge 8, 3) := by decide +kernel
theorem dX3_cheapest_66 : decode cX3_cheapest 66 = .ok (.ldc 37, 2) := by decide +kernel
theorem dX3_cheapest_68 : decode cX3_cheapest 68 = .ok (.goto 10, 3) := by decide +kernel
theorem dX3_cheapest_71 : decode cX3_cheapest 71 = .ok (.aload_n 0, 1) := by decide +kernel
theorem dX3_cheapest_72 : decode cX3_cheapest 72 = .ok (.iload 4, 2) := by decide +kernel
theorem dX3_cheapest_74 : decode cX3_cheapest 74 = .ok (.iconst (-1), 1) := by decide +kernel
theorem dX3_cheapest_75 : decode cX3_cheapest 75 = .ok (.invokevirtual 38, 3) := by decide +kernel
theorem dX3_cheapest_78 : decode cX3_cheapest 78 = .ok (.ireturn, 1) := by decide +kernel
theorem dX3_coinFrom_0 : decode cX3_coinFrom 0 = .ok (.aload_n 1, 1) := by decide +kernel
theorem dX3_coinFrom_1 : decode cX3_coinFrom 1 = .ok (.iconst 1, 1) := by decide +kernel
theorem dX3_coinFrom_2 : decode cX3_coinFrom 2 = .ok (.iload 4, 2) := by decide +kernel
theorem dX3_coinFrom_4 : decode cX3_coinFrom 4 = .ok (.invokevirtual 41, 3) := by decide +kernel
theorem dX3_coinFrom_7 : decode cX3_coinFrom 7 = .ok (.ifCond .eq 13, 3) := by decide +kernel
theorem dX3_coinFrom_10 : decode cX3_coinFrom 10 = .ok (.aload_n 1, 1) := by decide +kernel
theorem dX3_coinFrom_11 : decode cX3_coinFrom 11 = .ok (.iload_n 2, 1) := by decide +kernel
theorem dX3_coinFrom_12 : decode cX3_coinFrom 12 = .ok (.iload 4, 2) := by decide +kernel
theorem dX3_coinFrom_14 : decode cX3_coinFrom 14 = .ok (.invokevirtual 47, 3) := by decide +kernel
theorem dX3_coinFrom_17 : decode cX3_coinFrom 17 = .ok (.ifCond .eq 6, 3) := by decide +kernel
theorem dX3_coinFrom_20 : decode cX3_coinFrom 20 = .ok (.ldc 37, 2) := by decide +kernel
theorem dX3_coinFrom_22 : decode cX3_coinFrom 22 = .ok (.ireturn, 1) := by decide +kernel
theorem dX3_coinFrom_23 : decode cX3_coinFrom 23 = .ok (.iload_n 3, 1) := by decide +kernel
theorem dX3_coinFrom_24 : decode cX3_coinFrom 24 = .ok (.iconst 1, 1) := by decide +kernel
theorem dX3_coinFrom_25 : decode cX3_coinFrom 25 = .ok (.if_icmp .ne 7, 3) := by decide +kernel
theorem dX3_coinFrom_28 : decode cX3_coinFrom 28 = .ok (.iconst 0, 1) := by decide +kernel
theorem dX3_coinFrom_29 : decode cX3_coinFrom 29 = .ok (.goto 12, 3) := by decide +kernel
theorem dX3_coinFrom_32 : decode cX3_coinFrom 32 = .ok (.aload_n 0, 1) := by decide +kernel
theorem dX3_coinFrom_33 : decode cX3_coinFrom 33 = .ok (.iload_n 3, 1) := by decide +kernel
theorem dX3_coinFrom_34 : decode cX3_coinFrom 34 = .ok (.iconst 1, 1) := by decide +kernel
theorem dX3_coinFrom_35 : decode cX3_coinFrom 35 = .ok (.isub, 1) := by decide +kernel
theorem dX3_coinFrom_36 : decode cX3_coinFrom 36 = .ok (.iload 4, 2) := by decide +kernel
theorem dX3_coinFrom_38 : decode cX3_coinFrom 38 = .ok (.invokevirtual 38, 3) := by decide +kernel
theorem dX3_coinFrom_41 : decode cX3_coinFrom 41 = .ok (.istore 5, 2) := by decide +kernel
theorem dX3_coinFrom_43 : decode cX3_coinFrom 43 = .ok (.iload 5, 2) := by decide +kernel
theorem dX3_coinFrom_45 : decode cX3_coinFrom 45 = .ok (.ldc 37, 2) := by decide +kernel
theorem dX3_coinFrom_47 : decode cX3_coinFrom 47 = .ok (.if_icmp .ne 8, 3) := by decide +kernel
theorem dX3_coinFrom_50 : decode cX3_coinFrom 50 = .ok (.ldc 37, 2) := by decide +kernel
theorem dX3_coinFrom_52 : decode cX3_coinFrom 52 = .ok (.goto 14, 3) := by decide +kernel
theorem dX3_coinFrom_55 : decode cX3_coinFrom 55 = .ok (.iload 5, 2) := by decide +kernel
theorem dX3_coinFrom_57 : decode cX3_coinFrom 57 = .ok (.aload_n 1, 1) := by decide +kernel
theorem dX3_coinFrom_58 : decode cX3_coinFrom 58 = .ok (.iconst 1, 1) := by decide +kernel
theorem dX3_coinFrom_59 : decode cX3_coinFrom 59 = .ok (.iload 4, 2) := by decide +kernel
theorem dX3_coinFrom_61 : decode cX3_coinFrom 61 = .ok (.iconst 1, 1) := by decide +kernel
theorem dX3_coinFrom_62 : decode cX3_coinFrom 62 = .ok (.invokevirtual 50, 3) := by decide +kernel
theorem dX3_coinFrom_65 : decode cX3_coinFrom 65 = .ok (.iadd, 1) := by decide +kernel
theorem dX3_coinFrom_66 : decode cX3_coinFrom 66 = .ok (.ireturn, 1) := by decide +kernel
theorem dX3_leastBut_0 : decode cX3_leastBut 0 = .ok (.ldc 37, 2) := by decide +kernel
theorem dX3_leastBut_2 : decode cX3_leastBut 2 = .ok (.istore_n 3, 1) := by decide +kernel
theorem dX3_leastBut_3 : decode cX3_leastBut 3 = .ok (.iconst 0, 1) := by decide +kernel
theorem dX3_leastBut_4 : decode cX3_leastBut 4 = .ok (.istore 4, 2) := by decide +kernel
theorem dX3_leastBut_6 : decode cX3_leastBut 6 = .ok (.iload 4, 2) := by decide +kernel
theorem dX3_leastBut_8 : decode cX3_leastBut 8 = .ok (.bipush 6, 2) := by decide +kernel
theorem dX3_leastBut_10 : decode cX3_leastBut 10 = .ok (.if_icmp .ge 29, 3) := by decide +kernel
theorem dX3_leastBut_13 : decode cX3_leastBut 13 = .ok (.iload 4, 2) := by decide +kernel
theorem dX3_leastBut_15 : decode cX3_leastBut 15 = .ok (.iload_n 2, 1) := by decide +kernel
theorem dX3_leastBut_16 : decode cX3_leastBut 16 = .ok (.if_icmp .eq 17, 3) := by decide +kernel
theorem dX3_leastBut_19 : decode cX3_leastBut 19 = .ok (.iload_n 3, 1) := by decide +kernel
theorem dX3_leastBut_20 : decode cX3_leastBut 20 = .ok (.aload_n 0, 1) := by decide +kernel
theorem dX3_leastBut_21 : decode cX3_leastBut 21 = .ok (.getfield 11, 3) := by decide +kernel
theorem dX3_leastBut_24 : decode cX3_leastBut 24 = .ok (.iload_n 1, 1) := by decide +kernel
theorem dX3_leastBut_25 : decode cX3_leastBut 25 = .ok (.aaload, 1) := by decide +kernel
theorem dX3_leastBut_26 : decode cX3_leastBut 26 = .ok (.iload 4, 2) := by decide +kernel
theorem dX3_leastBut_28 : decode cX3_leastBut 28 = .ok (.iaload, 1) := by decide +kernel
theorem dX3_leastBut_29 : decode cX3_leastBut 29 = .ok (.invokestatic 27, 3) := by decide +kernel
theorem dX3_leastBut_32 : decode cX3_leastBut 32 = .ok (.istore_n 3, 1) := by decide +kernel
theorem dX3_leastBut_33 : decode cX3_leastBut 33 = .ok (.iinc 4 1, 3) := by decide +kernel
theorem dX3_leastBut_36 : decode cX3_leastBut 36 = .ok (.goto (-30), 3) := by decide +kernel
theorem dX3_leastBut_39 : decode cX3_leastBut 39 = .ok (.iload_n 3, 1) := by decide +kernel
theorem dX3_leastBut_40 : decode cX3_leastBut 40 = .ok (.ireturn, 1) := by decide +kernel
theorem dX3_tell_0 : decode cX3_tell 0 = .ok (.aload_n 0, 1) := by decide +kernel
theorem dX3_tell_1 : decode cX3_tell 1 = .ok (.iload_n 1, 1) := by decide +kernel
theorem dX3_tell_2 : decode cX3_tell 2 = .ok (.bipush 14, 2) := by decide +kernel
theorem dX3_tell_4 : decode cX3_tell 4 = .ok (.invokestatic 27, 3) := by decide +kernel
theorem dX3_tell_7 : decode cX3_tell 7 = .ok (.putfield 23, 3) := by decide +kernel
theorem dX3_tell_10 : decode cX3_tell 10 = .ok (.iconst (-1), 1) := by decide +kernel
theorem dX3_tell_11 : decode cX3_tell 11 = .ok (.istore_n 2, 1) := by decide +kernel
theorem dX3_tell_12 : decode cX3_tell 12 = .ok (.iconst 0, 1) := by decide +kernel
theorem dX3_tell_13 : decode cX3_tell 13 = .ok (.istore_n 3, 1) := by decide +kernel
theorem dX3_tell_14 : decode cX3_tell 14 = .ok (.iload_n 3, 1) := by decide +kernel
theorem dX3_tell_15 : decode cX3_tell 15 = .ok (.aload_n 0, 1) := by decide +kernel
theorem dX3_tell_16 : decode cX3_tell 16 = .ok (.getfield 23, 3) := by decide +kernel
theorem dX3_tell_19 : decode cX3_tell 19 = .ok (.if_icmp .ge 28, 3) := by decide +kernel
theorem dX3_tell_22 : decode cX3_tell 22 = .ok (.aload_n 0, 1) := by decide +kernel
theorem dX3_tell_23 : decode cX3_tell 23 = .ok (.aload_n 0, 1) := by decide +kernel
theorem dX3_tell_24 : decode cX3_tell 24 = .ok (.getfield 23, 3) := by decide +kernel
theorem dX3_tell_27 : decode cX3_tell 27 = .ok (.iload_n 3, 1) := by decide +kernel
theorem dX3_tell_28 : decode cX3_tell 28 = .ok (.isub, 1) := by decide +kernel
theorem dX3_tell_29 : decode cX3_tell 29 = .ok (.iload_n 2, 1) := by decide +kernel
theorem dX3_tell_30 : decode cX3_tell 30 = .ok (.invokevirtual 54, 3) := by decide +kernel
theorem dX3_tell_33 : decode cX3_tell 33 = .ok (.istore_n 2, 1) := by decide +kernel
theorem dX3_tell_34 : decode cX3_tell 34 = .ok (.aload_n 0, 1) := by decide +kernel
theorem dX3_tell_35 : decode cX3_tell 35 = .ok (.getfield 16, 3) := by decide +kernel
theorem dX3_tell_38 : decode cX3_tell 38 = .ok (.iload_n 3, 1) := by decide +kernel
theorem dX3_tell_39 : decode cX3_tell 39 = .ok (.iload_n 2, 1) := by decide +kernel
theorem dX3_tell_40 : decode cX3_tell 40 = .ok (.iastore, 1) := by decide +kernel
theorem dX3_tell_41 : decode cX3_tell 41 = .ok (.iinc 3 1, 3) := by decide +kernel
theorem dX3_tell_44 : decode cX3_tell 44 = .ok (.goto (-30), 3) := by decide +kernel
theorem dX3_tell_47 : decode cX3_tell 47 = .ok (.return_, 1) := by decide +kernel
theorem dX3_firstCheapest_0 : decode cX3_firstCheapest 0 = .ok (.aload_n 0, 1) := by decide +kernel
theorem dX3_firstCheapest_1 : decode cX3_firstCheapest 1 = .ok (.iload_n 1, 1) := by decide +kernel
theorem dX3_firstCheapest_2 : decode cX3_firstCheapest 2 = .ok (.iload_n 2, 1) := by decide +kernel
theorem dX3_firstCheapest_3 : decode cX3_firstCheapest 3 = .ok (.invokevirtual 38, 3) := by decide +kernel
theorem dX3_firstCheapest_6 : decode cX3_firstCheapest 6 = .ok (.istore_n 3, 1) := by decide +kernel
theorem dX3_firstCheapest_7 : decode cX3_firstCheapest 7 = .ok (.iconst 0, 1) := by decide +kernel
theorem dX3_firstCheapest_8 : decode cX3_firstCheapest 8 = .ok (.istore 4, 2) := by decide +kernel
theorem dX3_firstCheapest_10 : decode cX3_firstCheapest 10 = .ok (.iload 4, 2) := by decide +kernel
theorem dX3_firstCheapest_12 : decode cX3_firstCheapest 12 = .ok (.bipush 6, 2) := by decide +kernel
theorem dX3_firstCheapest_14 : decode cX3_firstCheapest 14 = .ok (.if_icmp .ge 31, 3) := by decide +kernel
theorem dX3_firstCheapest_17 : decode cX3_firstCheapest 17 = .ok (.iload 4, 2) := by decide +kernel
theorem dX3_firstCheapest_19 : decode cX3_firstCheapest 19 = .ok (.iload_n 2, 1) := by decide +kernel
theorem dX3_firstCheapest_20 : decode cX3_firstCheapest 20 = .ok (.if_icmp .eq 19, 3) := by decide +kernel
theorem dX3_firstCheapest_23 : decode cX3_firstCheapest 23 = .ok (.aload_n 0, 1) := by decide +kernel
theorem dX3_firstCheapest_24 : decode cX3_firstCheapest 24 = .ok (.getfield 11, 3) := by decide +kernel
theorem dX3_firstCheapest_27 : decode cX3_firstCheapest 27 = .ok (.iload_n 1, 1) := by decide +kernel
theorem dX3_firstCheapest_28 : decode cX3_firstCheapest 28 = .ok (.aaload, 1) := by decide +kernel
theorem dX3_firstCheapest_29 : decode cX3_firstCheapest 29 = .ok (.iload 4, 2) := by decide +kernel
theorem dX3_firstCheapest_31 : decode cX3_firstCheapest 31 = .ok (.iaload, 1) := by decide +kernel
theorem dX3_firstCheapest_32 : decode cX3_firstCheapest 32 = .ok (.iload_n 3, 1) := by decide +kernel
theorem dX3_firstCheapest_33 : decode cX3_firstCheapest 33 = .ok (.if_icmp .ne 6, 3) := by decide +kernel
theorem dX3_firstCheapest_36 : decode cX3_firstCheapest 36 = .ok (.iload 4, 2) := by decide +kernel
theorem dX3_firstCheapest_38 : decode cX3_firstCheapest 38 = .ok (.ireturn, 1) := by decide +kernel
theorem dX3_firstCheapest_39 : decode cX3_firstCheapest 39 = .ok (.iinc 4 1, 3) := by decide +kernel
theorem dX3_firstCheapest_42 : decode cX3_firstCheapest 42 = .ok (.goto (-32), 3) := by decide +kernel
theorem dX3_firstCheapest_45 : decode cX3_firstCheapest 45 = .ok (.iconst (-1), 1) := by decide +kernel
theorem dX3_firstCheapest_46 : decode cX3_firstCheapest 46 = .ok (.ireturn, 1) := by decide +kernel
theorem dX3_priceHouses_0 : decode cX3_priceHouses 0 = .ok (.iconst 0, 1) := by decide +kernel
theorem dX3_priceHouses_1 : decode cX3_priceHouses 1 = .ok (.istore_n 3, 1) := by decide +kernel
theorem dX3_priceHouses_2 : decode cX3_priceHouses 2 = .ok (.iload_n 3, 1) := by decide +kernel
theorem dX3_priceHouses_3 : decode cX3_priceHouses 3 = .ok (.bipush 6, 2) := by decide +kernel
theorem dX3_priceHouses_5 : decode cX3_priceHouses 5 = .ok (.aload_n 1, 1) := by decide +kernel
theorem dX3_priceHouses_6 : decode cX3_priceHouses 6 = .ok (.iconst 3, 1) := by decide +kernel
theorem dX3_priceHouses_7 : decode cX3_priceHouses 7 = .ok (.invokevirtual 57, 3) := by decide +kernel
theorem dX3_priceHouses_10 : decode cX3_priceHouses 10 = .ok (.invokestatic 27, 3) := by decide +kernel
theorem dX3_priceHouses_13 : decode cX3_priceHouses 13 = .ok (.if_icmp .ge 39, 3) := by decide +kernel
theorem dX3_priceHouses_16 : decode cX3_priceHouses 16 = .ok (.aload_n 0, 1) := by decide +kernel
theorem dX3_priceHouses_17 : decode cX3_priceHouses 17 = .ok (.getfield 20, 3) := by decide +kernel
theorem dX3_priceHouses_20 : decode cX3_priceHouses 20 = .ok (.iload_n 3, 1) := by decide +kernel
theorem dX3_priceHouses_21 : decode cX3_priceHouses 21 = .ok (.aload_n 0, 1) := by decide +kernel
theorem dX3_priceHouses_22 : decode cX3_priceHouses 22 = .ok (.aload_n 1, 1) := by decide +kernel
theorem dX3_priceHouses_23 : decode cX3_priceHouses 23 = .ok (.aload_n 1, 1) := by decide +kernel
theorem dX3_priceHouses_24 : decode cX3_priceHouses 24 = .ok (.iload_n 3, 1) := by decide +kernel
theorem dX3_priceHouses_25 : decode cX3_priceHouses 25 = .ok (.invokevirtual 61, 3) := by decide +kernel
theorem dX3_priceHouses_28 : decode cX3_priceHouses 28 = .ok (.iload_n 2, 1) := by decide +kernel
theorem dX3_priceHouses_29 : decode cX3_priceHouses 29 = .ok (.invokevirtual 64, 3) := by decide +kernel
theorem dX3_priceHouses_32 : decode cX3_priceHouses 32 = .ok (.iastore, 1) := by decide +kernel
theorem dX3_priceHouses_33 : decode cX3_priceHouses 33 = .ok (.aload_n 0, 1) := by decide +kernel
theorem dX3_priceHouses_34 : decode cX3_priceHouses 34 = .ok (.getfield 20, 3) := by decide +kernel
theorem dX3_priceHouses_37 : decode cX3_priceHouses 37 = .ok (.iload_n 3, 1) := by decide +kernel
theorem dX3_priceHouses_38 : decode cX3_priceHouses 38 = .ok (.iaload, 1) := by decide +kernel
theorem dX3_priceHouses_39 : decode cX3_priceHouses 39 = .ok (.ldc 37, 2) := by decide +kernel
theorem dX3_priceHouses_41 : decode cX3_priceHouses 41 = .ok (.if_icmp .ne 5, 3) := by decide +kernel
theorem dX3_priceHouses_44 : decode cX3_priceHouses 44 = .ok (.iconst 0, 1) := by decide +kernel
theorem dX3_priceHouses_45 : decode cX3_priceHouses 45 = .ok (.ireturn, 1) := by decide +kernel
theorem dX3_priceHouses_46 : decode cX3_priceHouses 46 = .ok (.iinc 3 1, 3) := by decide +kernel
theorem dX3_priceHouses_49 : decode cX3_priceHouses 49 = .ok (.goto (-47), 3) := by decide +kernel
theorem dX3_priceHouses_52 : decode cX3_priceHouses 52 = .ok (.iconst 1, 1) := by decide +kernel
theorem dX3_priceHouses_53 : decode cX3_priceHouses 53 = .ok (.ireturn, 1) := by decide +kernel
theorem dX3_dropFor_0 : decode cX3_dropFor 0 = .ok (.iconst 0, 1) := by decide +kernel
theorem dX3_dropFor_1 : decode cX3_dropFor 1 = .ok (.istore_n 3, 1) := by decide +kernel
theorem dX3_dropFor_2 : decode cX3_dropFor 2 = .ok (.iconst 0, 1) := by decide +kernel
theorem dX3_dropFor_3 : decode cX3_dropFor 3 = .ok (.istore 4, 2) := by decide +kernel
theorem dX3_dropFor_5 : decode cX3_dropFor 5 = .ok (.iload 4, 2) := by decide +kernel
theorem dX3_dropFor_7 : decode cX3_dropFor 7 = .ok (.bipush 6, 2) := by decide +kernel
theorem dX3_dropFor_9 : decode cX3_dropFor 9 = .ok (.if_icmp .ge 32, 3) := by decide +kernel
theorem dX3_dropFor_12 : decode cX3_dropFor 12 = .ok (.aload_n 0, 1) := by decide +kernel
theorem dX3_dropFor_13 : decode cX3_dropFor 13 = .ok (.aload_n 1, 1) := by decide +kernel
theorem dX3_dropFor_14 : decode cX3_dropFor 14 = .ok (.iload_n 3, 1) := by decide +kernel
theorem dX3_dropFor_15 : decode cX3_dropFor 15 = .ok (.invokevirtual 68, 3) := by decide +kernel
theorem dX3_dropFor_18 : decode cX3_dropFor 18 = .ok (.iload_n 2, 1) := by decide +kernel
theorem dX3_dropFor_19 : decode cX3_dropFor 19 = .ok (.if_icmp .gt 5, 3) := by decide +kernel
theorem dX3_dropFor_22 : decode cX3_dropFor 22 = .ok (.iload_n 3, 1) := by decide +kernel
theorem dX3_dropFor_23 : decode cX3_dropFor 23 = .ok (.ireturn, 1) := by decide +kernel
theorem dX3_dropFor_24 : decode cX3_dropFor 24 = .ok (.iload_n 3, 1) := by decide +kernel
theorem dX3_dropFor_25 : decode cX3_dropFor 25 = .ok (.iconst 1, 1) := by decide +kernel
theorem dX3_dropFor_26 : decode cX3_dropFor 26 = .ok (.aload_n 0, 1) := by decide +kernel
theorem dX3_dropFor_27 : decode cX3_dropFor 27 = .ok (.aload_n 1, 1) := by decide +kernel
theorem dX3_dropFor_28 : decode cX3_dropFor 28 = .ok (.iload_n 3, 1) := by decide +kernel
theorem dX3_dropFor_29 : decode cX3_dropFor 29 = .ok (.invokevirtual 72, 3) := by decide +kernel
theorem dX3_dropFor_32 : decode cX3_dropFor 32 = .ok (.ishl, 1) := by decide +kernel
theorem dX3_dropFor_33 : decode cX3_dropFor 33 = .ok (.ior, 1) := by decide +kernel
theorem dX3_dropFor_34 : decode cX3_dropFor 34 = .ok (.istore_n 3, 1) := by decide +kernel
theorem dX3_dropFor_35 : decode cX3_dropFor 35 = .ok (.iinc 4 1, 3) := by decide +kernel
theorem dX3_dropFor_38 : decode cX3_dropFor 38 = .ok (.goto (-33), 3) := by decide +kernel
theorem dX3_dropFor_41 : decode cX3_dropFor 41 = .ok (.iload_n 3, 1) := by decide +kernel
theorem dX3_dropFor_42 : decode cX3_dropFor 42 = .ok (.ireturn, 1) := by decide +kernel
theorem dX3_priceOfLeft_0 : decode cX3_priceOfLeft 0 = .ok (.iconst 0, 1) := by decide +kernel
theorem dX3_priceOfLeft_1 : decode cX3_priceOfLeft 1 = .ok (.istore_n 3, 1) := by decide +kernel
theorem dX3_priceOfLeft_2 : decode cX3_priceOfLeft 2 = .ok (.iconst 0, 1) := by decide +kernel
theorem dX3_priceOfLeft_3 : decode cX3_priceOfLeft 3 = .ok (.istore 4, 2) := by decide +kernel
theorem dX3_priceOfLeft_5 : decode cX3_priceOfLeft 5 = .ok (.iload 4, 2) := by decide +kernel
theorem dX3_priceOfLeft_7 : decode cX3_priceOfLeft 7 = .ok (.bipush 6, 2) := by decide +kernel
theorem dX3_priceOfLeft_9 : decode cX3_priceOfLeft 9 = .ok (.aload_n 1, 1) := by decide +kernel
theorem dX3_priceOfLeft_10 : decode cX3_priceOfLeft 10 = .ok (.iconst 3, 1) := by decide +kernel
theorem dX3_priceOfLeft_11 : decode cX3_priceOfLeft 11 = .ok (.invokevirtual 57, 3) := by decide +kernel
theorem dX3_priceOfLeft_14 : decode cX3_priceOfLeft 14 = .ok (.invokestatic 27, 3) := by decide +kernel
theorem dX3_priceOfLeft_17 : decode cX3_priceOfLeft 17 = .ok (.if_icmp .ge 32, 3) := by decide +kernel
theorem dX3_priceOfLeft_20 : decode cX3_priceOfLeft 20 = .ok (.iload_n 3, 1) := by decide +kernel
theorem dX3_priceOfLeft_21 : decode cX3_priceOfLeft 21 = .ok (.iload_n 2, 1) := by decide +kernel
theorem dX3_priceOfLeft_22 : decode cX3_priceOfLeft 22 = .ok (.iconst 1, 1) := by decide +kernel
theorem dX3_priceOfLeft_23 : decode cX3_priceOfLeft 23 = .ok (.iload 4, 2) := by decide +kernel
theorem dX3_priceOfLeft_25 : decode cX3_priceOfLeft 25 = .ok (.ishl, 1) := by decide +kernel
theorem dX3_priceOfLeft_26 : decode cX3_priceOfLeft 26 = .ok (.iand, 1) := by decide +kernel
theorem dX3_priceOfLeft_27 : decode cX3_priceOfLeft 27 = .ok (.ifCond .ne 13, 3) := by decide +kernel
theorem dX3_priceOfLeft_30 : decode cX3_priceOfLeft 30 = .ok (.aload_n 0, 1) := by decide +kernel
theorem dX3_priceOfLeft_31 : decode cX3_priceOfLeft 31 = .ok (.getfield 20, 3) := by decide +kernel
theorem dX3_priceOfLeft_34 : decode cX3_priceOfLeft 34 = .ok (.iload 4, 2) := by decide +kernel
theorem dX3_priceOfLeft_36 : decode cX3_priceOfLeft 36 = .ok (.iaload, 1) := by decide +kernel
theorem dX3_priceOfLeft_37 : decode cX3_priceOfLeft 37 = .ok (.goto 4, 3) := by decide +kernel
theorem dX3_priceOfLeft_40 : decode cX3_priceOfLeft 40 = .ok (.iconst 0, 1) := by decide +kernel
theorem dX3_priceOfLeft_41 : decode cX3_priceOfLeft 41 = .ok (.iadd, 1) := by decide +kernel
theorem dX3_priceOfLeft_42 : decode cX3_priceOfLeft 42 = .ok (.istore_n 3, 1) := by decide +kernel
theorem dX3_priceOfLeft_43 : decode cX3_priceOfLeft 43 = .ok (.iinc 4 1, 3) := by decide +kernel
theorem dX3_priceOfLeft_46 : decode cX3_priceOfLeft 46 = .ok (.goto (-41), 3) := by decide +kernel
theorem dX3_priceOfLeft_49 : decode cX3_priceOfLeft 49 = .ok (.iload_n 3, 1) := by decide +kernel
theorem dX3_priceOfLeft_50 : decode cX3_priceOfLeft 50 = .ok (.ireturn, 1) := by decide +kernel
theorem dX3_leastNeeding_0 : decode cX3_leastNeeding 0 = .ok (.iconst 0, 1) := by decide +kernel
theorem dX3_leastNeeding_1 : decode cX3_leastNeeding 1 = .ok (.istore_n 3, 1) := by decide +kernel
theorem dX3_leastNeeding_2 : decode cX3_leastNeeding 2 = .ok (.ldc 37, 2) := by decide +kernel
theorem dX3_leastNeeding_4 : decode cX3_leastNeeding 4 = .ok (.istore 4, 2) := by decide +kernel
theorem dX3_leastNeeding_6 : decode cX3_leastNeeding 6 = .ok (.iconst 0, 1) := by decide +kernel
theorem dX3_leastNeeding_7 : decode cX3_leastNeeding 7 = .ok (.istore 5, 2) := by decide +kernel
theorem dX3_leastNeeding_9 : decode cX3_leastNeeding 9 = .ok (.iload 5, 2) := by decide +kernel
theorem dX3_leastNeeding_11 : decode cX3_leastNeeding 11 = .ok (.aload_n 1, 1) := by decide +kernel
theorem dX3_leastNeeding_12 : decode cX3_leastNeeding 12 = .ok (.iconst 3, 1) := by decide +kernel
theorem dX3_leastNeeding_13 : decode cX3_leastNeeding 13 = .ok (.invokevirtual 57, 3) := by decide +kernel
theorem dX3_leastNeeding_16 : decode cX3_leastNeeding 16 = .ok (.if_icmp .ge 42, 3) := by decide +kernel
theorem dX3_leastNeeding_19 : decode cX3_leastNeeding 19 = .ok (.aload_n 1, 1) := by decide +kernel
theorem dX3_leastNeeding_20 : decode cX3_leastNeeding 20 = .ok (.iconst 3, 1) := by decide +kernel
theorem dX3_leastNeeding_21 : decode cX3_leastNeeding 21 = .ok (.iload 5, 2) := by decide +kernel
theorem dX3_leastNeeding_23 : decode cX3_leastNeeding 23 = .ok (.iconst 5, 1) := by decide +kernel
theorem dX3_leastNeeding_24 : decode cX3_leastNeeding 24 = .ok (.invokevirtual 50, 3) := by decide +kernel
theorem dX3_leastNeeding_27 : decode cX3_leastNeeding 27 = .ok (.istore 6, 2) := by decide +kernel
theorem dX3_leastNeeding_29 : decode cX3_leastNeeding 29 = .ok (.iload_n 2, 1) := by decide +kernel
theorem dX3_leastNeeding_30 : decode cX3_leastNeeding 30 = .ok (.iconst 1, 1) := by decide +kernel
theorem dX3_leastNeeding_31 : decode cX3_leastNeeding 31 = .ok (.iload 5, 2) := by decide +kernel
theorem dX3_leastNeeding_33 : decode cX3_leastNeeding 33 = .ok (.ishl, 1) := by decide +kernel
theorem dX3_leastNeeding_34 : decode cX3_leastNeeding 34 = .ok (.iand, 1) := by decide +kernel
theorem dX3_leastNeeding_35 : decode cX3_leastNeeding 35 = .ok (.ifCond .ne 17, 3) := by decide +kernel
theorem dX3_leastNeeding_38 : decode cX3_leastNeeding 38 = .ok (.iload 6, 2) := by decide +kernel
theorem dX3_leastNeeding_40 : decode cX3_leastNeeding 40 = .ok (.iload 4, 2) := by decide +kernel
theorem dX3_leastNeeding_42 : decode cX3_leastNeeding 42 = .ok (.if_icmp .gt 10, 3) := by decide +kernel
theorem dX3_leastNeeding_45 : decode cX3_leastNeeding 45 = .ok (.iload 5, 2) := by decide +kernel
theorem dX3_leastNeeding_47 : decode cX3_leastNeeding 47 = .ok (.istore_n 3, 1) := by decide +kernel
theorem dX3_leastNeeding_48 : decode cX3_leastNeeding 48 = .ok (.iload 6, 2) := by decide +kernel
theorem dX3_leastNeeding_50 : decode cX3_leastNeeding 50 = .ok (.istore 4, 2) := by decide +kernel
theorem dX3_leastNeeding_52 : decode cX3_leastNeeding 52 = .ok (.iinc 5 1, 3) := by decide +kernel
theorem dX3_leastNeeding_55 : decode cX3_leastNeeding 55 = .ok (.goto (-46), 3) := by decide +kernel
theorem dX3_leastNeeding_58 : decode cX3_leastNeeding 58 = .ok (.iload_n 3, 1) := by decide +kernel
theorem dX3_leastNeeding_59 : decode cX3_leastNeeding 59 = .ok (.ireturn, 1) := by decide +kernel
theorem dX4_init_0 : decode cX4_init 0 = .ok (.aload_n 0, 1) := by decide +kernel
theorem dX4_init_1 : decode cX4_init 1 = .ok (.invokespecial 3, 3) := by decide +kernel
theorem dX4_init_4 : decode cX4_init 4 = .ok (.aload_n 0, 1) := by decide +kernel
theorem dX4_init_5 : decode cX4_init 5 = .ok (.iconst 3, 1) := by decide +kernel
theorem dX4_init_6 : decode cX4_init 6 = .ok (.bipush 64, 2) := by decide +kernel
theorem dX4_init_8 : decode cX4_init 8 = .ok (.multianewarray 9 2, 4) := by decide +kernel
theorem dX4_init_12 : decode cX4_init 12 = .ok (.putfield 11, 3) := by decide +kernel
theorem dX4_init_15 : decode cX4_init 15 = .ok (.aload_n 0, 1) := by decide +kernel
theorem dX4_init_16 : decode cX4_init 16 = .ok (.iconst 3, 1) := by decide +kernel
theorem dX4_init_17 : decode cX4_init 17 = .ok (.bipush 64, 2) := by decide +kernel
theorem dX4_init_19 : decode cX4_init 19 = .ok (.multianewarray 9 2, 4) := by decide +kernel
theorem dX4_init_23 : decode cX4_init 23 = .ok (.putfield 16, 3) := by decide +kernel
theorem dX4_init_26 : decode cX4_init 26 = .ok (.aload_n 0, 1) := by decide +kernel
theorem dX4_init_27 : decode cX4_init 27 = .ok (.bipush 6, 2) := by decide +kernel
theorem dX4_init_29 : decode cX4_init 29 = .ok (.newarray .int, 2) := by decide +kernel
theorem dX4_init_31 : decode cX4_init 31 = .ok (.putfield 19, 3) := by decide +kernel
theorem dX4_init_34 : decode cX4_init 34 = .ok (.return_, 1) := by decide +kernel
theorem dX4_forget_0 : decode cX4_forget 0 = .ok (.aload_n 0, 1) := by decide +kernel
theorem dX4_forget_1 : decode cX4_forget 1 = .ok (.iconst 0, 1) := by decide +kernel
theorem dX4_forget_2 : decode cX4_forget 2 = .ok (.putfield 23, 3) := by decide +kernel
theorem dX4_forget_5 : decode cX4_forget 5 = .ok (.return_, 1) := by decide +kernel
theorem dX4_worth_0 : decode cX4_worth 0 = .ok (.iload_n 1, 1) := by decide +kernel
theorem dX4_worth_1 : decode cX4_worth 1 = .ok (.iload_n 2, 1) := by decide +kernel
theorem dX4_worth_2 : decode cX4_worth 2 = .ok (.invokestatic 27, 3) := by decide +kernel
theorem dX4_worth_5 : decode cX4_worth 5 = .ok (.ifCond .eq 14, 3) := by decide +kernel
theorem dX4_worth_8 : decode cX4_worth 8 = .ok (.aload_n 0, 1) := by decide +kernel
theorem dX4_worth_9 : decode cX4_worth 9 = .ok (.getfield 11, 3) := by decide +kernel
theorem dX4_worth_12 : decode cX4_worth 12 = .ok (.iload_n 1, 1) := by decide +kernel
theorem dX4_worth_13 : decode cX4_worth 13 = .ok (.aaload, 1) := by decide +kernel
theorem dX4_worth_14 : decode cX4_worth 14 = .ok (.iload_n 2, 1) := by decide +kernel
theorem dX4_worth_15 : decode cX4_worth 15 = .ok (.iaload, 1) := by decide +kernel
theorem dX4_worth_16 : decode cX4_worth 16 = .ok (.goto 5, 3) := by decide +kernel
theorem dX4_worth_19 : decode cX4_worth 19 = .ok (.ldc 31, 2) := by decide +kernel
theorem dX4_worth_21 : decode cX4_worth 21 = .ok (.ireturn, 1) := by decide +kernel
theorem dX4_houseAt_0 : decode cX4_houseAt 0 = .ok (.iload_n 2, 1) := by decide +kernel
theorem dX4_houseAt_1 : decode cX4_houseAt 1 = .ok (.invokestatic 32, 3) := by decide +kernel
theorem dX4_houseAt_4 : decode cX4_houseAt 4 = .ok (.iconst 1, 1) := by decide +kernel
theorem dX4_houseAt_5 : decode cX4_houseAt 5 = .ok (.isub, 1) := by decide +kernel
theorem dX4_houseAt_6 : decode cX4_houseAt 6 = .ok (.iload_n 3, 1) := by decide +kernel
theorem dX4_houseAt_7 : decode cX4_houseAt 7 = .ok (.isub, 1) := by decide +kernel
theorem dX4_houseAt_8 : decode cX4_houseAt 8 = .ok (.istore 4, 2) := by decide +kernel
theorem dX4_houseAt_10 : decode cX4_houseAt 10 = .ok (.iload_n 1, 1) := by decide +kernel
theorem dX4_houseAt_11 : decode cX4_houseAt 11 = .ok (.iload_n 2, 1) := by decide +kernel
theorem dX4_houseAt_12 : decode cX4_houseAt 12 = .ok (.invokestatic 27, 3) := by decide +kernel
theorem dX4_houseAt_15 : decode cX4_houseAt 15 = .ok (.ifCond .eq 31, 3) := by decide +kernel
theorem dX4_houseAt_18 : decode cX4_houseAt 18 = .ok (.iload_n 3, 1) := by decide +kernel
theorem dX4_houseAt_19 : decode cX4_houseAt 19 = .ok (.ifCond .lt 27, 3) := by decide +kernel
theorem dX4_houseAt_22 : decode cX4_houseAt 22 = .ok (.iload 4, 2) := by decide +kernel
theorem dX4_houseAt_24 : decode cX4_houseAt 24 = .ok (.ifCond .lt 22, 3) := by decide +kernel
theorem dX4_houseAt_27 : decode cX4_houseAt 27 = .ok (.aload_n 0, 1) := by decide +kernel
theorem dX4_houseAt_28 : decode cX4_houseAt 28 = .ok (.getfield 16, 3) := by decide +kernel
theorem dX4_houseAt_31 : decode cX4_houseAt 31 = .ok (.iload_n 1, 1) := by decide +kernel
theorem dX4_houseAt_32 : decode cX4_houseAt 32 = .ok (.aaload, 1) := by decide +kernel
theorem dX4_houseAt_33 : decode cX4_houseAt 33 = .ok (.iload_n 2, 1) := by decide +kernel
theorem dX4_houseAt_34 : decode cX4_houseAt 34 = .ok (.iaload, 1) := by decide +kernel
theorem dX4_houseAt_35 : decode cX4_houseAt 35 = .ok (.iconst 3, 1) := by decide +kernel
theorem dX4_houseAt_36 : decode cX4_houseAt 36 = .ok (.iload 4, 2) := by decide +kernel
theorem dX4_houseAt_38 : decode cX4_houseAt 38 = .ok (.imul, 1) := by decide +kernel
theorem dX4_houseAt_39 : decode cX4_houseAt 39 = .ok (.ishr, 1) := by decide +kernel
theorem dX4_houseAt_40 : decode cX4_houseAt 40 = .ok (.bipush 7, 2) := by decide +kernel
theorem dX4_houseAt_42 : decode cX4_houseAt 42 = .ok (.iand, 1) := by decide +kernel
theorem dX4_houseAt_43 : decode cX4_houseAt 43 = .ok (.goto 4, 3) := by decide +kernel
theorem dX4_houseAt_46 : decode cX4_houseAt 46 = .ok (.iconst (-1), 1) := by decide +kernel
theorem dX4_houseAt_47 : decode cX4_houseAt 47 = .ok (.ireturn, 1) := by decide +kernel
theorem dX4_isInside_0 : decode cX4_isInside 0 = .ok (.iload_n 0, 1) := by decide +kernel
theorem dX4_isInside_1 : decode cX4_isInside 1 = .ok (.iconst 0, 1) := by decide +kernel
theorem dX4_isInside_2 : decode cX4_isInside 2 = .ok (.iconst 2, 1) := by decide +kernel
theorem dX4_isInside_3 : decode cX4_isInside 3 = .ok (.invokestatic 38, 3) := by decide +kernel
theorem dX4_isInside_6 : decode cX4_isInside 6 = .ok (.ifCond .eq 17, 3) := by decide +kernel
theorem dX4_isInside_9 : decode cX4_isInside 9 = .ok (.iload_n 1, 1) := by decide +kernel
theorem dX4_isInside_10 : decode cX4_isInside 10 = .ok (.iconst 0, 1) := by decide +kernel
theorem dX4_isInside_11 : decode cX4_isInside 11 = .ok (.bipush 63, 2) := by decide +kernel
theorem dX4_isInside_13 : decode cX4_isInside 13 = .ok (.invokestatic 38, 3) := by decide +kernel
theorem dX4_isInside_16 : decode cX4_isInside 16 = .ok (.ifCond .eq 7, 3) := by decide +kernel
theorem dX4_isInside_19 : decode cX4_isInside 19 = .ok (.iconst 1, 1) := by decide +kernel
theorem dX4_isInside_20 : decode cX4_isInside 20 = .ok (.goto 4, 3) := by decide +kernel
theorem dX4_isInside_23 : decode cX4_isInside 23 = .ok (.iconst 0, 1) := by decide +kernel
theorem dX4_isInside_24 : decode cX4_isInside 24 = .ok (.ireturn, 1) := by decide +kernel
theorem dX4_learn_0 : decode cX4_learn 0 = .ok (.iload_n 2, 1) := by decide +kernel
theorem dX4_learn_1 : decode cX4_learn 1 = .ok (.iconst 0, 1) := by decide +kernel
theorem dX4_learn_2 : decode cX4_learn 2 = .ok (.invokestatic 27, 3) := by decide +kernel
theorem dX4_learn_5 : decode cX4_learn 5 = .ok (.ifCond .eq 14, 3) := by decide +kernel
theorem dX4_learn_8 : decode cX4_learn 8 = .ok (.aload_n 0, 1) := by decide +kernel
theorem dX4_learn_9 : decode cX4_learn 9 = .ok (.getfield 23, 3) := by decide +kernel
theorem dX4_learn_12 : decode cX4_learn 12 = .ok (.iconst 1, 1) := by decide +kernel
theorem dX4_learn_13 : decode cX4_learn 13 = .ok (.iload_n 2, 1) := by decide +kernel
theorem dX4_learn_14 : decode cX4_learn 14 = .ok (.ishl, 1) := by decide +kernel
theorem dX4_learn_15 : decode cX4_learn 15 = .ok (.iand, 1) := by decide +kernel
theorem dX4_learn_16 : decode cX4_learn 16 = .ok (.ifCond .eq 4, 3) := by decide +kernel
theorem dX4_learn_19 : decode cX4_learn 19 = .ok (.return_, 1) := by decide +kernel
theorem dX4_learn_20 : decode cX4_learn 20 = .ok (.aload_n 1, 1) := by decide +kernel
theorem dX4_learn_21 : decode cX4_learn 21 = .ok (.iconst 4, 1) := by decide +kernel
theorem dX4_learn_22 : decode cX4_learn 22 = .ok (.iload_n 2, 1) := by decide +kernel
theorem dX4_learn_23 : decode cX4_learn 23 = .ok (.iconst 1, 1) := by decide +kernel
theorem dX4_learn_24 : decode cX4_learn 24 = .ok (.invokevirtual 42, 3) := by decide +kernel
theorem dX4_learn_27 : decode cX4_learn 27 = .ok (.istore_n 3, 1) := by decide +kernel
theorem dX4_learn_28 : decode cX4_learn 28 = .ok (.aload_n 0, 1) := by decide +kernel
theorem dX4_learn_29 : decode cX4_learn 29 = .ok (.dup, 1) := by decide +kernel
theorem dX4_learn_30 : decode cX4_learn 30 = .ok (.getfield 23, 3) := by decide +kernel
theorem dX4_learn_33 : decode cX4_learn 33 = .ok (.iconst 1, 1) := by decide +kernel
theorem dX4_learn_34 : decode cX4_learn 34 = .ok (.iload_n 2, 1) := by decide +kernel
theorem dX4_learn_35 : decode cX4_learn 35 = .ok (.ishl, 1) := by decide +kernel
theorem dX4_learn_36 : decode cX4_learn 36 = .ok (.ior, 1) := by decide +kernel
theorem dX4_learn_37 : decode cX4_learn 37 = .ok (.putfield 23, 3) := by decide +kernel
theorem dX4_learn_40 : decode cX4_learn 40 = .ok (.aload_n 0, 1) := by decide +kernel
theorem dX4_learn_41 : decode cX4_learn 41 = .ok (.getfield 11, 3) := by decide +kernel
theorem dX4_learn_44 : decode cX4_learn 44 = .ok (.iload_n 2, 1) := by decide +kernel
theorem dX4_learn_45 : decode cX4_learn 45 = .ok (.aaload, 1) := by decide +kernel
theorem dX4_learn_46 : decode cX4_learn 46 = .ok (.ldc 31, 2) := by decide +kernel
theorem dX4_learn_48 : decode cX4_learn 48 = .ok (.invokestatic 48, 3) := by decide +kernel
theorem dX4_learn_51 : decode cX4_learn 51 = .ok (.aload_n 0, 1) := by decide +kernel
theorem dX4_learn_52 : decode cX4_learn 52 = .ok (.getfield 11, 3) := by decide +kernel
theorem dX4_learn_55 : decode cX4_learn 55 = .ok (.iload_n 2, 1) := by decide +kernel
theorem dX4_learn_56 : decode cX4_learn 56 = .ok (.aaload, 1) := by decide +kernel
theorem dX4_learn_57 : decode cX4_learn 57 = .ok (.iconst 0, 1) := by decide +kernel
theorem dX4_learn_58 : decode cX4_learn 58 = .ok (.iload_n 3, 1) := by decide +kernel
theorem dX4_learn_59 : decode cX4_learn 59 = .ok (.iastore, 1) := by decide +kernel
theorem dX4_learn_60 : decode cX4_learn 60 = .ok (.aload_n 0, 1) := by decide +kernel
theorem dX4_learn_61 : decode cX4_learn 61 = .ok (.aload_n 1, 1) := by decide +kernel
theorem dX4_learn_62 : decode cX4_learn 62 = .ok (.iload_n 2, 1) := by decide +kernel
theorem dX4_learn_63 : decode cX4_learn 63 = .ok (.iconst 0, 1) := by decide +kernel
theorem dX4_learn_64 : decode cX4_learn 64 = .ok (.iconst 0, 1) := by decide +kernel
theorem dX4_learn_65 : decode cX4_learn 65 = .ok (.iload_n 3, 1) := by decide +kernel
theorem dX4_learn_66 : decode cX4_learn 66 = .ok (.iconst 0, 1) := by decide +kernel
theorem dX4_learn_67 : decode cX4_learn 67 = .ok (.invokestatic 54, 3) := by decide +kernel
theorem dX4_learn_70 : decode cX4_learn 70 = .ok (.return_, 1) := by decide +kernel
theorem dX4_extend_0 : decode cX4_extend 0 = .ok (.iload_n 3, 1) := by decide +kernel
theorem dX4_extend_1 : decode cX4_extend 1 = .ok (.bipush 6, 2) := by decide +kernel
theorem dX4_extend_3 : decode cX4_extend 3 = .ok (.aload_n 1, 1) := by decide +kernel
theorem dX4_extend_4 : decode cX4_extend 4 = .ok (.iconst 4, 1) := by decide +kernel
theorem dX4_extend_5 : decode cX4_extend 5 = .ok (.iload_n 2, 1) := by decide +kernel
theorem dX4_extend_6 : decode cX4_extend 6 = .ok (.iconst 2, 1) := by decide +kernel
theorem dX4_extend_7 : decode cX4_extend 7 = .ok (.invokevirtual 42, 3) := by decide +kernel
theorem dX4_extend_10 : decode cX4_extend 10 = .ok (.invokestatic 58, 3) := by decide +kernel
theorem dX4_extend_13 : decode cX4_extend 13 = .ok (.if_icmp .lt 4, 3) := by decide +kernel
theorem dX4_extend_16 : decode cX4_extend 16 = .ok (.return_, 1) := by decide +kernel
theorem dX4_extend_17 : decode cX4_extend 17 = .ok (.iload_n 3, 1) := by decide +kernel
theorem dX4_extend_18 : decode cX4_extend 18 = .ok (.iconst 1, 1) := by decide +kernel
theorem dX4_extend_19 : decode cX4_extend 19 = .ok (.if_icmp .ge 11, 3) := by decide +kernel
theorem dX4_extend_22 : decode cX4_extend 22 = .ok (.aload_n 1, 1) := by decide +kernel
theorem dX4_extend_23 : decode cX4_extend 23 = .ok (.iload_n 2, 1) := by decide +kernel
theorem dX4_extend_24 : decode cX4_extend 24 = .ok (.invokevirtual 64, 3) := by decide +kernel
theorem dX4_extend_27 : decode cX4_extend 27 = .ok (.goto 17, 3) := by decide +kernel
theorem dX4_extend_30 : decode cX4_extend 30 = .ok (.aload_n 1, 1) := by decide +kernel
theorem dX4_extend_31 : decode cX4_extend 31 = .ok (.iconst 3, 1) := by decide +kernel
theorem dX4_extend_32 : decode cX4_extend 32 = .ok (.aload_n 0, 1) := by decide +kernel
theorem dX4_extend_33 : decode cX4_extend 33 = .ok (.getfield 19, 3) := by decide +kernel
theorem dX4_extend_36 : decode cX4_extend 36 = .ok (.iload_n 3, 1) := by decide +kernel
theorem dX4_extend_37 : decode cX4_extend 37 = .ok (.iconst 1, 1) := by decide +kernel
theorem dX4_extend_38 : decode cX4_extend 38 = .ok (.isub, 1) := by decide +kernel
theorem dX4_extend_39 : decode cX4_extend 39 = .ok (.iaload, 1) := by decide +kernel
theorem dX4_extend_40 : decode cX4_extend 40 = .ok (.iconst 0, 1) := by decide +kernel
theorem dX4_extend_41 : decode cX4_extend 41 = .ok (.invokevirtual 42, 3) := by decide +kernel
theorem dX4_extend_44 : decode cX4_extend 44 = .ok (.istore 7, 2) := by decide +kernel
theorem dX4_extend_46 : decode cX4_extend 46 = .ok (.iconst 0, 1) := by decide +kernel
theorem dX4_extend_47 : decode cX4_extend 47 = .ok (.istore 8, 2) := by decide +kernel
theorem dX4_extend_49 : decode cX4_extend 49 = .ok (.iload 8, 2) := by decide +kernel
theorem dX4_extend_51 : decode cX4_extend 51 = .ok (.bipush 6, 2) := by decide +kernel
theorem dX4_extend_53 : decode cX4_extend 53 = .ok (.aload_n 1, 1) := by decide +kernel
theorem dX4_extend_54 : decode cX4_extend 54 = .ok (.iconst 3, 1) := by decide +kernel
theorem dX4_extend_55 : decode cX4_extend 55 = .ok (.invokevirtual 67, 3) := by decide +kernel
theorem dX4_extend_58 : decode cX4_extend 58 = .ok (.invokestatic 58, 3) := by decide +kernel
theorem dX4_extend_61 : decode cX4_extend 61 = .ok (.if_icmp .ge 115, 3) := by decide +kernel
theorem dX4_extend_64 : decode cX4_extend 64 = .ok (.iload 4, 2) := by decide +kernel
theorem dX4_extend_66 : decode cX4_extend 66 = .ok (.iconst 1, 1) := by decide +kernel
theorem dX4_extend_67 : decode cX4_extend 67 = .ok (.iload 8, 2) := by decide +kernel
theorem dX4_extend_69 : decode cX4_extend 69 = .ok (.ishl, 1) := by decide +kernel
theorem dX4_extend_70 : decode cX4_extend 70 = .ok (.ior, 1) := by decide +kernel
theorem dX4_extend_71 : decode cX4_extend 71 = .ok (.istore 9, 2) := by decide +kernel
theorem dX4_extend_73 : decode cX4_extend 73 = .ok (.iload 9, 2) := by decide +kernel
theorem dX4_extend_75 : decode cX4_extend 75 = .ok (.iload 4, 2) := by decide +kernel
theorem dX4_extend_77 : decode cX4_extend 77 = .ok (.if_icmp .eq 93, 3) := by decide +kernel
theorem dX4_extend_80 : decode cX4_extend 80 = .ok (.iload 5, 2) := by decide +kernel
theorem dX4_extend_82 : decode cX4_extend 82 = .ok (.aload_n 1, 1) := by decide +kernel
theorem dX4_extend_83 : decode cX4_extend 83 = .ok (.iload 7, 2) := by decide +kernel
theorem dX4_extend_85 : decode cX4_extend 85 = .ok (.aload_n 1, 1) := by decide +kernel
theorem dX4_extend_86 : decode cX4_extend 86 = .ok (.iconst 3, 1) := by decide +kernel
theorem dX4_extend_87 : decode cX4_extend 87 = .ok (.iload 8, 2) := by decide +kernel
theorem dX4_extend_89 : decode cX4_extend 89 = .ok (.iconst 0, 1) := by decide +kernel
theorem dX4_extend_90 : decode cX4_extend 90 = .ok (.invokevirtual 42, 3) := by decide +kernel
theorem dX4_extend_93 : decode cX4_extend 93 = .ok (.invokevirtual 70, 3) := by decide +kernel
theorem dX4_extend_96 : decode cX4_extend 96 = .ok (.iadd, 1) := by decide +kernel
theorem dX4_extend_97 : decode cX4_extend 97 = .ok (.istore 10, 2) := by decide +kernel
theorem dX4_extend_99 : decode cX4_extend 99 = .ok (.iload 6, 2) := by decide +kernel
theorem dX4_extend_101 : decode cX4_extend 101 = .ok (.aload_n 1, 1) := by decide +kernel
theorem dX4_extend_102 : decode cX4_extend 102 = .ok (.iload_n 2, 1) := by decide +kernel
theorem dX4_extend_103 : decode cX4_extend 103 = .ok (.iload 10, 2) := by decide +kernel
theorem dX4_extend_105 : decode cX4_extend 105 = .ok (.invokevirtual 73, 3) := by decide +kernel
theorem dX4_extend_108 : decode cX4_extend 108 = .ok (.ifCond .eq 7, 3) := by decide +kernel
theorem dX4_extend_111 : decode cX4_extend 111 = .ok (.iconst 1, 1) := by decide +kernel
theorem dX4_extend_112 : decode cX4_extend 112 = .ok (.goto 4, 3) := by decide +kernel
theorem dX4_extend_115 : decode cX4_extend 115 = .ok (.iconst 0, 1) := by decide +kernel
theorem dX4_extend_116 : decode cX4_extend 116 = .ok (.iadd, 1) := by decide +kernel
theorem dX4_extend_117 : decode cX4_extend 117 = .ok (.istore 11, 2) := by decide +kernel
theorem dX4_extend_119 : decode cX4_extend 119 = .ok (.iload 10, 2) := by decide +kernel
theorem dX4_extend_121 : decode cX4_extend 121 = .ok (.aload_n 1, 1) := by decide +kernel
theorem dX4_extend_122 : decode cX4_extend 122 = .ok (.iload_n 2, 1) := by decide +kernel
theorem dX4_extend_123 : decode cX4_extend 123 = .ok (.iload 8, 2) := by decide +kernel
theorem dX4_extend_125 : decode cX4_extend 125 = .ok (.invokevirtual 76, 3) := by decide +kernel
theorem dX4_extend_128 : decode cX4_extend 128 = .ok (.iadd, 1) := by decide +kernel
theorem dX4_extend_129 : decode cX4_extend 129 = .ok (.istore 12, 2) := by decide +kernel
theorem dX4_extend_131 : decode cX4_extend 131 = .ok (.aload_n 0, 1) := by decide +kernel
theorem dX4_extend_132 : decode cX4_extend 132 = .ok (.getfield 19, 3) := by decide +kernel
theorem dX4_extend_135 : decode cX4_extend 135 = .ok (.iload_n 3, 1) := by decide +kernel
theorem dX4_extend_136 : decode cX4_extend 136 = .ok (.iload 8, 2) := by decide +kernel
theorem dX4_extend_138 : decode cX4_extend 138 = .ok (.iastore, 1) := by decide +kernel
theorem dX4_extend_139 : decode cX4_extend 139 = .ok (.aload_n 0, 1) := by decide +kernel
theorem dX4_extend_140 : decode cX4_extend 140 = .ok (.iload_n 2, 1) := by decide +kernel
theorem dX4_extend_141 : decode cX4_extend 141 = .ok (.iload 9, 2) := by decide +kernel
theorem dX4_extend_143 : decode cX4_extend 143 = .ok (.iload 11, 2) := by decide +kernel
theorem dX4_extend_145 : decode cX4_extend 145 = .ok (.sipush 10000, 3) := by decide +kernel
theorem dX4_extend_148 : decode cX4_extend 148 = .ok (.imul, 1) := by decide +kernel
theorem dX4_extend_149 : decode cX4_extend 149 = .ok (.iload 10, 2) := by decide +kernel
theorem dX4_extend_151 : decode cX4_extend 151 = .ok (.iadd, 1) := by decide +kernel
theorem dX4_extend_152 : decode cX4_extend 152 = .ok (.invokevirtual 79, 3) := by decide +kernel
theorem dX4_extend_155 : decode cX4_extend 155 = .ok (.aload_n 0, 1) := by decide +kernel
theorem dX4_extend_156 : decode cX4_extend 156 = .ok (.aload_n 1, 1) := by decide +kernel
theorem dX4_extend_157 : decode cX4_extend 157 = .ok (.iload_n 2, 1) := by decide +kernel
theorem dX4_extend_158 : decode cX4_extend 158 = .ok (.iload_n 3, 1) := by decide +kernel
theorem dX4_extend_159 : decode cX4_extend 159 = .ok (.iconst 1, 1) := by decide +kernel
theorem dX4_extend_160 : decode cX4_extend 160 = .ok (.iadd, 1) := by decide +kernel
theorem dX4_extend_161 : decode cX4_extend 161 = .ok (.iload 9, 2) := by decide +kernel
theorem dX4_extend_163 : decode cX4_extend 163 = .ok (.iload 12, 2) := by decide +kernel
theorem dX4_extend_165 : decode cX4_extend 165 = .ok (.iload 11, 2) := by decide +kernel
theorem dX4_extend_167 : decode cX4_extend 167 = .ok (.invokestatic 54, 3) := by decide +kernel
theorem dX4_extend_170 : decode cX4_extend 170 = .ok (.iinc 8 1, 3) := by decide +kernel
theorem dX4_extend_173 : decode cX4_extend 173 = .ok (.goto (-124), 3) := by decide +kernel
theorem dX4_extend_176 : decode cX4_extend 176 = .ok (.return_, 1) := by decide +kernel
theorem dX4_note_0 : decode cX4_note 0 = .ok (.iload_n 3, 1) := by decide +kernel
theorem dX4_note_1 : decode cX4_note 1 = .ok (.aload_n 0, 1) := by decide +kernel
theorem dX4_note_2 : decode cX4_note 2 = .ok (.getfield 11, 3) := by decide +kernel
theorem dX4_note_5 : decode cX4_note 5 = .ok (.iload_n 1, 1) := by decide +kernel
theorem dX4_note_6 : decode cX4_note 6 = .ok (.aaload, 1) := by decide +kernel
theorem dX4_note_7 : decode cX4_note 7 = .ok (.iload_n 2, 1) := by decide +kernel
theorem dX4_note_8 : decode cX4_note 8 = .ok (.iaload, 1) := by decide +kernel
theorem dX4_note_9 : decode cX4_note 9 = .ok (.if_icmp .lt 4, 3) := by decide +kernel
theorem dX4_note_12 : decode cX4_note 12 = .ok (.return_, 1) := by decide +kernel
theorem dX4_note_13 : decode cX4_note 13 = .ok (.iconst 0, 1) := by decide +kernel
theorem dX4_note_14 : decode cX4_note 14 = .ok (.istore 4, 2) := by decide +kernel
theorem dX4_note_16 : decode cX4_note 16 = .ok (.iconst 0, 1) := by decide +kernel
theorem dX4_note_17 : decode cX4_note 17 = .ok (.istore 5, 2) := by decide +kernel
theorem dX4_note_19 : decode cX4_note 19 = .ok (.iload 5, 2) := by decide +kernel
theorem dX4_note_21 : decode cX4_note 21 = .ok (.iload_n 2, 1) := by decide +kernel
theorem dX4_note_22 : decode cX4_note 22 = .ok (.invokestatic 32, 3) := by decide +kernel
theorem dX4_note_25 : decode cX4_note 25 = .ok (.if_icmp .ge 23, 3) := by decide +kernel
theorem dX4_note_28 : decode cX4_note 28 = .ok (.iload 4, 2) := by decide +kernel
theorem dX4_note_30 : decode cX4_note 30 = .ok (.iconst 3, 1) := by decide +kernel
theorem dX4_note_31 : decode cX4_note 31 = .ok (.ishl, 1) := by decide +kernel
theorem dX4_note_32 : decode cX4_note 32 = .ok (.aload_n 0, 1) := by decide +kernel
theorem dX4_note_33 : decode cX4_note 33 = .ok (.getfield 19, 3) := by decide +kernel
theorem dX4_note_36 : decode cX4_note 36 = .ok (.iload 5, 2) := by decide +kernel
theorem dX4_note_38 : decode cX4_note 38 = .ok (.iaload, 1) := by decide +kernel
theorem dX4_note_39 : decode cX4_note 39 = .ok (.ior, 1) := by decide +kernel
theorem dX4_note_40 : decode cX4_note 40 = .ok (.istore 4, 2) := by decide +kernel
theorem dX4_note_42 : decode cX4_note 42 = .ok (.iinc 5 1, 3) := by decide +kernel
theorem dX4_note_45 : decode cX4_note 45 = .ok (.goto (-26), 3) := by decide +kernel
theorem dX4_note_48 : decode cX4_note 48 = .ok (.aload_n 0, 1) := by decide +kernel
theorem dX4_note_49 : decode cX4_note 49 = .ok (.getfield 11, 3) := by decide +kernel
theorem dX4_note_52 : decode cX4_note 52 = .ok (.iload_n 1, 1) := by decide +kernel
theorem dX4_note_53 : decode cX4_note 53 = .ok (.aaload, 1) := by decide +kernel
theorem dX4_note_54 : decode cX4_note 54 = .ok (.iload_n 2, 1) := by decide +kernel
theorem dX4_note_55 : decode cX4_note 55 = .ok (.iload_n 3, 1) := by decide +kernel
theorem dX4_note_56 : decode cX4_note 56 = .ok (.iastore, 1) := by decide +kernel
theorem dX4_note_57 : decode cX4_note 57 = .ok (.aload_n 0, 1) := by decide +kernel
theorem dX4_note_58 : decode cX4_note 58 = .ok (.getfield 16, 3) := by decide +kernel
theorem dX4_note_61 : decode cX4_note 61 = .ok (.iload_n 1, 1) := by decide +kernel
theorem dX4_note_62 : decode cX4_note 62 = .ok (.aaload, 1) := by decide +kernel
theorem dX4_note_63 : decode cX4_note 63 = .ok (.iload_n 2, 1) := by decide +kernel
theorem dX4_note_64 : decode cX4_note 64 = .ok (.iload 4, 2) := by decide +kernel
theorem dX4_note_66 : decode cX4_note 66 = .ok (.iastore, 1) := by decide +kernel
theorem dX4_note_67 : decode cX4_note 67 = .ok (.return_, 1) := by decide +kernel
theorem dX5_init_0 : decode cX5_init 0 = .ok (.aload_n 0, 1) := by decide +kernel
theorem dX5_init_1 : decode cX5_init 1 = .ok (.invokespecial 3, 3) := by decide +kernel
theorem dX5_init_4 : decode cX5_init 4 = .ok (.aload_n 0, 1) := by decide +kernel
theorem dX5_init_5 : decode cX5_init 5 = .ok (.bipush 16, 2) := by decide +kernel
theorem dX5_init_7 : decode cX5_init 7 = .ok (.newarray .int, 2) := by decide +kernel
theorem dX5_init_9 : decode cX5_init 9 = .ok (.putfield 9, 3) := by decide +kernel
theorem dX5_init_12 : decode cX5_init 12 = .ok (.aload_n 0, 1) := by decide +kernel
theorem dX5_init_13 : decode cX5_init 13 = .ok (.bipush 16, 2) := by decide +kernel
theorem dX5_init_15 : decode cX5_init 15 = .ok (.newarray .int, 2) := by decide +kernel
theorem dX5_init_17 : decode cX5_init 17 = .ok (.putfield 15, 3) := by decide +kernel
theorem dX5_init_20 : decode cX5_init 20 = .ok (.aload_n 0, 1) := by decide +kernel
theorem dX5_init_21 : decode cX5_init 21 = .ok (.bipush 16, 2) := by decide +kernel
theorem dX5_init_23 : decode cX5_init 23 = .ok (.newarray .int, 2) := by decide +kernel
theorem dX5_init_25 : decode cX5_init 25 = .ok (.putfield 18, 3) := by decide +kernel
theorem dX5_init_28 : decode cX5_init 28 = .ok (.return_, 1) := by decide +kernel
theorem dX5_clear_0 : decode cX5_clear 0 = .ok (.aload_n 0, 1) := by decide +kernel
theorem dX5_clear_1 : decode cX5_clear 1 = .ok (.iconst 0, 1) := by decide +kernel
theorem dX5_clear_2 : decode cX5_clear 2 = .ok (.putfield 21, 3) := by decide +kernel
theorem dX5_clear_5 : decode cX5_clear 5 = .ok (.return_, 1) := by decide +kernel
theorem dX5_append_0 : decode cX5_append 0 = .ok (.aload_n 0, 1) := by decide +kernel
theorem dX5_append_1 : decode cX5_append 1 = .ok (.getfield 21, 3) := by decide +kernel
theorem dX5_append_4 : decode cX5_append 4 = .ok (.bipush 16, 2) := by decide +kernel
theorem dX5_append_6 : decode cX5_append 6 = .ok (.if_icmp .ge 43, 3) := by decide +kernel
theorem dX5_append_9 : decode cX5_append 9 = .ok (.aload_n 0, 1) := by decide +kernel
theorem dX5_append_10 : decode cX5_append 10 = .ok (.getfield 9, 3) := by decide +kernel
theorem dX5_append_13 : decode cX5_append 13 = .ok (.aload_n 0, 1) := by decide +kernel
theorem dX5_append_14 : decode cX5_append 14 = .ok (.getfield 21, 3) := by decide +kernel
theorem dX5_append_17 : decode cX5_append 17 = .ok (.iload_n 1, 1) := by decide +kernel
theorem dX5_append_18 : decode cX5_append 18 = .ok (.iastore, 1) := by decide +kernel
theorem dX5_append_19 : decode cX5_append 19 = .ok (.aload_n 0, 1) := by decide +kernel
theorem dX5_append_20 : decode cX5_append 20 = .ok (.getfield 15, 3) := by decide +kernel
theorem dX5_append_23 : decode cX5_append 23 = .ok (.aload_n 0, 1) := by decide +kernel
theorem dX5_append_24 : decode cX5_append 24 = .ok (.getfield 21, 3) := by decide +kernel
theorem dX5_append_27 : decode cX5_append 27 = .ok (.iload_n 2, 1) := by decide +kernel
theorem dX5_append_28 : decode cX5_append 28 = .ok (.iastore, 1) := by decide +kernel
theorem dX5_append_29 : decode cX5_append 29 = .ok (.aload_n 0, 1) := by decide +kernel
theorem dX5_append_30 : decode cX5_append 30 = .ok (.getfield 18, 3) := by decide +kernel
theorem dX5_append_33 : decode cX5_append 33 = .ok (.aload_n 0, 1) := by decide +kernel
theorem dX5_append_34 : decode cX5_append 34 = .ok (.getfield 21, 3) := by decide +kernel
theorem dX5_append_37 : decode cX5_append 37 = .ok (.iload_n 3, 1) := by decide +kernel
theorem dX5_append_38 : decode cX5_append 38 = .ok (.iastore, 1) := by decide +kernel
theorem dX5_append_39 : decode cX5_append 39 = .ok (.aload_n 0, 1) := by decide +kernel
theorem dX5_append_40 : decode cX5_append 40 = .ok (.dup, 1) := by decide +kernel
theorem dX5_append_41 : decode cX5_append 41 = .ok (.getfield 21, 3) := by decide +kernel
theorem dX5_append_44 : decode cX5_append 44 = .ok (.iconst 1, 1) := by decide +kernel
theorem dX5_append_45 : decode cX5_append 45 = .ok (.iadd, 1) := by decide +kernel
theorem dX5_append_46 : decode cX5_append 46 = .ok (.putfield 21, 3) := by decide +kernel
theorem dX5_append_49 : decode cX5_append 49 = .ok (.aload_n 0, 1) := by decide +kernel
theorem dX5_append_50 : decode cX5_append 50 = .ok (.getfield 21, 3) := by decide +kernel
theorem dX5_append_53 : decode cX5_append 53 = .ok (.ireturn, 1) := by decide +kernel
theorem dX5_offByMore_0 : decode cX5_offByMore 0 = .ok (.iconst 0, 1) := by decide +kernel
theorem dX5_offByMore_1 : decode cX5_offByMore 1 = .ok (.istore_n 3, 1) := by decide +kernel
theorem dX5_offByMore_2 : decode cX5_offByMore 2 = .ok (.iconst 0, 1) := by decide +kernel
theorem dX5_offByMore_3 : decode cX5_offByMore 3 = .ok (.istore 4, 2) := by decide +kernel
theorem dX5_offByMore_5 : decode cX5_offByMore 5 = .ok (.iload 4, 2) := by decide +kernel
theorem dX5_offByMore_7 : decode cX5_offByMore 7 = .ok (.aload_n 0, 1) := by decide +kernel
theorem dX5_offByMore_8 : decode cX5_offByMore 8 = .ok (.getfield 21, 3) := by decide +kernel
theorem dX5_offByMore_11 : decode cX5_offByMore 11 = .ok (.if_icmp .ge 57, 3) := by decide +kernel
theorem dX5_offByMore_14 : decode cX5_offByMore 14 = .ok (.aload_n 0, 1) := by decide +kernel
theorem dX5_offByMore_15 : decode cX5_offByMore 15 = .ok (.getfield 18, 3) := by decide +kernel
theorem dX5_offByMore_18 : decode cX5_offByMore 18 = .ok (.iload 4, 2) := by decide +kernel
theorem dX5_offByMore_20 : decode cX5_offByMore 20 = .ok (.iaload, 1) := by decide +kernel
theorem dX5_offByMore_21 : decode cX5_offByMore 21 = .ok (.aload_n 1, 1) := by decide +kernel
theorem dX5_offByMore_22 : decode cX5_offByMore 22 = .ok (.aload_n 0, 1) := by decide +kernel
theorem dX5_offByMore_23 : decode cX5_offByMore 23 = .ok (.getfield 9, 3) := by decide +kernel
theorem dX5_offByMore_26 : decode cX5_offByMore 26 = .ok (.iload 4, 2) := by decide +kernel
theorem dX5_offByMore_28 : decode cX5_offByMore 28 = .ok (.iaload, 1) := by decide +kernel
theorem dX5_offByMore_29 : decode cX5_offByMore 29 = .ok (.aload_n 0, 1) := by decide +kernel
theorem dX5_offByMore_30 : decode cX5_offByMore 30 = .ok (.getfield 15, 3) := by decide +kernel
theorem dX5_offByMore_33 : decode cX5_offByMore 33 = .ok (.iload 4, 2) := by decide +kernel
theorem dX5_offByMore_35 : decode cX5_offByMore 35 = .ok (.iaload, 1) := by decide +kernel
theorem dX5_offByMore_36 : decode cX5_offByMore 36 = .ok (.invokevirtual 25, 3) := by decide +kernel
theorem dX5_offByMore_39 : decode cX5_offByMore 39 = .ok (.isub, 1) := by decide +kernel
theorem dX5_offByMore_40 : decode cX5_offByMore 40 = .ok (.invokestatic 31, 3) := by decide +kernel
theorem dX5_offByMore_43 : decode cX5_offByMore 43 = .ok (.istore 5, 2) := by decide +kernel
theorem dX5_offByMore_45 : decode cX5_offByMore 45 = .ok (.iload_n 3, 1) := by decide +kernel
theorem dX5_offByMore_46 : decode cX5_offByMore 46 = .ok (.iload 5, 2) := by decide +kernel
theorem dX5_offByMore_48 : decode cX5_offByMore 48 = .ok (.iload_n 2, 1) := by decide +kernel
theorem dX5_offByMore_49 : decode cX5_offByMore 49 = .ok (.if_icmp .le 10, 3) := by decide +kernel
theorem dX5_offByMore_52 : decode cX5_offByMore 52 = .ok (.iconst 1, 1) := by decide +kernel
theorem dX5_offByMore_53 : decode cX5_offByMore 53 = .ok (.iload 4, 2) := by decide +kernel
theorem dX5_offByMore_55 : decode cX5_offByMore 55 = .ok (.ishl, 1) := by decide +kernel
theorem dX5_offByMore_56 : decode cX5_offByMore 56 = .ok (.goto 4, 3) := by decide +kernel
theorem dX5_offByMore_59 : decode cX5_offByMore 59 = .ok (.iconst 0, 1) := by decide +kernel
theorem dX5_offByMore_60 : decode cX5_offByMore 60 = .ok (.ior, 1) := by decide +kernel
theorem dX5_offByMore_61 : decode cX5_offByMore 61 = .ok (.istore_n 3, 1) := by decide +kernel
theorem dX5_offByMore_62 : decode cX5_offByMore 62 = .ok (.iinc 4 1, 3) := by decide +kernel
theorem dX5_offByMore_65 : decode cX5_offByMore 65 = .ok (.goto (-60), 3) := by decide +kernel
theorem dX5_offByMore_68 : decode cX5_offByMore 68 = .ok (.iload_n 3, 1) := by decide +kernel
theorem dX5_offByMore_69 : decode cX5_offByMore 69 = .ok (.ireturn, 1) := by decide +kernel
theorem dX5_earliestBelow_0 : decode cX5_earliestBelow 0 = .ok (.bipush (-2), 2) := by decide +kernel
theorem dX5_earliestBelow_2 : decode cX5_earliestBelow 2 = .ok (.istore_n 2, 1) := by decide +kernel
theorem dX5_earliestBelow_3 : decode cX5_earliestBelow 3 = .ok (.ldc 37, 2) := by decide +kernel
theorem dX5_earliestBelow_5 : decode cX5_earliestBelow 5 = .ok (.istore_n 3, 1) := by decide +kernel
theorem dX5_earliestBelow_6 : decode cX5_earliestBelow 6 = .ok (.iconst 0, 1) := by decide +kernel
theorem dX5_earliestBelow_7 : decode cX5_earliestBelow 7 = .ok (.istore 4, 2) := by decide +kernel
theorem dX5_earliestBelow_9 : decode cX5_earliestBelow 9 = .ok (.iload 4, 2) := by decide +kernel
theorem dX5_earliestBelow_11 : decode cX5_earliestBelow 11 = .ok (.aload_n 0, 1) := by decide +kernel
theorem dX5_earliestBelow_12 : decode cX5_earliestBelow 12 = .ok (.getfield 21, 3) := by decide +kernel
theorem dX5_earliestBelow_15 : decode cX5_earliestBelow 15 = .ok (.if_icmp .ge 42, 3) := by decide +kernel
theorem dX5_earliestBelow_18 : decode cX5_earliestBelow 18 = .ok (.aload_n 0, 1) := by decide +kernel
theorem dX5_earliestBelow_19 : decode cX5_earliestBelow 19 = .ok (.getfield 18, 3) := by decide +kernel
theorem dX5_earliestBelow_22 : decode cX5_earliestBelow 22 = .ok (.iload 4, 2) := by decide +kernel
theorem dX5_earliestBelow_24 : decode cX5_earliestBelow 24 = .ok (.iaload, 1) := by decide +kernel
theorem dX5_earliestBelow_25 : decode cX5_earliestBelow 25 = .ok (.iload_n 1, 1) := by decide +kernel
theorem dX5_earliestBelow_26 : decode cX5_earliestBelow 26 = .ok (.if_icmp .ge 25, 3) := by decide +kernel
theorem dX5_earliestBelow_29 : decode cX5_earliestBelow 29 = .ok (.aload_n 0, 1) := by decide +kernel
theorem dX5_earliestBelow_30 : decode cX5_earliestBelow 30 = .ok (.getfield 15, 3) := by decide +kernel
theorem dX5_earliestBelow_33 : decode cX5_earliestBelow 33 = .ok (.iload 4, 2) := by decide +kernel
theorem dX5_earliestBelow_35 : decode cX5_earliestBelow 35 = .ok (.iaload, 1) := by decide +kernel
theorem dX5_earliestBelow_36 : decode cX5_earliestBelow 36 = .ok (.iload_n 3, 1) := by decide +kernel
theorem dX5_earliestBelow_37 : decode cX5_earliestBelow 37 = .ok (.if_icmp .ge 14, 3) := by decide +kernel
theorem dX5_earliestBelow_40 : decode cX5_earliestBelow 40 = .ok (.iload 4, 2) := by decide +kernel
theorem dX5_earliestBelow_42 : decode cX5_earliestBelow 42 = .ok (.istore_n 2, 1) := by decide +kernel
theorem dX5_earliestBelow_43 : decode cX5_earliestBelow 43 = .ok (.aload_n 0, 1) := by decide +kernel
theorem dX5_earliestBelow_44 : decode cX5_earliestBelow 44 = .ok (.getfield 15, 3) := by decide +kernel
theorem dX5_earliestBelow_47 : decode cX5_earliestBelow 47 = .ok (.iload 4, 2) := by decide +kernel
theorem dX5_earliestBelow_49 : decode cX5_earliestBelow 49 = .ok (.iaload, 1) := by decide +kernel
theorem dX5_earliestBelow_50 : decode cX5_earliestBelow 50 = .ok (.istore_n 3, 1) := by decide +kernel
theorem dX5_earliestBelow_51 : decode cX5_earliestBelow 51 = .ok (.iinc 4 1, 3) := by decide +kernel
theorem dX5_earliestBelow_54 : decode cX5_earliestBelow 54 = .ok (.goto (-45), 3) := by decide +kernel
theorem dX5_earliestBelow_57 : decode cX5_earliestBelow 57 = .ok (.iload_n 2, 1) := by decide +kernel
theorem dX5_earliestBelow_58 : decode cX5_earliestBelow 58 = .ok (.ireturn, 1) := by decide +kernel
theorem dX6_init_0 : decode cX6_init 0 = .ok (.aload_n 0, 1) := by decide +kernel
theorem dX6_init_1 : decode cX6_init 1 = .ok (.invokespecial 3, 3) := by decide +kernel
theorem dX6_init_4 : decode cX6_init 4 = .ok (.aload_n 0, 1) := by decide +kernel
theorem dX6_init_5 : decode cX6_init 5 = .ok (.iconst 3, 1) := by decide +kernel
theorem dX6_init_6 : decode cX6_init 6 = .ok (.bipush 6, 2) := by decide +kernel
theorem dX6_init_8 : decode cX6_init 8 = .ok (.multianewarray 9 2, 4) := by decide +kernel
theorem dX6_init_12 : decode cX6_init 12 = .ok (.putfield 11, 3) := by decide +kernel
theorem dX6_init_15 : decode cX6_init 15 = .ok (.aload_n 0, 1) := by decide +kernel
theorem dX6_init_16 : decode cX6_init 16 = .ok (.iconst 3, 1) := by decide +kernel
theorem dX6_init_17 : decode cX6_init 17 = .ok (.newarray .int, 2) := by decide +kernel
theorem dX6_init_19 : decode cX6_init 19 = .ok (.putfield 16, 3) := by decide +kernel
theorem dX6_init_22 : decode cX6_init 22 = .ok (.aload_n 0, 1) := by decide +kernel
theorem dX6_init_23 : decode cX6_init 23 = .ok (.bipush 6, 2) := by decide +kernel
theorem dX6_init_25 : decode cX6_init 25 = .ok (.newarray .int, 2) := by decide +kernel
theorem dX6_init_27 : decode cX6_init 27 = .ok (.putfield 20, 3) := by decide +kernel
theorem dX6_init_30 : decode cX6_init 30 = .ok (.return_, 1) := by decide +kernel
theorem dX6_clear_0 : decode cX6_clear 0 = .ok (.aload_n 0, 1) := by decide +kernel
theorem dX6_clear_1 : decode cX6_clear 1 = .ok (.getfield 16, 3) := by decide +kernel
theorem dX6_clear_4 : decode cX6_clear 4 = .ok (.iconst 0, 1) := by decide +kernel
theorem dX6_clear_5 : decode cX6_clear 5 = .ok (.invokestatic 23, 3) := by decide +kernel
theorem dX6_clear_8 : decode cX6_clear 8 = .ok (.aload_n 0, 1) := by decide +kernel
theorem dX6_clear_9 : decode cX6_clear 9 = .ok (.iconst 0, 1) := by decide +kernel
theorem dX6_clear_10 : decode cX6_clear 10 = .ok (.putfield 29, 3) := by decide +kernel
theorem dX6_clear_13 : decode cX6_clear 13 = .ok (.return_, 1) := by decide +kernel
theorem dX6_count_0 : decode cX6_count 0 = .ok (.iload_n 1, 1) := by decide +kernel
theorem dX6_count_1 : decode cX6_count 1 = .ok (.ifCond .lt 17, 3) := by decide +kernel
theorem dX6_count_4 : decode cX6_count 4 = .ok (.iload_n 1, 1) := by decide +kernel
theorem dX6_count_5 : decode cX6_count 5 = .ok (.iconst 3, 1) := by decide +kernel
theorem dX6_count_6 : decode cX6_count 6 = .ok (.if_icmp .ge 12, 3) := by decide +kernel
theorem dX6_count_9 : decode cX6_count 9 = .ok (.aload_n 0, 1) := by decide +kernel
theorem dX6_count_10 : decode cX6_count 10 = .ok (.getfield 16, 3) := by decide +kernel
theorem dX6_count_13 : decode cX6_count 13 = .ok (.iload_n 1, 1) := by decide +kernel
theorem dX6_count_14 : decode cX6_count 14 = .ok (.iaload, 1) := by decide +kernel
theorem dX6_count_15 : decode cX6_count 15 = .ok (.goto 4, 3) := by decide +kernel
theorem dX6_count_18 : decode cX6_count 18 = .ok (.iconst 0, 1) := by decide +kernel
theorem dX6_count_19 : decode cX6_count 19 = .ok (.ireturn, 1) := by decide +kernel
theorem dX6_houseAt_0 : decode cX6_houseAt 0 = .ok (.iload_n 2, 1) := by decide +kernel
theorem dX6_houseAt_1 : decode cX6_houseAt 1 = .ok (.ifCond .lt 23, 3) := by decide +kernel
theorem dX6_houseAt_4 : decode cX6_houseAt 4 = .ok (.iload_n 2, 1) := by decide +kernel
theorem dX6_houseAt_5 : decode cX6_houseAt 5 = .ok (.aload_n 0, 1) := by decide +kernel
theorem dX6_houseAt_6 : decode cX6_houseAt 6 = .ok (.iload_n 1, 1) := by decide +kernel
theorem dX6_houseAt_7 : decode cX6_houseAt 7 = .ok (.invokevirtual 33, 3) := by decide +kernel
theorem dX6_houseAt_10 : decode cX6_houseAt 10 = .ok (.if_icmp .ge 14, 3) := by decide +kernel
theorem dX6_houseAt_13 : decode cX6_houseAt 13 = .ok (.aload_n 0, 1) := by decide +kernel
theorem dX6_houseAt_14 : decode cX6_houseAt 14 = .ok (.getfield 11, 3) := by decide +kernel
theorem dX6_houseAt_17 : decode cX6_houseAt 17 = .ok (.iload_n 1, 1) := by decide +kernel
theorem dX6_houseAt_18 : decode cX6_houseAt 18 = .ok (.aaload, 1) := by decide +kernel
theorem dX6_houseAt_19 : decode cX6_houseAt 19 = .ok (.iload_n 2, 1) := by decide +kernel
theorem dX6_houseAt_20 : decode cX6_houseAt 20 = .ok (.iaload, 1) := by decide +kernel
theorem dX6_houseAt_21 : decode cX6_houseAt 21 = .ok (.goto 4, 3) := by decide +kernel
theorem dX6_houseAt_24 : decode cX6_houseAt 24 = .ok (.iconst (-1), 1) := by decide +kernel
theorem dX6_houseAt_25 : decode cX6_houseAt 25 = .ok (.ireturn, 1) := by decide +kernel
theorem dX6_append_0 : decode cX6_append 0 = .ok (.aload_n 0, 1) := by decide +kernel
theorem dX6_append_1 : decode cX6_append 1 = .ok (.iload_n 1, 1) := by decide +kernel
theorem dX6_append_2 : decode cX6_append 2 = .ok (.invokevirtual 33, 3) := by decide +kernel
theorem dX6_append_5 : decode cX6_append 5 = .ok (.istore_n 3, 1) := by decide +kernel
theorem dX6_append_6 : decode cX6_append 6 = .ok (.iload_n 1, 1) := by decide +kernel
theorem dX6_append_7 : decode cX6_append 7 = .ok (.iconst 0, 1) := by decide +kernel
theorem dX6_append_8 : decode cX6_append 8 = .ok (.iconst 2, 1) := by decide +kernel
theorem dX6_append_9 : decode cX6_append 9 = .ok (.invokestatic 37, 3) := by decide +kernel
theorem dX6_append_12 : decode cX6_append 12 = .ok (.ifCond .eq 37, 3) := by decide +kernel
theorem dX6_append_15 : decode cX6_append 15 = .ok (.iload_n 2, 1) := by decide +kernel
theorem dX6_append_16 : decode cX6_append 16 = .ok (.iconst 0, 1) := by decide +kernel
theorem dX6_append_17 : decode cX6_append 17 = .ok (.iconst 5, 1) := by decide +kernel
theorem dX6_append_18 : decode cX6_append 18 = .ok (.invokestatic 37, 3) := by decide +kernel
theorem dX6_append_21 : decode cX6_append 21 = .ok (.ifCond .eq 28, 3) := by decide +kernel
theorem dX6_append_24 : decode cX6_append 24 = .ok (.iload_n 3, 1) := by decide +kernel
theorem dX6_append_25 : decode cX6_append 25 = .ok (.bipush 6, 2) := by decide +kernel
theorem dX6_append_27 : decode cX6_append 27 = .ok (.if_icmp .ge 22, 3) := by decide +kernel
theorem dX6_append_30 : decode cX6_append 30 = .ok (.aload_n 0, 1) := by decide +kernel
theorem dX6_append_31 : decode cX6_append 31 = .ok (.getfield 11, 3) := by decide +kernel
theorem dX6_append_34 : decode cX6_append 34 = .ok (.iload_n 1, 1) := by decide +kernel
theorem dX6_append_35 : decode cX6_append 35 = .ok (.aaload, 1) := by decide +kernel
theorem dX6_append_36 : decode cX6_append 36 = .ok (.iload_n 3, 1) := by decide +kernel
theorem dX6_append_37 : decode cX6_append 37 = .ok (.iload_n 2, 1) := by decide +kernel
theorem dX6_append_38 : decode cX6_append 38 = .ok (.iastore, 1) := by decide +kernel
theorem dX6_append_39 : decode cX6_append 39 = .ok (.aload_n 0, 1) := by decide +kernel
theorem dX6_append_40 : decode cX6_append 40 = .ok (.getfield 16, 3) := by decide +kernel
theorem dX6_append_43 : decode cX6_append 43 = .ok (.iload_n 1, 1) := by decide +kernel
theorem dX6_append_44 : decode cX6_append 44 = .ok (.dup2, 1) := by decide +kernel
theorem dX6_append_45 : decode cX6_append 45 = .ok (.iaload, 1) := by decide +kernel
theorem dX6_append_46 : decode cX6_append 46 = .ok (.iconst 1, 1) := by decide +kernel
theorem dX6_append_47 : decode cX6_append 47 = .ok (.iadd, 1) := by decide +kernel
theorem dX6_append_48 : decode cX6_append 48 = .ok (.iastore, 1) := by decide +kernel
theorem dX6_append_49 : decode cX6_append 49 = .ok (.aload_n 0, 1) := by decide +kernel
theorem dX6_append_50 : decode cX6_append 50 = .ok (.iload_n 1, 1) := by decide +kernel
theorem dX6_append_51 : decode cX6_append 51 = .ok (.invokevirtual 33, 3) := by decide +kernel
theorem dX6_append_54 : decode cX6_append 54 = .ok (.ireturn, 1) := by decide +kernel
theorem dX6_clearRound_0 : decode cX6_clearRound 0 = .ok (.aload_n 0, 1) := by decide +kernel
theorem dX6_clearRound_1 : decode cX6_clearRound 1 = .ok (.iload_n 1, 1) := by decide +kernel
theorem dX6_clearRound_2 : decode cX6_clearRound 2 = .ok (.invokevirtual 33, 3) := by decide +kernel
theorem dX6_clearRound_5 : decode cX6_clearRound 5 = .ok (.istore_n 2, 1) := by decide +kernel
theorem dX6_clearRound_6 : decode cX6_clearRound 6 = .ok (.iload_n 2, 1) := by decide +kernel
theorem dX6_clearRound_7 : decode cX6_clearRound 7 = .ok (.ifCond .le 10, 3) := by decide +kernel
theorem dX6_clearRound_10 : decode cX6_clearRound 10 = .ok (.aload_n 0, 1) := by decide +kernel
theorem dX6_clearRound_11 : decode cX6_clearRound 11 = .ok (.getfield 16, 3) := by decide +kernel
theorem dX6_clearRound_14 : decode cX6_clearRound 14 = .ok (.iload_n 1, 1) := by decide +kernel
theorem dX6_clearRound_15 : decode cX6_clearRound 15 = .ok (.iconst 0, 1) := by decide +kernel
theorem dX6_clearRound_16 : decode cX6_clearRound 16 = .ok (.iastore, 1) := by decide +kernel
theorem dX6_clearRound_17 : decode cX6_clearRound 17 = .ok (.iload_n 2, 1) := by decide +kernel
theorem dX6_clearRound_18 : decode cX6_clearRound 18 = .ok (.ireturn, 1) := by decide +kernel
theorem dX6_carOf_0 : decode cX6_carOf 0 = .ok (.iconst 0, 1) := by decide +kernel
theorem dX6_carOf_1 : decode cX6_carOf 1 = .ok (.istore_n 2, 1) := by decide +kernel
theorem dX6_carOf_2 : decode cX6_carOf 2 = .ok (.iload_n 2, 1) := by decide +kernel
theorem dX6_carOf_3 : decode cX6_carOf 3 = .ok (.iconst 3, 1) := by decide +kernel
theorem dX6_carOf_4 : decode cX6_carOf 4 = .ok (.if_icmp .ge 41, 3) := by decide +kernel
theorem dX6_carOf_7 : decode cX6_carOf 7 = .ok (.iconst 0, 1) := by decide +kernel
theorem dX6_carOf_8 : decode cX6_carOf 8 = .ok (.istore_n 3, 1) := by decide +kernel
theorem dX6_carOf_9 : decode cX6_carOf 9 = .ok (.iload_n 3, 1) := by decide +kernel
theorem dX6_carOf_10 : decode cX6_carOf 10 = .ok (.aload_n 0, 1) := by decide +kernel
theorem dX6_carOf_11 : decode cX6_carOf 11 = .ok (.getfield 16, 3) := by decide +kernel
theorem dX6_carOf_14 : decode cX6_carOf 14 = .ok (.iload_n 2, 1) := by decide +kernel
theorem dX6_carOf_15 : decode cX6_carOf 15 = .ok (.iaload, 1) := by decide +kernel
theorem dX6_carOf_16 : decode cX6_carOf 16 = .ok (.if_icmp .ge 23, 3) := by decide +kernel
theorem dX6_carOf_19 : decode cX6_carOf 19 = .ok (.aload_n 0, 1) := by decide +kernel
theorem dX6_carOf_20 : decode cX6_carOf 20 = .ok (.getfield 11, 3) := by decide +kernel
theorem dX6_carOf_23 : decode cX6_carOf 23 = .ok (.iload_n 2, 1) := by decide +kernel
theorem dX6_carOf_24 : decode cX6_carOf 24 = .ok (.aaload, 1) := by decide +kernel
theorem dX6_carOf_25 : decode cX6_carOf 25 = .ok (.iload_n 3, 1) := by decide +kernel
theorem dX6_carOf_26 : decode cX6_carOf 26 = .ok (.iaload, 1) := by decide +kernel
theorem dX6_carOf_27 : decode cX6_carOf 27 = .ok (.iload_n 1, 1) := by decide +kernel
theorem dX6_carOf_28 : decode cX6_carOf 28 = .ok (.if_icmp .ne 5, 3) := by decide +kernel
theorem dX6_carOf_31 : decode cX6_carOf 31 = .ok (.iload_n 2, 1) := by decide +kernel
theorem dX6_carOf_32 : decode cX6_carOf 32 = .ok (.ireturn, 1) := by decide +kernel
theorem dX6_carOf_33 : decode cX6_carOf 33 = .ok (.iinc 3 1, 3) := by decide +kernel
theorem dX6_carOf_36 : decode cX6_carOf 36 = .ok (.goto (-27), 3) := by decide +kernel
theorem dX6_carOf_39 : decode cX6_carOf 39 = .ok (.iinc 2 1, 3) := by decide +kernel
theorem dX6_carOf_42 : decode cX6_carOf 42 = .ok (.goto (-40), 3) := by decide +kernel
theorem dX6_carOf_45 : decode cX6_carOf 45 = .ok (.iconst (-1), 1) := by decide +kernel
theorem dX6_carOf_46 : decode cX6_carOf 46 = .ok (.ireturn, 1) := by decide +kernel
theorem dX6_housesOf_0 : decode cX6_housesOf 0 = .ok (.iconst 0, 1) := by decide +kernel
theorem dX6_housesOf_1 : decode cX6_housesOf 1 = .ok (.istore_n 2, 1) := by decide +kernel
theorem dX6_housesOf_2 : decode cX6_housesOf 2 = .ok (.iconst 0, 1) := by decide +kernel
theorem dX6_housesOf_3 : decode cX6_housesOf 3 = .ok (.istore_n 3, 1) := by decide +kernel
theorem dX6_housesOf_4 : decode cX6_housesOf 4 = .ok (.iload_n 3, 1) := by decide +kernel
theorem dX6_housesOf_5 : decode cX6_housesOf 5 = .ok (.aload_n 0, 1) := by decide +kernel
theorem dX6_housesOf_6 : decode cX6_housesOf 6 = .ok (.iload_n 1, 1) := by decide +kernel
theorem dX6_housesOf_7 : decode cX6_housesOf 7 = .ok (.invokevirtual 33, 3) := by decide +kernel
theorem dX6_housesOf_10 : decode cX6_housesOf 10 = .ok (.if_icmp .ge 22, 3) := by decide +kernel
theorem dX6_housesOf_13 : decode cX6_housesOf 13 = .ok (.iload_n 2, 1) := by decide +kernel
theorem dX6_housesOf_14 : decode cX6_housesOf 14 = .ok (.iconst 1, 1) := by decide +kernel
theorem dX6_housesOf_15 : decode cX6_housesOf 15 = .ok (.aload_n 0, 1) := by decide +kernel
theorem dX6_housesOf_16 : decode cX6_housesOf 16 = .ok (.getfield 11, 3) := by decide +kernel
theorem dX6_housesOf_19 : decode cX6_housesOf 19 = .ok (.iload_n 1, 1) := by decide +kernel
theorem dX6_housesOf_20 : decode cX6_housesOf 20 = .ok (.aaload, 1) := by decide +kernel
theorem dX6_housesOf_21 : decode cX6_housesOf 21 = .ok (.iload_n 3, 1) := by decide +kernel
theorem dX6_housesOf_22 : decode cX6_housesOf 22 = .ok (.iaload, 1) := by decide +kernel
theorem dX6_housesOf_23 : decode cX6_housesOf 23 = .ok (.ishl, 1) := by decide +kernel
theorem dX6_housesOf_24 : decode cX6_housesOf 24 = .ok (.ior, 1) := by decide +kernel
theorem dX6_housesOf_25 : decode cX6_housesOf 25 = .ok (.istore_n 2, 1) := by decide +kernel
theorem dX6_housesOf_26 : decode cX6_housesOf 26 = .ok (.iinc 3 1, 3) := by decide +kernel
theorem dX6_housesOf_29 : decode cX6_housesOf 29 = .ok (.goto (-25), 3) := by decide +kernel
theorem dX6_housesOf_32 : decode cX6_housesOf 32 = .ok (.iload_n 2, 1) := by decide +kernel
theorem dX6_housesOf_33 : decode cX6_housesOf 33 = .ok (.ireturn, 1) := by decide +kernel
theorem dX6_arrival_0 : decode cX6_arrival 0 = .ok (.aload_n 0, 1) := by decide +kernel
theorem dX6_arrival_1 : decode cX6_arrival 1 = .ok (.aload_n 1, 1) := by decide +kernel
theorem dX6_arrival_2 : decode cX6_arrival 2 = .ok (.aload_n 0, 1) := by decide +kernel
theorem dX6_arrival_3 : decode cX6_arrival 3 = .ok (.iload_n 2, 1) := by decide +kernel
theorem dX6_arrival_4 : decode cX6_arrival 4 = .ok (.invokevirtual 41, 3) := by decide +kernel
theorem dX6_arrival_7 : decode cX6_arrival 7 = .ok (.aload_n 0, 1) := by decide +kernel
theorem dX6_arrival_8 : decode cX6_arrival 8 = .ok (.getfield 29, 3) := by decide +kernel
theorem dX6_arrival_11 : decode cX6_arrival 11 = .ok (.invokevirtual 44, 3) := by decide +kernel
theorem dX6_arrival_14 : decode cX6_arrival 14 = .ok (.pop, 1) := by decide +kernel
theorem dX6_arrival_15 : decode cX6_arrival 15 = .ok (.iload_n 2, 1) := by decide +kernel
theorem dX6_arrival_16 : decode cX6_arrival 16 = .ok (.iconst 0, 1) := by decide +kernel
theorem dX6_arrival_17 : decode cX6_arrival 17 = .ok (.iconst 5, 1) := by decide +kernel
theorem dX6_arrival_18 : decode cX6_arrival 18 = .ok (.invokestatic 37, 3) := by decide +kernel
theorem dX6_arrival_21 : decode cX6_arrival 21 = .ok (.ifCond .eq 12, 3) := by decide +kernel
theorem dX6_arrival_24 : decode cX6_arrival 24 = .ok (.aload_n 0, 1) := by decide +kernel
theorem dX6_arrival_25 : decode cX6_arrival 25 = .ok (.getfield 20, 3) := by decide +kernel
theorem dX6_arrival_28 : decode cX6_arrival 28 = .ok (.iload_n 2, 1) := by decide +kernel
theorem dX6_arrival_29 : decode cX6_arrival 29 = .ok (.iaload, 1) := by decide +kernel
theorem dX6_arrival_30 : decode cX6_arrival 30 = .ok (.goto 4, 3) := by decide +kernel
theorem dX6_arrival_33 : decode cX6_arrival 33 = .ok (.iconst (-1), 1) := by decide +kernel
theorem dX6_arrival_34 : decode cX6_arrival 34 = .ok (.ireturn, 1) := by decide +kernel
theorem dX6_follow_0 : decode cX6_follow 0 = .ok (.iconst 0, 1) := by decide +kernel
theorem dX6_follow_1 : decode cX6_follow 1 = .ok (.istore 4, 2) := by decide +kernel
theorem dX6_follow_3 : decode cX6_follow 3 = .ok (.aload_n 1, 1) := by decide +kernel
theorem dX6_follow_4 : decode cX6_follow 4 = .ok (.iload_n 2, 1) := by decide +kernel
theorem dX6_follow_5 : decode cX6_follow 5 = .ok (.invokevirtual 48, 3) := by decide +kernel
theorem dX6_follow_8 : decode cX6_follow 8 = .ok (.istore 5, 2) := by decide +kernel
theorem dX6_follow_10 : decode cX6_follow 10 = .ok (.aload_n 1, 1) := by decide +kernel
theorem dX6_follow_11 : decode cX6_follow 11 = .ok (.iconst 4, 1) := by decide +kernel
theorem dX6_follow_12 : decode cX6_follow 12 = .ok (.iload_n 2, 1) := by decide +kernel
theorem dX6_follow_13 : decode cX6_follow 13 = .ok (.iconst 1, 1) := by decide +kernel
theorem dX6_follow_14 : decode cX6_follow 14 = .ok (.invokevirtual 53, 3) := by decide +kernel
theorem dX6_follow_17 : decode cX6_follow 17 = .ok (.istore 6, 2) := by decide +kernel
theorem dX6_follow_19 : decode cX6_follow 19 = .ok (.iconst 0, 1) := by decide +kernel
theorem dX6_follow_20 : decode cX6_follow 20 = .ok (.istore 7, 2) := by decide +kernel
theorem dX6_follow_22 : decode cX6_follow 22 = .ok (.iload 7, 2) := by decide +kernel
theorem dX6_follow_24 : decode cX6_follow 24 = .ok (.aload_n 0, 1) := by decide +kernel
theorem dX6_follow_25 : decode cX6_follow 25 = .ok (.iload_n 2, 1) := by decide +kernel
theorem dX6_follow_26 : decode cX6_follow 26 = .ok (.invokevirtual 33, 3) := by decide +kernel
theorem dX6_follow_29 : decode cX6_follow 29 = .ok (.if_icmp .ge 109, 3) := by decide +kernel
theorem dX6_follow_32 : decode cX6_follow 32 = .ok (.aload_n 0, 1) := by decide +kernel
theorem dX6_follow_33 : decode cX6_follow 33 = .ok (.getfield 11, 3) := by decide +kernel
theorem dX6_follow_36 : decode cX6_follow 36 = .ok (.iload_n 2, 1) := by decide +kernel
theorem dX6_follow_37 : decode cX6_follow 37 = .ok (.aaload, 1) := by decide +kernel
theorem dX6_follow_38 : decode cX6_follow 38 = .ok (.iload 7, 2) := by decide +kernel
theorem dX6_follow_40 : decode cX6_follow 40 = .ok (.iaload, 1) := by decide +kernel
theorem dX6_follow_41 : decode cX6_follow 41 = .ok (.istore 8, 2) := by decide +kernel
theorem dX6_follow_43 : decode cX6_follow 43 = .ok (.aload_n 1, 1) := by decide +kernel
theorem dX6_follow_44 : decode cX6_follow 44 = .ok (.iconst 3, 1) := by decide +kernel
theorem dX6_follow_45 : decode cX6_follow 45 = .ok (.iload 8, 2) := by decide +kernel
theorem dX6_follow_47 : decode cX6_follow 47 = .ok (.iconst 0, 1) := by decide +kernel
theorem dX6_follow_48 : decode cX6_follow 48 = .ok (.invokevirtual 53, 3) := by decide +kernel
theorem dX6_follow_51 : decode cX6_follow 51 = .ok (.istore 9, 2) := by decide +kernel
theorem dX6_follow_53 : decode cX6_follow 53 = .ok (.iload 6, 2) := by decide +kernel
theorem dX6_follow_55 : decode cX6_follow 55 = .ok (.aload_n 1, 1) := by decide +kernel
theorem dX6_follow_56 : decode cX6_follow 56 = .ok (.iload 5, 2) := by decide +kernel
theorem dX6_follow_58 : decode cX6_follow 58 = .ok (.iload 9, 2) := by decide +kernel
theorem dX6_follow_60 : decode cX6_follow 60 = .ok (.invokevirtual 57, 3) := by decide +kernel
theorem dX6_follow_63 : decode cX6_follow 63 = .ok (.iadd, 1) := by decide +kernel
theorem dX6_follow_64 : decode cX6_follow 64 = .ok (.istore 6, 2) := by decide +kernel
theorem dX6_follow_66 : decode cX6_follow 66 = .ok (.iload 9, 2) := by decide +kernel
theorem dX6_follow_68 : decode cX6_follow 68 = .ok (.istore 5, 2) := by decide +kernel
theorem dX6_follow_70 : decode cX6_follow 70 = .ok (.aload_n 0, 1) := by decide +kernel
theorem dX6_follow_71 : decode cX6_follow 71 = .ok (.getfield 20, 3) := by decide +kernel
theorem dX6_follow_74 : decode cX6_follow 74 = .ok (.iload 8, 2) := by decide +kernel
theorem dX6_follow_76 : decode cX6_follow 76 = .ok (.iload 6, 2) := by decide +kernel
theorem dX6_follow_78 : decode cX6_follow 78 = .ok (.iastore, 1) := by decide +kernel
theorem dX6_follow_79 : decode cX6_follow 79 = .ok (.aload_n 1, 1) := by decide +kernel
theorem dX6_follow_80 : decode cX6_follow 80 = .ok (.iload_n 2, 1) := by decide +kernel
theorem dX6_follow_81 : decode cX6_follow 81 = .ok (.iload 6, 2) := by decide +kernel
theorem dX6_follow_83 : decode cX6_follow 83 = .ok (.invokevirtual 61, 3) := by decide +kernel
theorem dX6_follow_86 : decode cX6_follow 86 = .ok (.ifCond .eq 12, 3) := by decide +kernel
theorem dX6_follow_89 : decode cX6_follow 89 = .ok (.iload 4, 2) := by decide +kernel
theorem dX6_follow_91 : decode cX6_follow 91 = .ok (.iconst 1, 1) := by decide +kernel
theorem dX6_follow_92 : decode cX6_follow 92 = .ok (.iload 8, 2) := by decide +kernel
theorem dX6_follow_94 : decode cX6_follow 94 = .ok (.ishl, 1) := by decide +kernel
theorem dX6_follow_95 : decode cX6_follow 95 = .ok (.ior, 1) := by decide +kernel
theorem dX6_follow_96 : decode cX6_follow 96 = .ok (.istore 4, 2) := by decide +kernel
theorem dX6_follow_98 : decode cX6_follow 98 = .ok (.iload 6, 2) := by decide +kernel
theorem dX6_follow_100 : decode cX6_follow 100 = .ok (.aload_n 1, 1) := by decide +kernel
theorem dX6_follow_101 : decode cX6_follow 101 = .ok (.iload_n 2, 1) := by decide +kernel
theorem dX6_follow_102 : decode cX6_follow 102 = .ok (.iload 8, 2) := by decide +kernel
theorem dX6_follow_104 : decode cX6_follow 104 = .ok (.invokevirtual 65, 3) := by decide +kernel
theorem dX6_follow_107 : decode cX6_follow 107 = .ok (.iadd, 1) := by decide +kernel
theorem dX6_follow_108 : decode cX6_follow 108 = .ok (.istore 6, 2) := by decide +kernel
theorem dX6_follow_110 : decode cX6_follow 110 = .ok (.iload_n 3, 1) := by decide +kernel
theorem dX6_follow_111 : decode cX6_follow 111 = .ok (.iconst 1, 1) := by decide +kernel
theorem dX6_follow_112 : decode cX6_follow 112 = .ok (.iload 8, 2) := by decide +kernel
theorem dX6_follow_114 : decode cX6_follow 114 = .ok (.ishl, 1) := by decide +kernel
theorem dX6_follow_115 : decode cX6_follow 115 = .ok (.iand, 1) := by decide +kernel
theorem dX6_follow_116 : decode cX6_follow 116 = .ok (.ifCond .eq 16, 3) := by decide +kernel
theorem dX6_follow_119 : decode cX6_follow 119 = .ok (.iload 6, 2) := by decide +kernel
theorem dX6_follow_121 : decode cX6_follow 121 = .ok (.aload_n 1, 1) := by decide +kernel
theorem dX6_follow_122 : decode cX6_follow 122 = .ok (.iconst 3, 1) := by decide +kernel
theorem dX6_follow_123 : decode cX6_follow 123 = .ok (.iload 8, 2) := by decide +kernel
theorem dX6_follow_125 : decode cX6_follow 125 = .ok (.iconst 3, 1) := by decide +kernel
theorem dX6_follow_126 : decode cX6_follow 126 = .ok (.invokevirtual 53, 3) := by decide +kernel
theorem dX6_follow_129 : decode cX6_follow 129 = .ok (.iadd, 1) := by decide +kernel
theorem dX6_follow_130 : decode cX6_follow 130 = .ok (.istore 6, 2) := by decide +kernel
theorem dX6_follow_132 : decode cX6_follow 132 = .ok (.iinc 7 1, 3) := by decide +kernel
theorem dX6_follow_135 : decode cX6_follow 135 = .ok (.goto (-113), 3) := by decide +kernel
theorem dX6_follow_138 : decode cX6_follow 138 = .ok (.iload 4, 2) := by decide +kernel
theorem dX6_follow_140 : decode cX6_follow 140 = .ok (.ireturn, 1) := by decide +kernel
theorem dX6_oddsOf_0 : decode cX6_oddsOf 0 = .ok (.lconst 0, 1) := by decide +kernel
theorem dX6_oddsOf_1 : decode cX6_oddsOf 1 = .ok (.lstore_n 3, 1) := by decide +kernel
theorem dX6_oddsOf_2 : decode cX6_oddsOf 2 = .ok (.iconst 0, 1) := by decide +kernel
theorem dX6_oddsOf_3 : decode cX6_oddsOf 3 = .ok (.istore 5, 2) := by decide +kernel
theorem dX6_oddsOf_5 : decode cX6_oddsOf 5 = .ok (.iload 5, 2) := by decide +kernel
theorem dX6_oddsOf_7 : decode cX6_oddsOf 7 = .ok (.iconst 1, 1) := by decide +kernel
theorem dX6_oddsOf_8 : decode cX6_oddsOf 8 = .ok (.aload_n 0, 1) := by decide +kernel
theorem dX6_oddsOf_9 : decode cX6_oddsOf 9 = .ok (.iload_n 2, 1) := by decide +kernel
theorem dX6_oddsOf_10 : decode cX6_oddsOf 10 = .ok (.invokevirtual 33, 3) := by decide +kernel
theorem dX6_oddsOf_13 : decode cX6_oddsOf 13 = .ok (.ishl, 1) := by decide +kernel
theorem dX6_oddsOf_14 : decode cX6_oddsOf 14 = .ok (.if_icmp .ge 131, 3) := by decide +kernel
theorem dX6_oddsOf_17 : decode cX6_oddsOf 17 = .ok (.iconst 0, 1) := by decide +kernel
theorem dX6_oddsOf_18 : decode cX6_oddsOf 18 = .ok (.istore 6, 2) := by decide +kernel
theorem dX6_oddsOf_20 : decode cX6_oddsOf 20 = .ok (.lconst 1, 1) := by decide +kernel
theorem dX6_oddsOf_21 : decode cX6_oddsOf 21 = .ok (.lstore 7, 2) := by decide +kernel
theorem dX6_oddsOf_23 : decode cX6_oddsOf 23 = .ok (.iconst 0, 1) := by decide +kernel
theorem dX6_oddsOf_24 : decode cX6_oddsOf 24 = .ok (.istore 9, 2) := by decide +kernel
theorem dX6_oddsOf_26 : decode cX6_oddsOf 26 = .ok (.iload 9, 2) := by decide +kernel
theorem dX6_oddsOf_28 : decode cX6_oddsOf 28 = .ok (.aload_n 0, 1) := by decide +kernel
theorem dX6_oddsOf_29 : decode cX6_oddsOf 29 = .ok (.iload_n 2, 1) := by decide +kernel
theorem dX6_oddsOf_30 : decode cX6_oddsOf 30 = .ok (.invokevirtual 33, 3) := by decide +kernel
theorem dX6_oddsOf_33 : decode cX6_oddsOf 33 = .ok (.if_icmp .ge 90, 3) := by decide +kernel
theorem dX6_oddsOf_36 : decode cX6_oddsOf 36 = .ok (.iload 5, 2) := by decide +kernel
theorem dX6_oddsOf_38 : decode cX6_oddsOf 38 = .ok (.iconst 1, 1) := by decide +kernel
theorem dX6_oddsOf_39 : decode cX6_oddsOf 39 = .ok (.iload 9, 2) := by decide +kernel
theorem dX6_oddsOf_41 : decode cX6_oddsOf 41 = .ok (.ishl, 1) := by decide +kernel
theorem dX6_oddsOf_42 : decode cX6_oddsOf 42 = .ok (.iand, 1) := by decide +kernel
theorem dX6_oddsOf_43 : decode cX6_oddsOf 43 = .ok (.ifCond .eq 7, 3) := by decide +kernel
theorem dX6_oddsOf_46 : decode cX6_oddsOf 46 = .ok (.iconst 1, 1) := by decide +kernel
theorem dX6_oddsOf_47 : decode cX6_oddsOf 47 = .ok (.goto 4, 3) := by decide +kernel
theorem dX6_oddsOf_50 : decode cX6_oddsOf 50 = .ok (.iconst 0, 1) := by decide +kernel
theorem dX6_oddsOf_51 : decode cX6_oddsOf 51 = .ok (.istore 10, 2) := by decide +kernel
theorem dX6_oddsOf_53 : decode cX6_oddsOf 53 = .ok (.aload_n 1, 1) := by decide +kernel
theorem dX6_oddsOf_54 : decode cX6_oddsOf 54 = .ok (.iconst 3, 1) := by decide +kernel
theorem dX6_oddsOf_55 : decode cX6_oddsOf 55 = .ok (.aload_n 0, 1) := by decide +kernel
theorem dX6_oddsOf_56 : decode cX6_oddsOf 56 = .ok (.getfield 11, 3) := by decide +kernel
theorem dX6_oddsOf_59 : decode cX6_oddsOf 59 = .ok (.iload_n 2, 1) := by decide +kernel
theorem dX6_oddsOf_60 : decode cX6_oddsOf 60 = .ok (.aaload, 1) := by decide +kernel
theorem dX6_oddsOf_61 : decode cX6_oddsOf 61 = .ok (.iload 9, 2) := by decide +kernel
theorem dX6_oddsOf_63 : decode cX6_oddsOf 63 = .ok (.iaload, 1) := by decide +kernel
theorem dX6_oddsOf_64 : decode cX6_oddsOf 64 = .ok (.iconst 4, 1) := by decide +kernel
theorem dX6_oddsOf_65 : decode cX6_oddsOf 65 = .ok (.invokevirtual 53, 3) := by decide +kernel
theorem dX6_oddsOf_68 : decode cX6_oddsOf 68 = .ok (.istore 11, 2) := by decide +kernel
theorem dX6_oddsOf_70 : decode cX6_oddsOf 70 = .ok (.lload 7, 2) := by decide +kernel
theorem dX6_oddsOf_72 : decode cX6_oddsOf 72 = .ok (.iload 10, 2) := by decide +kernel
theorem dX6_oddsOf_74 : decode cX6_oddsOf 74 = .ok (.ifCond .eq 9, 3) := by decide +kernel
theorem dX6_oddsOf_77 : decode cX6_oddsOf 77 = .ok (.iload 11, 2) := by decide +kernel
theorem dX6_oddsOf_79 : decode cX6_oddsOf 79 = .ok (.i2l, 1) := by decide +kernel
theorem dX6_oddsOf_80 : decode cX6_oddsOf 80 = .ok (.goto 9, 3) := by decide +kernel
theorem dX6_oddsOf_83 : decode cX6_oddsOf 83 = .ok (.bipush 100, 2) := by decide +kernel
theorem dX6_oddsOf_85 : decode cX6_oddsOf 85 = .ok (.iload 11, 2) := by decide +kernel
theorem dX6_oddsOf_87 : decode cX6_oddsOf 87 = .ok (.isub, 1) := by decide +kernel
theorem dX6_oddsOf_88 : decode cX6_oddsOf 88 = .ok (.i2l, 1) := by decide +kernel
theorem dX6_oddsOf_89 : decode cX6_oddsOf 89 = .ok (.lmul, 1) := by decide +kernel
theorem dX6_oddsOf_90 : decode cX6_oddsOf 90 = .ok (.lstore 7, 2) := by decide +kernel
theorem dX6_oddsOf_92 : decode cX6_oddsOf 92 = .ok (.iload 6, 2) := by decide +kernel
theorem dX6_oddsOf_94 : decode cX6_oddsOf 94 = .ok (.iload 10, 2) := by decide +kernel
theorem dX6_oddsOf_96 : decode cX6_oddsOf 96 = .ok (.ifCond .eq 17, 3) := by decide +kernel
theorem dX6_oddsOf_99 : decode cX6_oddsOf 99 = .ok (.iconst 1, 1) := by decide +kernel
theorem dX6_oddsOf_100 : decode cX6_oddsOf 100 = .ok (.aload_n 0, 1) := by decide +kernel
theorem dX6_oddsOf_101 : decode cX6_oddsOf 101 = .ok (.getfield 11, 3) := by decide +kernel
theorem dX6_oddsOf_104 : decode cX6_oddsOf 104 = .ok (.iload_n 2, 1) := by decide +kernel
theorem dX6_oddsOf_105 : decode cX6_oddsOf 105 = .ok (.aaload, 1) := by decide +kernel
theorem dX6_oddsOf_106 : decode cX6_oddsOf 106 = .ok (.iload 9, 2) := by decide +kernel
theorem dX6_oddsOf_108 : decode cX6_oddsOf 108 = .ok (.iaload, 1) := by decide +kernel
theorem dX6_oddsOf_109 : decode cX6_oddsOf 109 = .ok (.ishl, 1) := by decide +kernel
theorem dX6_oddsOf_110 : decode cX6_oddsOf 110 = .ok (.goto 4, 3) := by decide +kernel
theorem dX6_oddsOf_113 : decode cX6_oddsOf 113 = .ok (.iconst 0, 1) := by decide +kernel
theorem dX6_oddsOf_114 : decode cX6_oddsOf 114 = .ok (.ior, 1) := by decide +kernel
theorem dX6_oddsOf_115 : decode cX6_oddsOf 115 = .ok (.istore 6, 2) := by decide +kernel
theorem dX6_oddsOf_117 : decode cX6_oddsOf 117 = .ok (.iinc 9 1, 3) := by decide +kernel
theorem dX6_oddsOf_120 : decode cX6_oddsOf 120 = .ok (.goto (-94), 3) := by decide +kernel
theorem dX6_oddsOf_123 : decode cX6_oddsOf 123 = .ok (.aload_n 0, 1) := by decide +kernel
theorem dX6_oddsOf_124 : decode cX6_oddsOf 124 = .ok (.aload_n 1, 1) := by decide +kernel
theorem dX6_oddsOf_125 : decode cX6_oddsOf 125 = .ok (.iload_n 2, 1) := by decide +kernel
theorem dX6_oddsOf_126 : decode cX6_oddsOf 126 = .ok (.iload 6, 2) := by decide +kernel
theorem dX6_oddsOf_128 : decode cX6_oddsOf 128 = .ok (.invokevirtual 44, 3) := by decide +kernel
theorem dX6_oddsOf_131 : decode cX6_oddsOf 131 = .ok (.ifCond .ne 8, 3) := by decide +kernel
theorem dX6_oddsOf_134 : decode cX6_oddsOf 134 = .ok (.lload_n 3, 1) := by decide +kernel
theorem dX6_oddsOf_135 : decode cX6_oddsOf 135 = .ok (.lload 7, 2) := by decide +kernel
theorem dX6_oddsOf_137 : decode cX6_oddsOf 137 = .ok (.ladd, 1) := by decide +kernel
theorem dX6_oddsOf_138 : decode cX6_oddsOf 138 = .ok (.lstore_n 3, 1) := by decide +kernel
theorem dX6_oddsOf_139 : decode cX6_oddsOf 139 = .ok (.iinc 5 1, 3) := by decide +kernel
theorem dX6_oddsOf_142 : decode cX6_oddsOf 142 = .ok (.goto (-137), 3) := by decide +kernel
theorem dX6_oddsOf_145 : decode cX6_oddsOf 145 = .ok (.lload_n 3, 1) := by decide +kernel
theorem dX6_oddsOf_146 : decode cX6_oddsOf 146 = .ok (.lreturn, 1) := by decide +kernel
theorem dX7_init_0 : decode cX7_init 0 = .ok (.aload_n 0, 1) := by decide +kernel
theorem dX7_init_1 : decode cX7_init 1 = .ok (.invokespecial 3, 3) := by decide +kernel
theorem dX7_init_4 : decode cX7_init 4 = .ok (.aload_n 0, 1) := by decide +kernel
theorem dX7_init_5 : decode cX7_init 5 = .ok (.iconst 3, 1) := by decide +kernel
theorem dX7_init_6 : decode cX7_init 6 = .ok (.newarray .int, 2) := by decide +kernel
theorem dX7_init_8 : decode cX7_init 8 = .ok (.putfield 9, 3) := by decide +kernel
theorem dX7_init_11 : decode cX7_init 11 = .ok (.aload_n 0, 1) := by decide +kernel
theorem dX7_init_12 : decode cX7_init 12 = .ok (.bipush 6, 2) := by decide +kernel
theorem dX7_init_14 : decode cX7_init 14 = .ok (.newarray .int, 2) := by decide +kernel
theorem dX7_init_16 : decode cX7_init 16 = .ok (.putfield 15, 3) := by decide +kernel
theorem dX7_init_19 : decode cX7_init 19 = .ok (.aload_n 0, 1) := by decide +kernel
theorem dX7_init_20 : decode cX7_init 20 = .ok (.bipush 6, 2) := by decide +kernel
theorem dX7_init_22 : decode cX7_init 22 = .ok (.newarray .int, 2) := by decide +kernel
theorem dX7_init_24 : decode cX7_init 24 = .ok (.putfield 18, 3) := by decide +kernel
theorem dX7_init_27 : decode cX7_init 27 = .ok (.return_, 1) := by decide +kernel
theorem dX7_forget_0 : decode cX7_forget 0 = .ok (.aload_n 0, 1) := by decide +kernel
theorem dX7_forget_1 : decode cX7_forget 1 = .ok (.iconst 0, 1) := by decide +kernel
theorem dX7_forget_2 : decode cX7_forget 2 = .ok (.putfield 21, 3) := by decide +kernel
theorem dX7_forget_5 : decode cX7_forget 5 = .ok (.return_, 1) := by decide +kernel
theorem dX7_carOf_0 : decode cX7_carOf 0 = .ok (.iload_n 1, 1) := by decide +kernel
theorem dX7_carOf_1 : decode cX7_carOf 1 = .ok (.ifCond .lt 20, 3) := by decide +kernel
theorem dX7_carOf_4 : decode cX7_carOf 4 = .ok (.iload_n 1, 1) := by decide +kernel
theorem dX7_carOf_5 : decode cX7_carOf 5 = .ok (.aload_n 0, 1) := by decide +kernel
theorem dX7_carOf_6 : decode cX7_carOf 6 = .ok (.getfield 21, 3) := by decide +kernel
theorem dX7_carOf_9 : decode cX7_carOf 9 = .ok (.if_icmp .ge 12, 3) := by decide +kernel
theorem dX7_carOf_12 : decode cX7_carOf 12 = .ok (.aload_n 0, 1) := by decide +kernel
theorem dX7_carOf_13 : decode cX7_carOf 13 = .ok (.getfield 18, 3) := by decide +kernel
theorem dX7_carOf_16 : decode cX7_carOf 16 = .ok (.iload_n 1, 1) := by decide +kernel
theorem dX7_carOf_17 : decode cX7_carOf 17 = .ok (.iaload, 1) := by decide +kernel
theorem dX7_carOf_18 : decode cX7_carOf 18 = .ok (.goto 4, 3) := by decide +kernel
theorem dX7_carOf_21 : decode cX7_carOf 21 = .ok (.iconst (-1), 1) := by decide +kernel
theorem dX7_carOf_22 : decode cX7_carOf 22 = .ok (.ireturn, 1) := by decide +kernel
theorem dX7_search_0 : decode cX7_search 0 = .ok (.aload_n 0, 1) := by decide +kernel
theorem dX7_search_1 : decode cX7_search 1 = .ok (.ldc 25, 2) := by decide +kernel
theorem dX7_search_3 : decode cX7_search 3 = .ok (.putfield 26, 3) := by decide +kernel
theorem dX7_search_6 : decode cX7_search 6 = .ok (.aload_n 0, 1) := by decide +kernel
theorem dX7_search_7 : decode cX7_search 7 = .ok (.getfield 9, 3) := by decide +kernel
theorem dX7_search_10 : decode cX7_search 10 = .ok (.iconst 0, 1) := by decide +kernel
theorem dX7_search_11 : decode cX7_search 11 = .ok (.invokestatic 29, 3) := by decide +kernel
theorem dX7_search_14 : decode cX7_search 14 = .ok (.aload_n 0, 1) := by decide +kernel
theorem dX7_search_15 : decode cX7_search 15 = .ok (.aload_n 1, 1) := by decide +kernel
theorem dX7_search_16 : decode cX7_search 16 = .ok (.aload_n 2, 1) := by decide +kernel
theorem dX7_search_17 : decode cX7_search 17 = .ok (.iconst 0, 1) := by decide +kernel
theorem dX7_search_18 : decode cX7_search 18 = .ok (.invokestatic 35, 3) := by decide +kernel
theorem dX7_search_21 : decode cX7_search 21 = .ok (.aload_n 0, 1) := by decide +kernel
theorem dX7_search_22 : decode cX7_search 22 = .ok (.getfield 26, 3) := by decide +kernel
theorem dX7_search_25 : decode cX7_search 25 = .ok (.ldc 25, 2) := by decide +kernel
theorem dX7_search_27 : decode cX7_search 27 = .ok (.if_icmp .eq 17, 3) := by decide +kernel
theorem dX7_search_30 : decode cX7_search 30 = .ok (.aload_n 0, 1) := by decide +kernel
theorem dX7_search_31 : decode cX7_search 31 = .ok (.bipush 6, 2) := by decide +kernel
theorem dX7_search_33 : decode cX7_search 33 = .ok (.aload_n 1, 1) := by decide +kernel
theorem dX7_search_34 : decode cX7_search 34 = .ok (.iconst 3, 1) := by decide +kernel
