theorem dX13_costs_69 : decode cX13_costs 69 = .ok (.invokevirtual 416, 3) := by decide +kernel
theorem dX13_costs_72 : decode cX13_costs 72 = .ok (.ireturn, 1) := by decide +kernel
theorem dX13_isDish_0 : decode cX13_isDish 0 = .ok (.aload_n 0, 1) := by decide +kernel
theorem dX13_isDish_1 : decode cX13_isDish 1 = .ok (.getfield 394, 3) := by decide +kernel
theorem dX13_isDish_4 : decode cX13_isDish 4 = .ok (.ifnull 22, 3) := by decide +kernel
theorem dX13_isDish_7 : decode cX13_isDish 7 = .ok (.iload_n 1, 1) := by decide +kernel
theorem dX13_isDish_8 : decode cX13_isDish 8 = .ok (.ifCond .lt 18, 3) := by decide +kernel
theorem dX13_isDish_11 : decode cX13_isDish 11 = .ok (.iload_n 1, 1) := by decide +kernel
theorem dX13_isDish_12 : decode cX13_isDish 12 = .ok (.aload_n 0, 1) := by decide +kernel
theorem dX13_isDish_13 : decode cX13_isDish 13 = .ok (.getfield 394, 3) := by decide +kernel
theorem dX13_isDish_16 : decode cX13_isDish 16 = .ok (.getfield 290, 3) := by decide +kernel
theorem dX13_isDish_19 : decode cX13_isDish 19 = .ok (.if_icmp .ge 7, 3) := by decide +kernel
theorem dX13_isDish_22 : decode cX13_isDish 22 = .ok (.iconst 1, 1) := by decide +kernel
theorem dX13_isDish_23 : decode cX13_isDish 23 = .ok (.goto 4, 3) := by decide +kernel
theorem dX13_isDish_26 : decode cX13_isDish 26 = .ok (.iconst 0, 1) := by decide +kernel
theorem dX13_isDish_27 : decode cX13_isDish 27 = .ok (.ireturn, 1) := by decide +kernel
theorem dX13_barred_0 : decode cX13_barred 0 = .ok (.aload_n 0, 1) := by decide +kernel
theorem dX13_barred_1 : decode cX13_barred 1 = .ok (.getfield 394, 3) := by decide +kernel
theorem dX13_barred_4 : decode cX13_barred 4 = .ok (.getfield 300, 3) := by decide +kernel
theorem dX13_barred_7 : decode cX13_barred 7 = .ok (.iload_n 2, 1) := by decide +kernel
theorem dX13_barred_8 : decode cX13_barred 8 = .ok (.iaload, 1) := by decide +kernel
theorem dX13_barred_9 : decode cX13_barred 9 = .ok (.aload_n 0, 1) := by decide +kernel
theorem dX13_barred_10 : decode cX13_barred 10 = .ok (.getfield 394, 3) := by decide +kernel
theorem dX13_barred_13 : decode cX13_barred 13 = .ok (.getfield 311, 3) := by decide +kernel
theorem dX13_barred_16 : decode cX13_barred 16 = .ok (.iload_n 1, 1) := by decide +kernel
theorem dX13_barred_17 : decode cX13_barred 17 = .ok (.iaload, 1) := by decide +kernel
theorem dX13_barred_18 : decode cX13_barred 18 = .ok (.iand, 1) := by decide +kernel
theorem dX13_barred_19 : decode cX13_barred 19 = .ok (.ireturn, 1) := by decide +kernel
theorem dX13_fits_0 : decode cX13_fits 0 = .ok (.aload_n 0, 1) := by decide +kernel
theorem dX13_fits_1 : decode cX13_fits 1 = .ok (.iconst 0, 1) := by decide +kernel
theorem dX13_fits_2 : decode cX13_fits 2 = .ok (.putfield 75, 3) := by decide +kernel
theorem dX13_fits_5 : decode cX13_fits 5 = .ok (.aload_n 0, 1) := by decide +kernel
theorem dX13_fits_6 : decode cX13_fits 6 = .ok (.iload_n 1, 1) := by decide +kernel
theorem dX13_fits_7 : decode cX13_fits 7 = .ok (.invokevirtual 422, 3) := by decide +kernel
theorem dX13_fits_10 : decode cX13_fits 10 = .ok (.ifCond .eq 40, 3) := by decide +kernel
theorem dX13_fits_13 : decode cX13_fits 13 = .ok (.aload_n 0, 1) := by decide +kernel
theorem dX13_fits_14 : decode cX13_fits 14 = .ok (.iload_n 2, 1) := by decide +kernel
theorem dX13_fits_15 : decode cX13_fits 15 = .ok (.invokevirtual 487, 3) := by decide +kernel
theorem dX13_fits_18 : decode cX13_fits 18 = .ok (.ifCond .eq 32, 3) := by decide +kernel
theorem dX13_fits_21 : decode cX13_fits 21 = .ok (.aload_n 0, 1) := by decide +kernel
theorem dX13_fits_22 : decode cX13_fits 22 = .ok (.aload_n 0, 1) := by decide +kernel
theorem dX13_fits_23 : decode cX13_fits 23 = .ok (.aload_n 0, 1) := by decide +kernel
theorem dX13_fits_24 : decode cX13_fits 24 = .ok (.getfield 394, 3) := by decide +kernel
theorem dX13_fits_27 : decode cX13_fits 27 = .ok (.getfield 332, 3) := by decide +kernel
theorem dX13_fits_30 : decode cX13_fits 30 = .ok (.iload_n 1, 1) := by decide +kernel
theorem dX13_fits_31 : decode cX13_fits 31 = .ok (.iaload, 1) := by decide +kernel
theorem dX13_fits_32 : decode cX13_fits 32 = .ok (.iload_n 2, 1) := by decide +kernel
theorem dX13_fits_33 : decode cX13_fits 33 = .ok (.invokevirtual 490, 3) := by decide +kernel
theorem dX13_fits_36 : decode cX13_fits 36 = .ok (.ifCond .ne 7, 3) := by decide +kernel
theorem dX13_fits_39 : decode cX13_fits 39 = .ok (.iconst 1, 1) := by decide +kernel
theorem dX13_fits_40 : decode cX13_fits 40 = .ok (.goto 4, 3) := by decide +kernel
theorem dX13_fits_43 : decode cX13_fits 43 = .ok (.iconst 0, 1) := by decide +kernel
theorem dX13_fits_44 : decode cX13_fits 44 = .ok (.invokevirtual 416, 3) := by decide +kernel
theorem dX13_fits_47 : decode cX13_fits 47 = .ok (.goto 8, 3) := by decide +kernel
theorem dX13_fits_50 : decode cX13_fits 50 = .ok (.aload_n 0, 1) := by decide +kernel
theorem dX13_fits_51 : decode cX13_fits 51 = .ok (.iconst 1, 1) := by decide +kernel
theorem dX13_fits_52 : decode cX13_fits 52 = .ok (.invokevirtual 81, 3) := by decide +kernel
theorem dX13_fits_55 : decode cX13_fits 55 = .ok (.ireturn, 1) := by decide +kernel
theorem dX13_breach_0 : decode cX13_breach 0 = .ok (.aload_n 0, 1) := by decide +kernel
theorem dX13_breach_1 : decode cX13_breach 1 = .ok (.iconst 0, 1) := by decide +kernel
theorem dX13_breach_2 : decode cX13_breach 2 = .ok (.putfield 75, 3) := by decide +kernel
theorem dX13_breach_5 : decode cX13_breach 5 = .ok (.aload_n 0, 1) := by decide +kernel
theorem dX13_breach_6 : decode cX13_breach 6 = .ok (.iload_n 1, 1) := by decide +kernel
theorem dX13_breach_7 : decode cX13_breach 7 = .ok (.invokevirtual 422, 3) := by decide +kernel
theorem dX13_breach_10 : decode cX13_breach 10 = .ok (.ifCond .eq 32, 3) := by decide +kernel
theorem dX13_breach_13 : decode cX13_breach 13 = .ok (.aload_n 0, 1) := by decide +kernel
theorem dX13_breach_14 : decode cX13_breach 14 = .ok (.iload_n 2, 1) := by decide +kernel
theorem dX13_breach_15 : decode cX13_breach 15 = .ok (.invokevirtual 487, 3) := by decide +kernel
theorem dX13_breach_18 : decode cX13_breach 18 = .ok (.ifCond .eq 24, 3) := by decide +kernel
theorem dX13_breach_21 : decode cX13_breach 21 = .ok (.aload_n 0, 1) := by decide +kernel
theorem dX13_breach_22 : decode cX13_breach 22 = .ok (.aload_n 0, 1) := by decide +kernel
theorem dX13_breach_23 : decode cX13_breach 23 = .ok (.aload_n 0, 1) := by decide +kernel
theorem dX13_breach_24 : decode cX13_breach 24 = .ok (.getfield 394, 3) := by decide +kernel
theorem dX13_breach_27 : decode cX13_breach 27 = .ok (.getfield 332, 3) := by decide +kernel
theorem dX13_breach_30 : decode cX13_breach 30 = .ok (.iload_n 1, 1) := by decide +kernel
theorem dX13_breach_31 : decode cX13_breach 31 = .ok (.iaload, 1) := by decide +kernel
theorem dX13_breach_32 : decode cX13_breach 32 = .ok (.iload_n 2, 1) := by decide +kernel
theorem dX13_breach_33 : decode cX13_breach 33 = .ok (.invokevirtual 490, 3) := by decide +kernel
theorem dX13_breach_36 : decode cX13_breach 36 = .ok (.invokevirtual 416, 3) := by decide +kernel
theorem dX13_breach_39 : decode cX13_breach 39 = .ok (.goto 8, 3) := by decide +kernel
theorem dX13_breach_42 : decode cX13_breach 42 = .ok (.aload_n 0, 1) := by decide +kernel
theorem dX13_breach_43 : decode cX13_breach 43 = .ok (.iconst 1, 1) := by decide +kernel
theorem dX13_breach_44 : decode cX13_breach 44 = .ok (.invokevirtual 81, 3) := by decide +kernel
theorem dX13_breach_47 : decode cX13_breach 47 = .ok (.ireturn, 1) := by decide +kernel
theorem dX13_forAll_0 : decode cX13_forAll 0 = .ok (.aload_n 0, 1) := by decide +kernel
theorem dX13_forAll_1 : decode cX13_forAll 1 = .ok (.iconst 0, 1) := by decide +kernel
theorem dX13_forAll_2 : decode cX13_forAll 2 = .ok (.putfield 75, 3) := by decide +kernel
theorem dX13_forAll_5 : decode cX13_forAll 5 = .ok (.aload_n 0, 1) := by decide +kernel
theorem dX13_forAll_6 : decode cX13_forAll 6 = .ok (.getfield 394, 3) := by decide +kernel
theorem dX13_forAll_9 : decode cX13_forAll 9 = .ok (.ifnonnull 9, 3) := by decide +kernel
theorem dX13_forAll_12 : decode cX13_forAll 12 = .ok (.aload_n 0, 1) := by decide +kernel
theorem dX13_forAll_13 : decode cX13_forAll 13 = .ok (.iconst 1, 1) := by decide +kernel
theorem dX13_forAll_14 : decode cX13_forAll 14 = .ok (.invokevirtual 81, 3) := by decide +kernel
theorem dX13_forAll_17 : decode cX13_forAll 17 = .ok (.ireturn, 1) := by decide +kernel
theorem dX13_forAll_18 : decode cX13_forAll 18 = .ok (.iconst 0, 1) := by decide +kernel
theorem dX13_forAll_19 : decode cX13_forAll 19 = .ok (.istore_n 1, 1) := by decide +kernel
theorem dX13_forAll_20 : decode cX13_forAll 20 = .ok (.iconst 0, 1) := by decide +kernel
theorem dX13_forAll_21 : decode cX13_forAll 21 = .ok (.istore_n 2, 1) := by decide +kernel
theorem dX13_forAll_22 : decode cX13_forAll 22 = .ok (.iload_n 2, 1) := by decide +kernel
theorem dX13_forAll_23 : decode cX13_forAll 23 = .ok (.aload_n 0, 1) := by decide +kernel
theorem dX13_forAll_24 : decode cX13_forAll 24 = .ok (.getfield 394, 3) := by decide +kernel
theorem dX13_forAll_27 : decode cX13_forAll 27 = .ok (.getfield 290, 3) := by decide +kernel
theorem dX13_forAll_30 : decode cX13_forAll 30 = .ok (.if_icmp .ge 74, 3) := by decide +kernel
theorem dX13_forAll_33 : decode cX13_forAll 33 = .ok (.iconst 1, 1) := by decide +kernel
theorem dX13_forAll_34 : decode cX13_forAll 34 = .ok (.istore_n 3, 1) := by decide +kernel
theorem dX13_forAll_35 : decode cX13_forAll 35 = .ok (.iconst 0, 1) := by decide +kernel
theorem dX13_forAll_36 : decode cX13_forAll 36 = .ok (.istore 4, 2) := by decide +kernel
theorem dX13_forAll_38 : decode cX13_forAll 38 = .ok (.iload 4, 2) := by decide +kernel
theorem dX13_forAll_40 : decode cX13_forAll 40 = .ok (.aload_n 0, 1) := by decide +kernel
theorem dX13_forAll_41 : decode cX13_forAll 41 = .ok (.getfield 394, 3) := by decide +kernel
theorem dX13_forAll_44 : decode cX13_forAll 44 = .ok (.getfield 223, 3) := by decide +kernel
theorem dX13_forAll_47 : decode cX13_forAll 47 = .ok (.if_icmp .ge 37, 3) := by decide +kernel
theorem dX13_forAll_50 : decode cX13_forAll 50 = .ok (.iload_n 3, 1) := by decide +kernel
theorem dX13_forAll_51 : decode cX13_forAll 51 = .ok (.ifCond .eq 25, 3) := by decide +kernel
theorem dX13_forAll_54 : decode cX13_forAll 54 = .ok (.aload_n 0, 1) := by decide +kernel
theorem dX13_forAll_55 : decode cX13_forAll 55 = .ok (.aload_n 0, 1) := by decide +kernel
theorem dX13_forAll_56 : decode cX13_forAll 56 = .ok (.getfield 394, 3) := by decide +kernel
theorem dX13_forAll_59 : decode cX13_forAll 59 = .ok (.getfield 332, 3) := by decide +kernel
theorem dX13_forAll_62 : decode cX13_forAll 62 = .ok (.iload 4, 2) := by decide +kernel
theorem dX13_forAll_64 : decode cX13_forAll 64 = .ok (.iaload, 1) := by decide +kernel
theorem dX13_forAll_65 : decode cX13_forAll 65 = .ok (.iload_n 2, 1) := by decide +kernel
theorem dX13_forAll_66 : decode cX13_forAll 66 = .ok (.invokevirtual 490, 3) := by decide +kernel
theorem dX13_forAll_69 : decode cX13_forAll 69 = .ok (.ifCond .ne 7, 3) := by decide +kernel
theorem dX13_forAll_72 : decode cX13_forAll 72 = .ok (.iconst 1, 1) := by decide +kernel
theorem dX13_forAll_73 : decode cX13_forAll 73 = .ok (.goto 4, 3) := by decide +kernel
theorem dX13_forAll_76 : decode cX13_forAll 76 = .ok (.iconst 0, 1) := by decide +kernel
theorem dX13_forAll_77 : decode cX13_forAll 77 = .ok (.istore_n 3, 1) := by decide +kernel
theorem dX13_forAll_78 : decode cX13_forAll 78 = .ok (.iinc 4 1, 3) := by decide +kernel
theorem dX13_forAll_81 : decode cX13_forAll 81 = .ok (.goto (-43), 3) := by decide +kernel
theorem dX13_forAll_84 : decode cX13_forAll 84 = .ok (.iload_n 1, 1) := by decide +kernel
theorem dX13_forAll_85 : decode cX13_forAll 85 = .ok (.iload_n 3, 1) := by decide +kernel
theorem dX13_forAll_86 : decode cX13_forAll 86 = .ok (.ifCond .eq 9, 3) := by decide +kernel
theorem dX13_forAll_89 : decode cX13_forAll 89 = .ok (.iconst 1, 1) := by decide +kernel
theorem dX13_forAll_90 : decode cX13_forAll 90 = .ok (.iload_n 2, 1) := by decide +kernel
theorem dX13_forAll_91 : decode cX13_forAll 91 = .ok (.ishl, 1) := by decide +kernel
theorem dX13_forAll_92 : decode cX13_forAll 92 = .ok (.goto 4, 3) := by decide +kernel
theorem dX13_forAll_95 : decode cX13_forAll 95 = .ok (.iconst 0, 1) := by decide +kernel
theorem dX13_forAll_96 : decode cX13_forAll 96 = .ok (.ior, 1) := by decide +kernel
theorem dX13_forAll_97 : decode cX13_forAll 97 = .ok (.istore_n 1, 1) := by decide +kernel
theorem dX13_forAll_98 : decode cX13_forAll 98 = .ok (.iinc 2 1, 3) := by decide +kernel
theorem dX13_forAll_101 : decode cX13_forAll 101 = .ok (.goto (-79), 3) := by decide +kernel
theorem dX13_forAll_104 : decode cX13_forAll 104 = .ok (.aload_n 0, 1) := by decide +kernel
theorem dX13_forAll_105 : decode cX13_forAll 105 = .ok (.iload_n 1, 1) := by decide +kernel
theorem dX13_forAll_106 : decode cX13_forAll 106 = .ok (.invokevirtual 416, 3) := by decide +kernel
theorem dX13_forAll_109 : decode cX13_forAll 109 = .ok (.ireturn, 1) := by decide +kernel
theorem dX13_cheapest_0 : decode cX13_cheapest 0 = .ok (.iconst (-1), 1) := by decide +kernel
theorem dX13_cheapest_1 : decode cX13_cheapest 1 = .ok (.istore_n 3, 1) := by decide +kernel
theorem dX13_cheapest_2 : decode cX13_cheapest 2 = .ok (.iconst 0, 1) := by decide +kernel
theorem dX13_cheapest_3 : decode cX13_cheapest 3 = .ok (.istore 4, 2) := by decide +kernel
theorem dX13_cheapest_5 : decode cX13_cheapest 5 = .ok (.iload 4, 2) := by decide +kernel
theorem dX13_cheapest_7 : decode cX13_cheapest 7 = .ok (.aload_n 0, 1) := by decide +kernel
theorem dX13_cheapest_8 : decode cX13_cheapest 8 = .ok (.getfield 394, 3) := by decide +kernel
theorem dX13_cheapest_11 : decode cX13_cheapest 11 = .ok (.getfield 290, 3) := by decide +kernel
theorem dX13_cheapest_14 : decode cX13_cheapest 14 = .ok (.if_icmp .ge 49, 3) := by decide +kernel
theorem dX13_cheapest_17 : decode cX13_cheapest 17 = .ok (.aload_n 0, 1) := by decide +kernel
theorem dX13_cheapest_18 : decode cX13_cheapest 18 = .ok (.getfield 42, 3) := by decide +kernel
theorem dX13_cheapest_21 : decode cX13_cheapest 21 = .ok (.bipush 6, 2) := by decide +kernel
theorem dX13_cheapest_23 : decode cX13_cheapest 23 = .ok (.iload_n 1, 1) := by decide +kernel
theorem dX13_cheapest_24 : decode cX13_cheapest 24 = .ok (.imul, 1) := by decide +kernel
theorem dX13_cheapest_25 : decode cX13_cheapest 25 = .ok (.iload 4, 2) := by decide +kernel
theorem dX13_cheapest_27 : decode cX13_cheapest 27 = .ok (.iadd, 1) := by decide +kernel
theorem dX13_cheapest_28 : decode cX13_cheapest 28 = .ok (.iaload, 1) := by decide +kernel
theorem dX13_cheapest_29 : decode cX13_cheapest 29 = .ok (.istore 5, 2) := by decide +kernel
theorem dX13_cheapest_31 : decode cX13_cheapest 31 = .ok (.iload 4, 2) := by decide +kernel
theorem dX13_cheapest_33 : decode cX13_cheapest 33 = .ok (.iload_n 2, 1) := by decide +kernel
theorem dX13_cheapest_34 : decode cX13_cheapest 34 = .ok (.if_icmp .eq 23, 3) := by decide +kernel
theorem dX13_cheapest_37 : decode cX13_cheapest 37 = .ok (.iload 5, 2) := by decide +kernel
theorem dX13_cheapest_39 : decode cX13_cheapest 39 = .ok (.iconst (-1), 1) := by decide +kernel
theorem dX13_cheapest_40 : decode cX13_cheapest 40 = .ok (.if_icmp .eq 17, 3) := by decide +kernel
theorem dX13_cheapest_43 : decode cX13_cheapest 43 = .ok (.iload_n 3, 1) := by decide +kernel
theorem dX13_cheapest_44 : decode cX13_cheapest 44 = .ok (.iconst (-1), 1) := by decide +kernel
theorem dX13_cheapest_45 : decode cX13_cheapest 45 = .ok (.if_icmp .eq 9, 3) := by decide +kernel
theorem dX13_cheapest_48 : decode cX13_cheapest 48 = .ok (.iload 5, 2) := by decide +kernel
theorem dX13_cheapest_50 : decode cX13_cheapest 50 = .ok (.iload_n 3, 1) := by decide +kernel
theorem dX13_cheapest_51 : decode cX13_cheapest 51 = .ok (.if_icmp .ge 6, 3) := by decide +kernel
theorem dX13_cheapest_54 : decode cX13_cheapest 54 = .ok (.iload 5, 2) := by decide +kernel
theorem dX13_cheapest_56 : decode cX13_cheapest 56 = .ok (.istore_n 3, 1) := by decide +kernel
theorem dX13_cheapest_57 : decode cX13_cheapest 57 = .ok (.iinc 4 1, 3) := by decide +kernel
theorem dX13_cheapest_60 : decode cX13_cheapest 60 = .ok (.goto (-55), 3) := by decide +kernel
theorem dX13_cheapest_63 : decode cX13_cheapest 63 = .ok (.iload_n 3, 1) := by decide +kernel
theorem dX13_cheapest_64 : decode cX13_cheapest 64 = .ok (.ireturn, 1) := by decide +kernel
theorem dX13_coinOf_0 : decode cX13_coinOf 0 = .ok (.iload_n 2, 1) := by decide +kernel
theorem dX13_coinOf_1 : decode cX13_coinOf 1 = .ok (.iconst 1, 1) := by decide +kernel
theorem dX13_coinOf_2 : decode cX13_coinOf 2 = .ok (.isub, 1) := by decide +kernel
theorem dX13_coinOf_3 : decode cX13_coinOf 3 = .ok (.istore_n 3, 1) := by decide +kernel
theorem dX13_coinOf_4 : decode cX13_coinOf 4 = .ok (.iload_n 3, 1) := by decide +kernel
theorem dX13_coinOf_5 : decode cX13_coinOf 5 = .ok (.ifCond .lt 97, 3) := by decide +kernel
theorem dX13_coinOf_8 : decode cX13_coinOf 8 = .ok (.iconst 0, 1) := by decide +kernel
theorem dX13_coinOf_9 : decode cX13_coinOf 9 = .ok (.istore 4, 2) := by decide +kernel
theorem dX13_coinOf_11 : decode cX13_coinOf 11 = .ok (.iload 4, 2) := by decide +kernel
theorem dX13_coinOf_13 : decode cX13_coinOf 13 = .ok (.aload_n 0, 1) := by decide +kernel
theorem dX13_coinOf_14 : decode cX13_coinOf 14 = .ok (.getfield 394, 3) := by decide +kernel
theorem dX13_coinOf_17 : decode cX13_coinOf 17 = .ok (.getfield 290, 3) := by decide +kernel
theorem dX13_coinOf_20 : decode cX13_coinOf 20 = .ok (.if_icmp .ge 76, 3) := by decide +kernel
theorem dX13_coinOf_23 : decode cX13_coinOf 23 = .ok (.iload_n 3, 1) := by decide +kernel
theorem dX13_coinOf_24 : decode cX13_coinOf 24 = .ok (.iload_n 2, 1) := by decide +kernel
theorem dX13_coinOf_25 : decode cX13_coinOf 25 = .ok (.iconst 1, 1) := by decide +kernel
theorem dX13_coinOf_26 : decode cX13_coinOf 26 = .ok (.isub, 1) := by decide +kernel
theorem dX13_coinOf_27 : decode cX13_coinOf 27 = .ok (.if_icmp .ne 7, 3) := by decide +kernel
theorem dX13_coinOf_30 : decode cX13_coinOf 30 = .ok (.iconst 0, 1) := by decide +kernel
theorem dX13_coinOf_31 : decode cX13_coinOf 31 = .ok (.goto 12, 3) := by decide +kernel
theorem dX13_coinOf_34 : decode cX13_coinOf 34 = .ok (.aload_n 0, 1) := by decide +kernel
theorem dX13_coinOf_35 : decode cX13_coinOf 35 = .ok (.iload_n 3, 1) := by decide +kernel
theorem dX13_coinOf_36 : decode cX13_coinOf 36 = .ok (.iconst 1, 1) := by decide +kernel
theorem dX13_coinOf_37 : decode cX13_coinOf 37 = .ok (.iadd, 1) := by decide +kernel
theorem dX13_coinOf_38 : decode cX13_coinOf 38 = .ok (.iload 4, 2) := by decide +kernel
theorem dX13_coinOf_40 : decode cX13_coinOf 40 = .ok (.invokevirtual 493, 3) := by decide +kernel
theorem dX13_coinOf_43 : decode cX13_coinOf 43 = .ok (.istore 5, 2) := by decide +kernel
theorem dX13_coinOf_45 : decode cX13_coinOf 45 = .ok (.aload_n 0, 1) := by decide +kernel
theorem dX13_coinOf_46 : decode cX13_coinOf 46 = .ok (.getfield 42, 3) := by decide +kernel
theorem dX13_coinOf_49 : decode cX13_coinOf 49 = .ok (.bipush 6, 2) := by decide +kernel
theorem dX13_coinOf_51 : decode cX13_coinOf 51 = .ok (.iload_n 3, 1) := by decide +kernel
theorem dX13_coinOf_52 : decode cX13_coinOf 52 = .ok (.imul, 1) := by decide +kernel
theorem dX13_coinOf_53 : decode cX13_coinOf 53 = .ok (.iload 4, 2) := by decide +kernel
theorem dX13_coinOf_55 : decode cX13_coinOf 55 = .ok (.iadd, 1) := by decide +kernel
theorem dX13_coinOf_56 : decode cX13_coinOf 56 = .ok (.aload_n 0, 1) := by decide +kernel
theorem dX13_coinOf_57 : decode cX13_coinOf 57 = .ok (.iload_n 1, 1) := by decide +kernel
theorem dX13_coinOf_58 : decode cX13_coinOf 58 = .ok (.iload 4, 2) := by decide +kernel
theorem dX13_coinOf_60 : decode cX13_coinOf 60 = .ok (.invokevirtual 490, 3) := by decide +kernel
theorem dX13_coinOf_63 : decode cX13_coinOf 63 = .ok (.ifCond .ne 9, 3) := by decide +kernel
theorem dX13_coinOf_66 : decode cX13_coinOf 66 = .ok (.iload 5, 2) := by decide +kernel
theorem dX13_coinOf_68 : decode cX13_coinOf 68 = .ok (.iconst (-1), 1) := by decide +kernel
theorem dX13_coinOf_69 : decode cX13_coinOf 69 = .ok (.if_icmp .ne 7, 3) := by decide +kernel
theorem dX13_coinOf_72 : decode cX13_coinOf 72 = .ok (.iconst (-1), 1) := by decide +kernel
theorem dX13_coinOf_73 : decode cX13_coinOf 73 = .ok (.goto 16, 3) := by decide +kernel
theorem dX13_coinOf_76 : decode cX13_coinOf 76 = .ok (.aload_n 0, 1) := by decide +kernel
theorem dX13_coinOf_77 : decode cX13_coinOf 77 = .ok (.getfield 394, 3) := by decide +kernel
theorem dX13_coinOf_80 : decode cX13_coinOf 80 = .ok (.getfield 303, 3) := by decide +kernel
theorem dX13_coinOf_83 : decode cX13_coinOf 83 = .ok (.iload 4, 2) := by decide +kernel
theorem dX13_coinOf_85 : decode cX13_coinOf 85 = .ok (.iaload, 1) := by decide +kernel
theorem dX13_coinOf_86 : decode cX13_coinOf 86 = .ok (.iload 5, 2) := by decide +kernel
theorem dX13_coinOf_88 : decode cX13_coinOf 88 = .ok (.iadd, 1) := by decide +kernel
theorem dX13_coinOf_89 : decode cX13_coinOf 89 = .ok (.iastore, 1) := by decide +kernel
theorem dX13_coinOf_90 : decode cX13_coinOf 90 = .ok (.iinc 4 1, 3) := by decide +kernel
theorem dX13_coinOf_93 : decode cX13_coinOf 93 = .ok (.goto (-82), 3) := by decide +kernel
theorem dX13_coinOf_96 : decode cX13_coinOf 96 = .ok (.iinc 3 (-1), 3) := by decide +kernel
theorem dX13_coinOf_99 : decode cX13_coinOf 99 = .ok (.goto (-95), 3) := by decide +kernel
theorem dX13_coinOf_102 : decode cX13_coinOf 102 = .ok (.aload_n 0, 1) := by decide +kernel
theorem dX13_coinOf_103 : decode cX13_coinOf 103 = .ok (.iconst 0, 1) := by decide +kernel
theorem dX13_coinOf_104 : decode cX13_coinOf 104 = .ok (.iconst (-1), 1) := by decide +kernel
theorem dX13_coinOf_105 : decode cX13_coinOf 105 = .ok (.invokevirtual 493, 3) := by decide +kernel
theorem dX13_coinOf_108 : decode cX13_coinOf 108 = .ok (.ireturn, 1) := by decide +kernel
theorem dX13_menu_0 : decode cX13_menu 0 = .ok (.aload_n 0, 1) := by decide +kernel
theorem dX13_menu_1 : decode cX13_menu 1 = .ok (.iconst 0, 1) := by decide +kernel
theorem dX13_menu_2 : decode cX13_menu 2 = .ok (.putfield 75, 3) := by decide +kernel
theorem dX13_menu_5 : decode cX13_menu 5 = .ok (.aload_n 0, 1) := by decide +kernel
theorem dX13_menu_6 : decode cX13_menu 6 = .ok (.getfield 394, 3) := by decide +kernel
theorem dX13_menu_9 : decode cX13_menu 9 = .ok (.ifnull 18, 3) := by decide +kernel
theorem dX13_menu_12 : decode cX13_menu 12 = .ok (.iload_n 1, 1) := by decide +kernel
theorem dX13_menu_13 : decode cX13_menu 13 = .ok (.ifCond .lt 14, 3) := by decide +kernel
theorem dX13_menu_16 : decode cX13_menu 16 = .ok (.iload_n 1, 1) := by decide +kernel
theorem dX13_menu_17 : decode cX13_menu 17 = .ok (.aload_n 0, 1) := by decide +kernel
theorem dX13_menu_18 : decode cX13_menu 18 = .ok (.getfield 394, 3) := by decide +kernel
theorem dX13_menu_21 : decode cX13_menu 21 = .ok (.getfield 306, 3) := by decide +kernel
theorem dX13_menu_24 : decode cX13_menu 24 = .ok (.if_icmp .lt 9, 3) := by decide +kernel
theorem dX13_menu_27 : decode cX13_menu 27 = .ok (.aload_n 0, 1) := by decide +kernel
theorem dX13_menu_28 : decode cX13_menu 28 = .ok (.iconst 1, 1) := by decide +kernel
theorem dX13_menu_29 : decode cX13_menu 29 = .ok (.invokevirtual 81, 3) := by decide +kernel
theorem dX13_menu_32 : decode cX13_menu 32 = .ok (.ireturn, 1) := by decide +kernel
theorem dX13_menu_33 : decode cX13_menu 33 = .ok (.iload_n 2, 1) := by decide +kernel
theorem dX13_menu_34 : decode cX13_menu 34 = .ok (.iconst 1, 1) := by decide +kernel
theorem dX13_menu_35 : decode cX13_menu 35 = .ok (.bipush 14, 2) := by decide +kernel
theorem dX13_menu_37 : decode cX13_menu 37 = .ok (.invokestatic 153, 3) := by decide +kernel
theorem dX13_menu_40 : decode cX13_menu 40 = .ok (.ifCond .ne 9, 3) := by decide +kernel
theorem dX13_menu_43 : decode cX13_menu 43 = .ok (.aload_n 0, 1) := by decide +kernel
theorem dX13_menu_44 : decode cX13_menu 44 = .ok (.iconst 2, 1) := by decide +kernel
theorem dX13_menu_45 : decode cX13_menu 45 = .ok (.invokevirtual 81, 3) := by decide +kernel
theorem dX13_menu_48 : decode cX13_menu 48 = .ok (.ireturn, 1) := by decide +kernel
theorem dX13_menu_49 : decode cX13_menu 49 = .ok (.aload_n 0, 1) := by decide +kernel
theorem dX13_menu_50 : decode cX13_menu 50 = .ok (.iload_n 1, 1) := by decide +kernel
theorem dX13_menu_51 : decode cX13_menu 51 = .ok (.iload_n 2, 1) := by decide +kernel
theorem dX13_menu_52 : decode cX13_menu 52 = .ok (.invokevirtual 496, 3) := by decide +kernel
theorem dX13_menu_55 : decode cX13_menu 55 = .ok (.istore_n 3, 1) := by decide +kernel
theorem dX13_menu_56 : decode cX13_menu 56 = .ok (.iload_n 3, 1) := by decide +kernel
theorem dX13_menu_57 : decode cX13_menu 57 = .ok (.iconst (-1), 1) := by decide +kernel
theorem dX13_menu_58 : decode cX13_menu 58 = .ok (.if_icmp .ne 10, 3) := by decide +kernel
theorem dX13_menu_61 : decode cX13_menu 61 = .ok (.aload_n 0, 1) := by decide +kernel
theorem dX13_menu_62 : decode cX13_menu 62 = .ok (.bipush 6, 2) := by decide +kernel
theorem dX13_menu_64 : decode cX13_menu 64 = .ok (.invokevirtual 81, 3) := by decide +kernel
theorem dX13_menu_67 : decode cX13_menu 67 = .ok (.ireturn, 1) := by decide +kernel
theorem dX13_menu_68 : decode cX13_menu 68 = .ok (.aload_n 0, 1) := by decide +kernel
theorem dX13_menu_69 : decode cX13_menu 69 = .ok (.iload_n 2, 1) := by decide +kernel
theorem dX13_menu_70 : decode cX13_menu 70 = .ok (.putfield 403, 3) := by decide +kernel
theorem dX13_menu_73 : decode cX13_menu 73 = .ok (.iconst (-1), 1) := by decide +kernel
theorem dX13_menu_74 : decode cX13_menu 74 = .ok (.istore 4, 2) := by decide +kernel
theorem dX13_menu_76 : decode cX13_menu 76 = .ok (.iconst 0, 1) := by decide +kernel
theorem dX13_menu_77 : decode cX13_menu 77 = .ok (.istore 5, 2) := by decide +kernel
theorem dX13_menu_79 : decode cX13_menu 79 = .ok (.iload 5, 2) := by decide +kernel
theorem dX13_menu_81 : decode cX13_menu 81 = .ok (.iload_n 2, 1) := by decide +kernel
theorem dX13_menu_82 : decode cX13_menu 82 = .ok (.if_icmp .ge 66, 3) := by decide +kernel
theorem dX13_menu_85 : decode cX13_menu 85 = .ok (.aload_n 0, 1) := by decide +kernel
theorem dX13_menu_86 : decode cX13_menu 86 = .ok (.iload 5, 2) := by decide +kernel
theorem dX13_menu_88 : decode cX13_menu 88 = .ok (.iload 4, 2) := by decide +kernel
theorem dX13_menu_90 : decode cX13_menu 90 = .ok (.invokevirtual 493, 3) := by decide +kernel
theorem dX13_menu_93 : decode cX13_menu 93 = .ok (.istore 6, 2) := by decide +kernel
theorem dX13_menu_95 : decode cX13_menu 95 = .ok (.iconst 0, 1) := by decide +kernel
theorem dX13_menu_96 : decode cX13_menu 96 = .ok (.istore 7, 2) := by decide +kernel
theorem dX13_menu_98 : decode cX13_menu 98 = .ok (.iload 7, 2) := by decide +kernel
theorem dX13_menu_100 : decode cX13_menu 100 = .ok (.iload 4, 2) := by decide +kernel
theorem dX13_menu_102 : decode cX13_menu 102 = .ok (.if_icmp .eq 21, 3) := by decide +kernel
theorem dX13_menu_105 : decode cX13_menu 105 = .ok (.aload_n 0, 1) := by decide +kernel
theorem dX13_menu_106 : decode cX13_menu 106 = .ok (.getfield 42, 3) := by decide +kernel
theorem dX13_menu_109 : decode cX13_menu 109 = .ok (.bipush 6, 2) := by decide +kernel
theorem dX13_menu_111 : decode cX13_menu 111 = .ok (.iload 5, 2) := by decide +kernel
theorem dX13_menu_113 : decode cX13_menu 113 = .ok (.imul, 1) := by decide +kernel
theorem dX13_menu_114 : decode cX13_menu 114 = .ok (.iload 7, 2) := by decide +kernel
theorem dX13_menu_116 : decode cX13_menu 116 = .ok (.iadd, 1) := by decide +kernel
theorem dX13_menu_117 : decode cX13_menu 117 = .ok (.iaload, 1) := by decide +kernel
theorem dX13_menu_118 : decode cX13_menu 118 = .ok (.iload 6, 2) := by decide +kernel
theorem dX13_menu_120 : decode cX13_menu 120 = .ok (.if_icmp .eq 9, 3) := by decide +kernel
theorem dX13_menu_123 : decode cX13_menu 123 = .ok (.iinc 7 1, 3) := by decide +kernel
theorem dX13_menu_126 : decode cX13_menu 126 = .ok (.goto (-28), 3) := by decide +kernel
theorem dX13_menu_129 : decode cX13_menu 129 = .ok (.aload_n 0, 1) := by decide +kernel
theorem dX13_menu_130 : decode cX13_menu 130 = .ok (.getfield 45, 3) := by decide +kernel
theorem dX13_menu_133 : decode cX13_menu 133 = .ok (.iload 5, 2) := by decide +kernel
theorem dX13_menu_135 : decode cX13_menu 135 = .ok (.iload 7, 2) := by decide +kernel
theorem dX13_menu_137 : decode cX13_menu 137 = .ok (.iastore, 1) := by decide +kernel
theorem dX13_menu_138 : decode cX13_menu 138 = .ok (.iload 7, 2) := by decide +kernel
theorem dX13_menu_140 : decode cX13_menu 140 = .ok (.istore 4, 2) := by decide +kernel
theorem dX13_menu_142 : decode cX13_menu 142 = .ok (.iinc 5 1, 3) := by decide +kernel
theorem dX13_menu_145 : decode cX13_menu 145 = .ok (.goto (-66), 3) := by decide +kernel
theorem dX13_menu_148 : decode cX13_menu 148 = .ok (.aload_n 0, 1) := by decide +kernel
theorem dX13_menu_149 : decode cX13_menu 149 = .ok (.iload_n 3, 1) := by decide +kernel
theorem dX13_menu_150 : decode cX13_menu 150 = .ok (.invokevirtual 416, 3) := by decide +kernel
theorem dX13_menu_153 : decode cX13_menu 153 = .ok (.ireturn, 1) := by decide +kernel
theorem dX13_menuAt_0 : decode cX13_menuAt 0 = .ok (.aload_n 0, 1) := by decide +kernel
theorem dX13_menuAt_1 : decode cX13_menuAt 1 = .ok (.iconst 0, 1) := by decide +kernel
theorem dX13_menuAt_2 : decode cX13_menuAt 2 = .ok (.putfield 75, 3) := by decide +kernel
theorem dX13_menuAt_5 : decode cX13_menuAt 5 = .ok (.iload_n 1, 1) := by decide +kernel
theorem dX13_menuAt_6 : decode cX13_menuAt 6 = .ok (.ifCond .lt 20, 3) := by decide +kernel
theorem dX13_menuAt_9 : decode cX13_menuAt 9 = .ok (.iload_n 1, 1) := by decide +kernel
theorem dX13_menuAt_10 : decode cX13_menuAt 10 = .ok (.aload_n 0, 1) := by decide +kernel
theorem dX13_menuAt_11 : decode cX13_menuAt 11 = .ok (.getfield 403, 3) := by decide +kernel
theorem dX13_menuAt_14 : decode cX13_menuAt 14 = .ok (.if_icmp .ge 12, 3) := by decide +kernel
theorem dX13_menuAt_17 : decode cX13_menuAt 17 = .ok (.aload_n 0, 1) := by decide +kernel
theorem dX13_menuAt_18 : decode cX13_menuAt 18 = .ok (.getfield 45, 3) := by decide +kernel
theorem dX13_menuAt_21 : decode cX13_menuAt 21 = .ok (.iload_n 1, 1) := by decide +kernel
theorem dX13_menuAt_22 : decode cX13_menuAt 22 = .ok (.iaload, 1) := by decide +kernel
theorem dX13_menuAt_23 : decode cX13_menuAt 23 = .ok (.goto 4, 3) := by decide +kernel
theorem dX13_menuAt_26 : decode cX13_menuAt 26 = .ok (.iconst (-1), 1) := by decide +kernel
theorem dX13_menuAt_27 : decode cX13_menuAt 27 = .ok (.ireturn, 1) := by decide +kernel
theorem dX13_dropped_0 : decode cX13_dropped 0 = .ok (.aload_n 0, 1) := by decide +kernel
theorem dX13_dropped_1 : decode cX13_dropped 1 = .ok (.iconst 0, 1) := by decide +kernel
theorem dX13_dropped_2 : decode cX13_dropped 2 = .ok (.putfield 75, 3) := by decide +kernel
theorem dX13_dropped_5 : decode cX13_dropped 5 = .ok (.aload_n 0, 1) := by decide +kernel
theorem dX13_dropped_6 : decode cX13_dropped 6 = .ok (.getfield 394, 3) := by decide +kernel
theorem dX13_dropped_9 : decode cX13_dropped 9 = .ok (.ifnonnull 9, 3) := by decide +kernel
theorem dX13_dropped_12 : decode cX13_dropped 12 = .ok (.aload_n 0, 1) := by decide +kernel
theorem dX13_dropped_13 : decode cX13_dropped 13 = .ok (.iconst 1, 1) := by decide +kernel
theorem dX13_dropped_14 : decode cX13_dropped 14 = .ok (.invokevirtual 81, 3) := by decide +kernel
theorem dX13_dropped_17 : decode cX13_dropped 17 = .ok (.ireturn, 1) := by decide +kernel
theorem dX13_dropped_18 : decode cX13_dropped 18 = .ok (.iload_n 2, 1) := by decide +kernel
theorem dX13_dropped_19 : decode cX13_dropped 19 = .ok (.iconst 1, 1) := by decide +kernel
theorem dX13_dropped_20 : decode cX13_dropped 20 = .ok (.bipush 14, 2) := by decide +kernel
theorem dX13_dropped_22 : decode cX13_dropped 22 = .ok (.invokestatic 153, 3) := by decide +kernel
theorem dX13_dropped_25 : decode cX13_dropped 25 = .ok (.ifCond .eq 14, 3) := by decide +kernel
theorem dX13_dropped_28 : decode cX13_dropped 28 = .ok (.iload_n 1, 1) := by decide +kernel
theorem dX13_dropped_29 : decode cX13_dropped 29 = .ok (.iconst 0, 1) := by decide +kernel
theorem dX13_dropped_30 : decode cX13_dropped 30 = .ok (.ldc_w 499, 3) := by decide +kernel
theorem dX13_dropped_33 : decode cX13_dropped 33 = .ok (.invokestatic 153, 3) := by decide +kernel
theorem dX13_dropped_36 : decode cX13_dropped 36 = .ok (.ifCond .ne 9, 3) := by decide +kernel
theorem dX13_dropped_39 : decode cX13_dropped 39 = .ok (.aload_n 0, 1) := by decide +kernel
theorem dX13_dropped_40 : decode cX13_dropped 40 = .ok (.iconst 2, 1) := by decide +kernel
theorem dX13_dropped_41 : decode cX13_dropped 41 = .ok (.invokevirtual 81, 3) := by decide +kernel
theorem dX13_dropped_44 : decode cX13_dropped 44 = .ok (.ireturn, 1) := by decide +kernel
theorem dX13_dropped_45 : decode cX13_dropped 45 = .ok (.iconst 0, 1) := by decide +kernel
theorem dX13_dropped_46 : decode cX13_dropped 46 = .ok (.istore_n 3, 1) := by decide +kernel
theorem dX13_dropped_47 : decode cX13_dropped 47 = .ok (.iconst 0, 1) := by decide +kernel
theorem dX13_dropped_48 : decode cX13_dropped 48 = .ok (.istore 4, 2) := by decide +kernel
theorem dX13_dropped_50 : decode cX13_dropped 50 = .ok (.iload 4, 2) := by decide +kernel
theorem dX13_dropped_52 : decode cX13_dropped 52 = .ok (.aload_n 0, 1) := by decide +kernel
theorem dX13_dropped_53 : decode cX13_dropped 53 = .ok (.getfield 394, 3) := by decide +kernel
theorem dX13_dropped_56 : decode cX13_dropped 56 = .ok (.getfield 223, 3) := by decide +kernel
theorem dX13_dropped_59 : decode cX13_dropped 59 = .ok (.if_icmp .ge 44, 3) := by decide +kernel
theorem dX13_dropped_62 : decode cX13_dropped 62 = .ok (.aload_n 0, 1) := by decide +kernel
theorem dX13_dropped_63 : decode cX13_dropped 63 = .ok (.aload_n 0, 1) := by decide +kernel
theorem dX13_dropped_64 : decode cX13_dropped 64 = .ok (.getfield 394, 3) := by decide +kernel
theorem dX13_dropped_67 : decode cX13_dropped 67 = .ok (.getfield 332, 3) := by decide +kernel
theorem dX13_dropped_70 : decode cX13_dropped 70 = .ok (.iload 4, 2) := by decide +kernel
theorem dX13_dropped_72 : decode cX13_dropped 72 = .ok (.iaload, 1) := by decide +kernel
theorem dX13_dropped_73 : decode cX13_dropped 73 = .ok (.iload_n 2, 1) := by decide +kernel
theorem dX13_dropped_74 : decode cX13_dropped 74 = .ok (.invokevirtual 496, 3) := by decide +kernel
theorem dX13_dropped_77 : decode cX13_dropped 77 = .ok (.istore 5, 2) := by decide +kernel
theorem dX13_dropped_79 : decode cX13_dropped 79 = .ok (.iload 5, 2) := by decide +kernel
theorem dX13_dropped_81 : decode cX13_dropped 81 = .ok (.iconst (-1), 1) := by decide +kernel
theorem dX13_dropped_82 : decode cX13_dropped 82 = .ok (.if_icmp .ne 10, 3) := by decide +kernel
theorem dX13_dropped_85 : decode cX13_dropped 85 = .ok (.aload_n 0, 1) := by decide +kernel
theorem dX13_dropped_86 : decode cX13_dropped 86 = .ok (.bipush 6, 2) := by decide +kernel
theorem dX13_dropped_88 : decode cX13_dropped 88 = .ok (.invokevirtual 81, 3) := by decide +kernel
theorem dX13_dropped_91 : decode cX13_dropped 91 = .ok (.ireturn, 1) := by decide +kernel
theorem dX13_dropped_92 : decode cX13_dropped 92 = .ok (.iload_n 3, 1) := by decide +kernel
theorem dX13_dropped_93 : decode cX13_dropped 93 = .ok (.iload 5, 2) := by decide +kernel
theorem dX13_dropped_95 : decode cX13_dropped 95 = .ok (.iadd, 1) := by decide +kernel
theorem dX13_dropped_96 : decode cX13_dropped 96 = .ok (.istore_n 3, 1) := by decide +kernel
theorem dX13_dropped_97 : decode cX13_dropped 97 = .ok (.iinc 4 1, 3) := by decide +kernel
theorem dX13_dropped_100 : decode cX13_dropped 100 = .ok (.goto (-50), 3) := by decide +kernel
theorem dX13_dropped_103 : decode cX13_dropped 103 = .ok (.iconst 0, 1) := by decide +kernel
theorem dX13_dropped_104 : decode cX13_dropped 104 = .ok (.istore 4, 2) := by decide +kernel
theorem dX13_dropped_106 : decode cX13_dropped 106 = .ok (.iload_n 3, 1) := by decide +kernel
theorem dX13_dropped_107 : decode cX13_dropped 107 = .ok (.iload_n 1, 1) := by decide +kernel
theorem dX13_dropped_108 : decode cX13_dropped 108 = .ok (.if_icmp .le 100, 3) := by decide +kernel
theorem dX13_dropped_111 : decode cX13_dropped 111 = .ok (.iconst (-1), 1) := by decide +kernel
theorem dX13_dropped_112 : decode cX13_dropped 112 = .ok (.istore 5, 2) := by decide +kernel
theorem dX13_dropped_114 : decode cX13_dropped 114 = .ok (.iconst 0, 1) := by decide +kernel
theorem dX13_dropped_115 : decode cX13_dropped 115 = .ok (.istore 6, 2) := by decide +kernel
theorem dX13_dropped_117 : decode cX13_dropped 117 = .ok (.iload 6, 2) := by decide +kernel
theorem dX13_dropped_119 : decode cX13_dropped 119 = .ok (.aload_n 0, 1) := by decide +kernel
theorem dX13_dropped_120 : decode cX13_dropped 120 = .ok (.getfield 394, 3) := by decide +kernel
theorem dX13_dropped_123 : decode cX13_dropped 123 = .ok (.getfield 223, 3) := by decide +kernel
theorem dX13_dropped_126 : decode cX13_dropped 126 = .ok (.if_icmp .ge 52, 3) := by decide +kernel
theorem dX13_dropped_129 : decode cX13_dropped 129 = .ok (.iload 4, 2) := by decide +kernel
theorem dX13_dropped_131 : decode cX13_dropped 131 = .ok (.iload 6, 2) := by decide +kernel
theorem dX13_dropped_133 : decode cX13_dropped 133 = .ok (.invokestatic 440, 3) := by decide +kernel
theorem dX13_dropped_136 : decode cX13_dropped 136 = .ok (.ifCond .ne 36, 3) := by decide +kernel
theorem dX13_dropped_139 : decode cX13_dropped 139 = .ok (.iload 5, 2) := by decide +kernel
theorem dX13_dropped_141 : decode cX13_dropped 141 = .ok (.iconst (-1), 1) := by decide +kernel
theorem dX13_dropped_142 : decode cX13_dropped 142 = .ok (.if_icmp .eq 26, 3) := by decide +kernel
theorem dX13_dropped_145 : decode cX13_dropped 145 = .ok (.aload_n 0, 1) := by decide +kernel
theorem dX13_dropped_146 : decode cX13_dropped 146 = .ok (.getfield 394, 3) := by decide +kernel
theorem dX13_dropped_149 : decode cX13_dropped 149 = .ok (.getfield 340, 3) := by decide +kernel
theorem dX13_dropped_152 : decode cX13_dropped 152 = .ok (.iload 6, 2) := by decide +kernel
theorem dX13_dropped_154 : decode cX13_dropped 154 = .ok (.iaload, 1) := by decide +kernel
theorem dX13_dropped_155 : decode cX13_dropped 155 = .ok (.aload_n 0, 1) := by decide +kernel
theorem dX13_dropped_156 : decode cX13_dropped 156 = .ok (.getfield 394, 3) := by decide +kernel
theorem dX13_dropped_159 : decode cX13_dropped 159 = .ok (.getfield 340, 3) := by decide +kernel
theorem dX13_dropped_162 : decode cX13_dropped 162 = .ok (.iload 5, 2) := by decide +kernel
theorem dX13_dropped_164 : decode cX13_dropped 164 = .ok (.iaload, 1) := by decide +kernel
theorem dX13_dropped_165 : decode cX13_dropped 165 = .ok (.if_icmp .gt 7, 3) := by decide +kernel
theorem dX13_dropped_168 : decode cX13_dropped 168 = .ok (.iload 6, 2) := by decide +kernel
theorem dX13_dropped_170 : decode cX13_dropped 170 = .ok (.istore 5, 2) := by decide +kernel
theorem dX13_dropped_172 : decode cX13_dropped 172 = .ok (.iinc 6 1, 3) := by decide +kernel
theorem dX13_dropped_175 : decode cX13_dropped 175 = .ok (.goto (-58), 3) := by decide +kernel
theorem dX13_dropped_178 : decode cX13_dropped 178 = .ok (.iload 4, 2) := by decide +kernel
theorem dX13_dropped_180 : decode cX13_dropped 180 = .ok (.iconst 1, 1) := by decide +kernel
theorem dX13_dropped_181 : decode cX13_dropped 181 = .ok (.iload 5, 2) := by decide +kernel
theorem dX13_dropped_183 : decode cX13_dropped 183 = .ok (.ishl, 1) := by decide +kernel
theorem dX13_dropped_184 : decode cX13_dropped 184 = .ok (.ior, 1) := by decide +kernel
theorem dX13_dropped_185 : decode cX13_dropped 185 = .ok (.istore 4, 2) := by decide +kernel
theorem dX13_dropped_187 : decode cX13_dropped 187 = .ok (.iload_n 3, 1) := by decide +kernel
theorem dX13_dropped_188 : decode cX13_dropped 188 = .ok (.aload_n 0, 1) := by decide +kernel
theorem dX13_dropped_189 : decode cX13_dropped 189 = .ok (.aload_n 0, 1) := by decide +kernel
theorem dX13_dropped_190 : decode cX13_dropped 190 = .ok (.getfield 394, 3) := by decide +kernel
theorem dX13_dropped_193 : decode cX13_dropped 193 = .ok (.getfield 332, 3) := by decide +kernel
theorem dX13_dropped_196 : decode cX13_dropped 196 = .ok (.iload 5, 2) := by decide +kernel
theorem dX13_dropped_198 : decode cX13_dropped 198 = .ok (.iaload, 1) := by decide +kernel
theorem dX13_dropped_199 : decode cX13_dropped 199 = .ok (.iload_n 2, 1) := by decide +kernel
theorem dX13_dropped_200 : decode cX13_dropped 200 = .ok (.invokevirtual 496, 3) := by decide +kernel
theorem dX13_dropped_203 : decode cX13_dropped 203 = .ok (.isub, 1) := by decide +kernel
theorem dX13_dropped_204 : decode cX13_dropped 204 = .ok (.istore_n 3, 1) := by decide +kernel
theorem dX13_dropped_205 : decode cX13_dropped 205 = .ok (.goto (-99), 3) := by decide +kernel
theorem dX13_dropped_208 : decode cX13_dropped 208 = .ok (.aload_n 0, 1) := by decide +kernel
theorem dX13_dropped_209 : decode cX13_dropped 209 = .ok (.iload 4, 2) := by decide +kernel
theorem dX13_dropped_211 : decode cX13_dropped 211 = .ok (.invokevirtual 416, 3) := by decide +kernel
theorem dX13_dropped_214 : decode cX13_dropped 214 = .ok (.ireturn, 1) := by decide +kernel
theorem dX13_expected_0 : decode cX13_expected 0 = .ok (.lconst 0, 1) := by decide +kernel
theorem dX13_expected_1 : decode cX13_expected 1 = .ok (.lstore_n 2, 1) := by decide +kernel
theorem dX13_expected_2 : decode cX13_expected 2 = .ok (.iconst 0, 1) := by decide +kernel
theorem dX13_expected_3 : decode cX13_expected 3 = .ok (.istore 4, 2) := by decide +kernel
theorem dX13_expected_5 : decode cX13_expected 5 = .ok (.iload 4, 2) := by decide +kernel
theorem dX13_expected_7 : decode cX13_expected 7 = .ok (.aload_n 0, 1) := by decide +kernel
theorem dX13_expected_8 : decode cX13_expected 8 = .ok (.getfield 394, 3) := by decide +kernel
theorem dX13_expected_11 : decode cX13_expected 11 = .ok (.getfield 365, 3) := by decide +kernel
theorem dX13_expected_14 : decode cX13_expected 14 = .ok (.if_icmp .ge 84, 3) := by decide +kernel
theorem dX13_expected_17 : decode cX13_expected 17 = .ok (.aload_n 0, 1) := by decide +kernel
theorem dX13_expected_18 : decode cX13_expected 18 = .ok (.getfield 394, 3) := by decide +kernel
theorem dX13_expected_21 : decode cX13_expected 21 = .ok (.getfield 370, 3) := by decide +kernel
theorem dX13_expected_24 : decode cX13_expected 24 = .ok (.aload_n 1, 1) := by decide +kernel
theorem dX13_expected_25 : decode cX13_expected 25 = .ok (.iload 4, 2) := by decide +kernel
theorem dX13_expected_27 : decode cX13_expected 27 = .ok (.iaload, 1) := by decide +kernel
theorem dX13_expected_28 : decode cX13_expected 28 = .ok (.iaload, 1) := by decide +kernel
theorem dX13_expected_29 : decode cX13_expected 29 = .ok (.i2l, 1) := by decide +kernel
theorem dX13_expected_30 : decode cX13_expected 30 = .ok (.lstore 5, 2) := by decide +kernel
theorem dX13_expected_32 : decode cX13_expected 32 = .ok (.iconst 0, 1) := by decide +kernel
theorem dX13_expected_33 : decode cX13_expected 33 = .ok (.istore 7, 2) := by decide +kernel
theorem dX13_expected_35 : decode cX13_expected 35 = .ok (.iload 7, 2) := by decide +kernel
theorem dX13_expected_37 : decode cX13_expected 37 = .ok (.aload_n 0, 1) := by decide +kernel
theorem dX13_expected_38 : decode cX13_expected 38 = .ok (.getfield 394, 3) := by decide +kernel
theorem dX13_expected_41 : decode cX13_expected 41 = .ok (.getfield 365, 3) := by decide +kernel
theorem dX13_expected_44 : decode cX13_expected 44 = .ok (.if_icmp .ge 43, 3) := by decide +kernel
theorem dX13_expected_47 : decode cX13_expected 47 = .ok (.lload 5, 2) := by decide +kernel
theorem dX13_expected_49 : decode cX13_expected 49 = .ok (.iload 7, 2) := by decide +kernel
theorem dX13_expected_51 : decode cX13_expected 51 = .ok (.iload 4, 2) := by decide +kernel
theorem dX13_expected_53 : decode cX13_expected 53 = .ok (.if_icmp .ge 22, 3) := by decide +kernel
theorem dX13_expected_56 : decode cX13_expected 56 = .ok (.bipush 100, 2) := by decide +kernel
theorem dX13_expected_58 : decode cX13_expected 58 = .ok (.aload_n 0, 1) := by decide +kernel
theorem dX13_expected_59 : decode cX13_expected 59 = .ok (.getfield 394, 3) := by decide +kernel
theorem dX13_expected_62 : decode cX13_expected 62 = .ok (.getfield 372, 3) := by decide +kernel
theorem dX13_expected_65 : decode cX13_expected 65 = .ok (.aload_n 1, 1) := by decide +kernel
theorem dX13_expected_66 : decode cX13_expected 66 = .ok (.iload 7, 2) := by decide +kernel
theorem dX13_expected_68 : decode cX13_expected 68 = .ok (.iaload, 1) := by decide +kernel
theorem dX13_expected_69 : decode cX13_expected 69 = .ok (.iaload, 1) := by decide +kernel
theorem dX13_expected_70 : decode cX13_expected 70 = .ok (.isub, 1) := by decide +kernel
theorem dX13_expected_71 : decode cX13_expected 71 = .ok (.i2l, 1) := by decide +kernel
theorem dX13_expected_72 : decode cX13_expected 72 = .ok (.goto 6, 3) := by decide +kernel
theorem dX13_expected_75 : decode cX13_expected 75 = .ok (.ldc2_w 500, 3) := by decide +kernel
theorem dX13_expected_78 : decode cX13_expected 78 = .ok (.lmul, 1) := by decide +kernel
theorem dX13_expected_79 : decode cX13_expected 79 = .ok (.lstore 5, 2) := by decide +kernel
theorem dX13_expected_81 : decode cX13_expected 81 = .ok (.iinc 7 1, 3) := by decide +kernel
theorem dX13_expected_84 : decode cX13_expected 84 = .ok (.goto (-49), 3) := by decide +kernel
theorem dX13_expected_87 : decode cX13_expected 87 = .ok (.lload_n 2, 1) := by decide +kernel
theorem dX13_expected_88 : decode cX13_expected 88 = .ok (.lload 5, 2) := by decide +kernel
theorem dX13_expected_90 : decode cX13_expected 90 = .ok (.ladd, 1) := by decide +kernel
theorem dX13_expected_91 : decode cX13_expected 91 = .ok (.lstore_n 2, 1) := by decide +kernel
theorem dX13_expected_92 : decode cX13_expected 92 = .ok (.iinc 4 1, 3) := by decide +kernel
theorem dX13_expected_95 : decode cX13_expected 95 = .ok (.goto (-90), 3) := by decide +kernel
theorem dX13_expected_98 : decode cX13_expected 98 = .ok (.lload_n 2, 1) := by decide +kernel
theorem dX13_expected_99 : decode cX13_expected 99 = .ok (.lreturn, 1) := by decide +kernel
theorem dX13_knock_0 : decode cX13_knock 0 = .ok (.aload_n 0, 1) := by decide +kernel
theorem dX13_knock_1 : decode cX13_knock 1 = .ok (.iconst 0, 1) := by decide +kernel
theorem dX13_knock_2 : decode cX13_knock 2 = .ok (.putfield 75, 3) := by decide +kernel
theorem dX13_knock_5 : decode cX13_knock 5 = .ok (.aload_n 0, 1) := by decide +kernel
theorem dX13_knock_6 : decode cX13_knock 6 = .ok (.getfield 394, 3) := by decide +kernel
theorem dX13_knock_9 : decode cX13_knock 9 = .ok (.ifnonnull 10, 3) := by decide +kernel
theorem dX13_knock_12 : decode cX13_knock 12 = .ok (.aload_n 0, 1) := by decide +kernel
theorem dX13_knock_13 : decode cX13_knock 13 = .ok (.iconst 1, 1) := by decide +kernel
theorem dX13_knock_14 : decode cX13_knock 14 = .ok (.invokevirtual 81, 3) := by decide +kernel
theorem dX13_knock_17 : decode cX13_knock 17 = .ok (.i2l, 1) := by decide +kernel
theorem dX13_knock_18 : decode cX13_knock 18 = .ok (.lreturn, 1) := by decide +kernel
theorem dX13_knock_19 : decode cX13_knock 19 = .ok (.aload_n 0, 1) := by decide +kernel
theorem dX13_knock_20 : decode cX13_knock 20 = .ok (.getfield 394, 3) := by decide +kernel
theorem dX13_knock_23 : decode cX13_knock 23 = .ok (.getfield 365, 3) := by decide +kernel
theorem dX13_knock_26 : decode cX13_knock 26 = .ok (.ifCond .ne 11, 3) := by decide +kernel
theorem dX13_knock_29 : decode cX13_knock 29 = .ok (.aload_n 0, 1) := by decide +kernel
theorem dX13_knock_30 : decode cX13_knock 30 = .ok (.bipush 6, 2) := by decide +kernel
theorem dX13_knock_32 : decode cX13_knock 32 = .ok (.invokevirtual 81, 3) := by decide +kernel
theorem dX13_knock_35 : decode cX13_knock 35 = .ok (.i2l, 1) := by decide +kernel
theorem dX13_knock_36 : decode cX13_knock 36 = .ok (.lreturn, 1) := by decide +kernel
theorem dX13_knock_37 : decode cX13_knock 37 = .ok (.ldc2_w 502, 3) := by decide +kernel
theorem dX13_knock_40 : decode cX13_knock 40 = .ok (.lstore_n 1, 1) := by decide +kernel
theorem dX13_knock_41 : decode cX13_knock 41 = .ok (.iconst 0, 1) := by decide +kernel
theorem dX13_knock_42 : decode cX13_knock 42 = .ok (.istore_n 3, 1) := by decide +kernel
theorem dX13_knock_43 : decode cX13_knock 43 = .ok (.iload_n 3, 1) := by decide +kernel
theorem dX13_knock_44 : decode cX13_knock 44 = .ok (.aload_n 0, 1) := by decide +kernel
theorem dX13_knock_45 : decode cX13_knock 45 = .ok (.getfield 394, 3) := by decide +kernel
theorem dX13_knock_48 : decode cX13_knock 48 = .ok (.getfield 365, 3) := by decide +kernel
theorem dX13_knock_51 : decode cX13_knock 51 = .ok (.invokestatic 460, 3) := by decide +kernel
theorem dX13_knock_54 : decode cX13_knock 54 = .ok (.if_icmp .ge 124, 3) := by decide +kernel
theorem dX13_knock_57 : decode cX13_knock 57 = .ok (.aload_n 0, 1) := by decide +kernel
theorem dX13_knock_58 : decode cX13_knock 58 = .ok (.iconst 1, 1) := by decide +kernel
theorem dX13_knock_59 : decode cX13_knock 59 = .ok (.aload_n 0, 1) := by decide +kernel
theorem dX13_knock_60 : decode cX13_knock 60 = .ok (.getfield 394, 3) := by decide +kernel
theorem dX13_knock_63 : decode cX13_knock 63 = .ok (.getfield 365, 3) := by decide +kernel
theorem dX13_knock_66 : decode cX13_knock 66 = .ok (.ishl, 1) := by decide +kernel
theorem dX13_knock_67 : decode cX13_knock 67 = .ok (.iconst 1, 1) := by decide +kernel
theorem dX13_knock_68 : decode cX13_knock 68 = .ok (.isub, 1) := by decide +kernel
theorem dX13_knock_69 : decode cX13_knock 69 = .ok (.iload_n 3, 1) := by decide +kernel
theorem dX13_knock_70 : decode cX13_knock 70 = .ok (.invokevirtual 469, 3) := by decide +kernel
theorem dX13_knock_73 : decode cX13_knock 73 = .ok (.iconst 0, 1) := by decide +kernel
theorem dX13_knock_74 : decode cX13_knock 74 = .ok (.istore 4, 2) := by decide +kernel
theorem dX13_knock_76 : decode cX13_knock 76 = .ok (.iload 4, 2) := by decide +kernel
theorem dX13_knock_78 : decode cX13_knock 78 = .ok (.aload_n 0, 1) := by decide +kernel
theorem dX13_knock_79 : decode cX13_knock 79 = .ok (.getfield 394, 3) := by decide +kernel
theorem dX13_knock_82 : decode cX13_knock 82 = .ok (.getfield 365, 3) := by decide +kernel
theorem dX13_knock_85 : decode cX13_knock 85 = .ok (.if_icmp .ge 23, 3) := by decide +kernel
theorem dX13_knock_88 : decode cX13_knock 88 = .ok (.aload_n 0, 1) := by decide +kernel
theorem dX13_knock_89 : decode cX13_knock 89 = .ok (.getfield 48, 3) := by decide +kernel
theorem dX13_knock_92 : decode cX13_knock 92 = .ok (.iload 4, 2) := by decide +kernel
theorem dX13_knock_94 : decode cX13_knock 94 = .ok (.aload_n 0, 1) := by decide +kernel
theorem dX13_knock_95 : decode cX13_knock 95 = .ok (.getfield 24, 3) := by decide +kernel
theorem dX13_knock_98 : decode cX13_knock 98 = .ok (.iload 4, 2) := by decide +kernel
theorem dX13_knock_100 : decode cX13_knock 100 = .ok (.iaload, 1) := by decide +kernel
theorem dX13_knock_101 : decode cX13_knock 101 = .ok (.iastore, 1) := by decide +kernel
theorem dX13_knock_102 : decode cX13_knock 102 = .ok (.iinc 4 1, 3) := by decide +kernel
theorem dX13_knock_105 : decode cX13_knock 105 = .ok (.goto (-29), 3) := by decide +kernel
theorem dX13_knock_108 : decode cX13_knock 108 = .ok (.aload_n 0, 1) := by decide +kernel
theorem dX13_knock_109 : decode cX13_knock 109 = .ok (.aload_n 0, 1) := by decide +kernel
theorem dX13_knock_110 : decode cX13_knock 110 = .ok (.getfield 48, 3) := by decide +kernel
theorem dX13_knock_113 : decode cX13_knock 113 = .ok (.invokevirtual 504, 3) := by decide +kernel
theorem dX13_knock_116 : decode cX13_knock 116 = .ok (.lstore 4, 2) := by decide +kernel
theorem dX13_knock_118 : decode cX13_knock 118 = .ok (.lload_n 1, 1) := by decide +kernel
theorem dX13_knock_119 : decode cX13_knock 119 = .ok (.lconst 0, 1) := by decide +kernel
theorem dX13_knock_120 : decode cX13_knock 120 = .ok (.lcmp, 1) := by decide +kernel
theorem dX13_knock_121 : decode cX13_knock 121 = .ok (.ifCond .lt 13, 3) := by decide +kernel
theorem dX13_knock_124 : decode cX13_knock 124 = .ok (.lload 4, 2) := by decide +kernel
theorem dX13_knock_126 : decode cX13_knock 126 = .ok (.lload_n 1, 1) := by decide +kernel
theorem dX13_knock_127 : decode cX13_knock 127 = .ok (.lcmp, 1) := by decide +kernel
theorem dX13_knock_128 : decode cX13_knock 128 = .ok (.ifCond .lt 6, 3) := by decide +kernel
theorem dX13_knock_131 : decode cX13_knock 131 = .ok (.goto 41, 3) := by decide +kernel
theorem dX13_knock_134 : decode cX13_knock 134 = .ok (.lload 4, 2) := by decide +kernel
theorem dX13_knock_136 : decode cX13_knock 136 = .ok (.lstore_n 1, 1) := by decide +kernel
theorem dX13_knock_137 : decode cX13_knock 137 = .ok (.iconst 0, 1) := by decide +kernel
theorem dX13_knock_138 : decode cX13_knock 138 = .ok (.istore 6, 2) := by decide +kernel
theorem dX13_knock_140 : decode cX13_knock 140 = .ok (.iload 6, 2) := by decide +kernel
theorem dX13_knock_142 : decode cX13_knock 142 = .ok (.aload_n 0, 1) := by decide +kernel
theorem dX13_knock_143 : decode cX13_knock 143 = .ok (.getfield 394, 3) := by decide +kernel
theorem dX13_knock_146 : decode cX13_knock 146 = .ok (.getfield 365, 3) := by decide +kernel
theorem dX13_knock_149 : decode cX13_knock 149 = .ok (.if_icmp .ge 23, 3) := by decide +kernel
theorem dX13_knock_152 : decode cX13_knock 152 = .ok (.aload_n 0, 1) := by decide +kernel
theorem dX13_knock_153 : decode cX13_knock 153 = .ok (.getfield 51, 3) := by decide +kernel
theorem dX13_knock_156 : decode cX13_knock 156 = .ok (.iload 6, 2) := by decide +kernel
theorem dX13_knock_158 : decode cX13_knock 158 = .ok (.aload_n 0, 1) := by decide +kernel
theorem dX13_knock_159 : decode cX13_knock 159 = .ok (.getfield 48, 3) := by decide +kernel
theorem dX13_knock_162 : decode cX13_knock 162 = .ok (.iload 6, 2) := by decide +kernel
theorem dX13_knock_164 : decode cX13_knock 164 = .ok (.iaload, 1) := by decide +kernel
theorem dX13_knock_165 : decode cX13_knock 165 = .ok (.iastore, 1) := by decide +kernel
theorem dX13_knock_166 : decode cX13_knock 166 = .ok (.iinc 6 1, 3) := by decide +kernel
theorem dX13_knock_169 : decode cX13_knock 169 = .ok (.goto (-29), 3) := by decide +kernel
theorem dX13_knock_172 : decode cX13_knock 172 = .ok (.iinc 3 1, 3) := by decide +kernel
theorem dX13_knock_175 : decode cX13_knock 175 = .ok (.goto (-132), 3) := by decide +kernel
theorem dX13_knock_178 : decode cX13_knock 178 = .ok (.aload_n 0, 1) := by decide +kernel
theorem dX13_knock_179 : decode cX13_knock 179 = .ok (.aload_n 0, 1) := by decide +kernel
theorem dX13_knock_180 : decode cX13_knock 180 = .ok (.getfield 394, 3) := by decide +kernel
theorem dX13_knock_183 : decode cX13_knock 183 = .ok (.getfield 365, 3) := by decide +kernel
theorem dX13_knock_186 : decode cX13_knock 186 = .ok (.putfield 406, 3) := by decide +kernel
theorem dX13_knock_189 : decode cX13_knock 189 = .ok (.aload_n 0, 1) := by decide +kernel
theorem dX13_knock_190 : decode cX13_knock 190 = .ok (.iconst 0, 1) := by decide +kernel
theorem dX13_knock_191 : decode cX13_knock 191 = .ok (.invokevirtual 416, 3) := by decide +kernel
theorem dX13_knock_194 : decode cX13_knock 194 = .ok (.pop, 1) := by decide +kernel
theorem dX13_knock_195 : decode cX13_knock 195 = .ok (.lload_n 1, 1) := by decide +kernel
theorem dX13_knock_196 : decode cX13_knock 196 = .ok (.lreturn, 1) := by decide +kernel
theorem dX13_callAt_0 : decode cX13_callAt 0 = .ok (.aload_n 0, 1) := by decide +kernel
theorem dX13_callAt_1 : decode cX13_callAt 1 = .ok (.iconst 0, 1) := by decide +kernel
theorem dX13_callAt_2 : decode cX13_callAt 2 = .ok (.putfield 75, 3) := by decide +kernel
theorem dX13_callAt_5 : decode cX13_callAt 5 = .ok (.iload_n 1, 1) := by decide +kernel
theorem dX13_callAt_6 : decode cX13_callAt 6 = .ok (.ifCond .lt 20, 3) := by decide +kernel
theorem dX13_callAt_9 : decode cX13_callAt 9 = .ok (.iload_n 1, 1) := by decide +kernel
theorem dX13_callAt_10 : decode cX13_callAt 10 = .ok (.aload_n 0, 1) := by decide +kernel
theorem dX13_callAt_11 : decode cX13_callAt 11 = .ok (.getfield 406, 3) := by decide +kernel
theorem dX13_callAt_14 : decode cX13_callAt 14 = .ok (.if_icmp .ge 12, 3) := by decide +kernel
theorem dX13_callAt_17 : decode cX13_callAt 17 = .ok (.aload_n 0, 1) := by decide +kernel
theorem dX13_callAt_18 : decode cX13_callAt 18 = .ok (.getfield 51, 3) := by decide +kernel
theorem dX13_callAt_21 : decode cX13_callAt 21 = .ok (.iload_n 1, 1) := by decide +kernel
theorem dX13_callAt_22 : decode cX13_callAt 22 = .ok (.iaload, 1) := by decide +kernel
theorem dX13_callAt_23 : decode cX13_callAt 23 = .ok (.goto 4, 3) := by decide +kernel
theorem dX13_callAt_26 : decode cX13_callAt 26 = .ok (.iconst (-1), 1) := by decide +kernel
theorem dX13_callAt_27 : decode cX13_callAt 27 = .ok (.ireturn, 1) := by decide +kernel
theorem dX13_asTold_0 : decode cX13_asTold 0 = .ok (.aload_n 0, 1) := by decide +kernel
theorem dX13_asTold_1 : decode cX13_asTold 1 = .ok (.iconst 0, 1) := by decide +kernel
theorem dX13_asTold_2 : decode cX13_asTold 2 = .ok (.putfield 75, 3) := by decide +kernel
theorem dX13_asTold_5 : decode cX13_asTold 5 = .ok (.aload_n 0, 1) := by decide +kernel
theorem dX13_asTold_6 : decode cX13_asTold 6 = .ok (.getfield 394, 3) := by decide +kernel
theorem dX13_asTold_9 : decode cX13_asTold 9 = .ok (.ifnonnull 10, 3) := by decide +kernel
theorem dX13_asTold_12 : decode cX13_asTold 12 = .ok (.aload_n 0, 1) := by decide +kernel
theorem dX13_asTold_13 : decode cX13_asTold 13 = .ok (.iconst 1, 1) := by decide +kernel
theorem dX13_asTold_14 : decode cX13_asTold 14 = .ok (.invokevirtual 81, 3) := by decide +kernel
theorem dX13_asTold_17 : decode cX13_asTold 17 = .ok (.i2l, 1) := by decide +kernel
theorem dX13_asTold_18 : decode cX13_asTold 18 = .ok (.lreturn, 1) := by decide +kernel
theorem dX13_asTold_19 : decode cX13_asTold 19 = .ok (.aload_n 0, 1) := by decide +kernel
theorem dX13_asTold_20 : decode cX13_asTold 20 = .ok (.getfield 394, 3) := by decide +kernel
theorem dX13_asTold_23 : decode cX13_asTold 23 = .ok (.getfield 365, 3) := by decide +kernel
theorem dX13_asTold_26 : decode cX13_asTold 26 = .ok (.ifCond .ne 11, 3) := by decide +kernel
theorem dX13_asTold_29 : decode cX13_asTold 29 = .ok (.aload_n 0, 1) := by decide +kernel
theorem dX13_asTold_30 : decode cX13_asTold 30 = .ok (.bipush 6, 2) := by decide +kernel
theorem dX13_asTold_32 : decode cX13_asTold 32 = .ok (.invokevirtual 81, 3) := by decide +kernel
theorem dX13_asTold_35 : decode cX13_asTold 35 = .ok (.i2l, 1) := by decide +kernel
theorem dX13_asTold_36 : decode cX13_asTold 36 = .ok (.lreturn, 1) := by decide +kernel
theorem dX13_asTold_37 : decode cX13_asTold 37 = .ok (.iconst 0, 1) := by decide +kernel
theorem dX13_asTold_38 : decode cX13_asTold 38 = .ok (.istore_n 1, 1) := by decide +kernel
theorem dX13_asTold_39 : decode cX13_asTold 39 = .ok (.iload_n 1, 1) := by decide +kernel
theorem dX13_asTold_40 : decode cX13_asTold 40 = .ok (.aload_n 0, 1) := by decide +kernel
theorem dX13_asTold_41 : decode cX13_asTold 41 = .ok (.getfield 394, 3) := by decide +kernel
theorem dX13_asTold_44 : decode cX13_asTold 44 = .ok (.getfield 365, 3) := by decide +kernel
theorem dX13_asTold_47 : decode cX13_asTold 47 = .ok (.if_icmp .ge 16, 3) := by decide +kernel
theorem dX13_asTold_50 : decode cX13_asTold 50 = .ok (.aload_n 0, 1) := by decide +kernel
theorem dX13_asTold_51 : decode cX13_asTold 51 = .ok (.getfield 48, 3) := by decide +kernel
theorem dX13_asTold_54 : decode cX13_asTold 54 = .ok (.iload_n 1, 1) := by decide +kernel
theorem dX13_asTold_55 : decode cX13_asTold 55 = .ok (.iload_n 1, 1) := by decide +kernel
theorem dX13_asTold_56 : decode cX13_asTold 56 = .ok (.iastore, 1) := by decide +kernel
theorem dX13_asTold_57 : decode cX13_asTold 57 = .ok (.iinc 1 1, 3) := by decide +kernel
theorem dX13_asTold_60 : decode cX13_asTold 60 = .ok (.goto (-21), 3) := by decide +kernel
theorem dX13_asTold_63 : decode cX13_asTold 63 = .ok (.aload_n 0, 1) := by decide +kernel
theorem dX13_asTold_64 : decode cX13_asTold 64 = .ok (.iconst 0, 1) := by decide +kernel
theorem dX13_asTold_65 : decode cX13_asTold 65 = .ok (.invokevirtual 416, 3) := by decide +kernel
theorem dX13_asTold_68 : decode cX13_asTold 68 = .ok (.pop, 1) := by decide +kernel
theorem dX13_asTold_69 : decode cX13_asTold 69 = .ok (.aload_n 0, 1) := by decide +kernel
theorem dX13_asTold_70 : decode cX13_asTold 70 = .ok (.aload_n 0, 1) := by decide +kernel
theorem dX13_asTold_71 : decode cX13_asTold 71 = .ok (.getfield 48, 3) := by decide +kernel
theorem dX13_asTold_74 : decode cX13_asTold 74 = .ok (.invokevirtual 504, 3) := by decide +kernel
theorem dX13_asTold_77 : decode cX13_asTold 77 = .ok (.lreturn, 1) := by decide +kernel
theorem dX13_whoOf_0 : decode cX13_whoOf 0 = .ok (.iload_n 1, 1) := by decide +kernel
theorem dX13_whoOf_1 : decode cX13_whoOf 1 = .ok (.istore_n 3, 1) := by decide +kernel
theorem dX13_whoOf_2 : decode cX13_whoOf 2 = .ok (.bipush 6, 2) := by decide +kernel
theorem dX13_whoOf_4 : decode cX13_whoOf 4 = .ok (.istore 4, 2) := by decide +kernel
theorem dX13_whoOf_6 : decode cX13_whoOf 6 = .ok (.iload 4, 2) := by decide +kernel
theorem dX13_whoOf_8 : decode cX13_whoOf 8 = .ok (.iload_n 2, 1) := by decide +kernel
theorem dX13_whoOf_9 : decode cX13_whoOf 9 = .ok (.if_icmp .le 21, 3) := by decide +kernel
theorem dX13_whoOf_12 : decode cX13_whoOf 12 = .ok (.iload_n 3, 1) := by decide +kernel
theorem dX13_whoOf_13 : decode cX13_whoOf 13 = .ok (.aload_n 0, 1) := by decide +kernel
theorem dX13_whoOf_14 : decode cX13_whoOf 14 = .ok (.getfield 394, 3) := by decide +kernel
theorem dX13_whoOf_17 : decode cX13_whoOf 17 = .ok (.getfield 375, 3) := by decide +kernel
theorem dX13_whoOf_20 : decode cX13_whoOf 20 = .ok (.iconst 1, 1) := by decide +kernel
theorem dX13_whoOf_21 : decode cX13_whoOf 21 = .ok (.iadd, 1) := by decide +kernel
theorem dX13_whoOf_22 : decode cX13_whoOf 22 = .ok (.idiv, 1) := by decide +kernel
theorem dX13_whoOf_23 : decode cX13_whoOf 23 = .ok (.istore_n 3, 1) := by decide +kernel
theorem dX13_whoOf_24 : decode cX13_whoOf 24 = .ok (.iinc 4 (-1), 3) := by decide +kernel
theorem dX13_whoOf_27 : decode cX13_whoOf 27 = .ok (.goto (-21), 3) := by decide +kernel
theorem dX13_whoOf_30 : decode cX13_whoOf 30 = .ok (.iload_n 3, 1) := by decide +kernel
theorem dX13_whoOf_31 : decode cX13_whoOf 31 = .ok (.aload_n 0, 1) := by decide +kernel
theorem dX13_whoOf_32 : decode cX13_whoOf 32 = .ok (.getfield 394, 3) := by decide +kernel
theorem dX13_whoOf_35 : decode cX13_whoOf 35 = .ok (.getfield 375, 3) := by decide +kernel
theorem dX13_whoOf_38 : decode cX13_whoOf 38 = .ok (.iconst 1, 1) := by decide +kernel
theorem dX13_whoOf_39 : decode cX13_whoOf 39 = .ok (.iadd, 1) := by decide +kernel
theorem dX13_whoOf_40 : decode cX13_whoOf 40 = .ok (.irem, 1) := by decide +kernel
theorem dX13_whoOf_41 : decode cX13_whoOf 41 = .ok (.ireturn, 1) := by decide +kernel
theorem dX13_worthOf_0 : decode cX13_worthOf 0 = .ok (.iconst 0, 1) := by decide +kernel
theorem dX13_worthOf_1 : decode cX13_worthOf 1 = .ok (.istore_n 2, 1) := by decide +kernel
theorem dX13_worthOf_2 : decode cX13_worthOf 2 = .ok (.iconst 0, 1) := by decide +kernel
theorem dX13_worthOf_3 : decode cX13_worthOf 3 = .ok (.istore_n 3, 1) := by decide +kernel
theorem dX13_worthOf_4 : decode cX13_worthOf 4 = .ok (.iconst 0, 1) := by decide +kernel
theorem dX13_worthOf_5 : decode cX13_worthOf 5 = .ok (.istore 4, 2) := by decide +kernel
theorem dX13_worthOf_7 : decode cX13_worthOf 7 = .ok (.iload 4, 2) := by decide +kernel
theorem dX13_worthOf_9 : decode cX13_worthOf 9 = .ok (.aload_n 0, 1) := by decide +kernel
theorem dX13_worthOf_10 : decode cX13_worthOf 10 = .ok (.getfield 394, 3) := by decide +kernel
theorem dX13_worthOf_13 : decode cX13_worthOf 13 = .ok (.getfield 375, 3) := by decide +kernel
theorem dX13_worthOf_16 : decode cX13_worthOf 16 = .ok (.if_icmp .gt 17, 3) := by decide +kernel
theorem dX13_worthOf_19 : decode cX13_worthOf 19 = .ok (.aload_n 0, 1) := by decide +kernel
theorem dX13_worthOf_20 : decode cX13_worthOf 20 = .ok (.getfield 57, 3) := by decide +kernel
theorem dX13_worthOf_23 : decode cX13_worthOf 23 = .ok (.iload 4, 2) := by decide +kernel
theorem dX13_worthOf_25 : decode cX13_worthOf 25 = .ok (.iconst 0, 1) := by decide +kernel
theorem dX13_worthOf_26 : decode cX13_worthOf 26 = .ok (.iastore, 1) := by decide +kernel
theorem dX13_worthOf_27 : decode cX13_worthOf 27 = .ok (.iinc 4 1, 3) := by decide +kernel
theorem dX13_worthOf_30 : decode cX13_worthOf 30 = .ok (.goto (-23), 3) := by decide +kernel
theorem dX13_worthOf_33 : decode cX13_worthOf 33 = .ok (.iconst 0, 1) := by decide +kernel
theorem dX13_worthOf_34 : decode cX13_worthOf 34 = .ok (.istore 4, 2) := by decide +kernel
theorem dX13_worthOf_36 : decode cX13_worthOf 36 = .ok (.iload 4, 2) := by decide +kernel
theorem dX13_worthOf_38 : decode cX13_worthOf 38 = .ok (.bipush 7, 2) := by decide +kernel
theorem dX13_worthOf_40 : decode cX13_worthOf 40 = .ok (.if_icmp .ge 110, 3) := by decide +kernel
theorem dX13_worthOf_43 : decode cX13_worthOf 43 = .ok (.aload_n 0, 1) := by decide +kernel
theorem dX13_worthOf_44 : decode cX13_worthOf 44 = .ok (.iload_n 1, 1) := by decide +kernel
theorem dX13_worthOf_45 : decode cX13_worthOf 45 = .ok (.iload 4, 2) := by decide +kernel
theorem dX13_worthOf_47 : decode cX13_worthOf 47 = .ok (.invokevirtual 508, 3) := by decide +kernel
theorem dX13_worthOf_50 : decode cX13_worthOf 50 = .ok (.istore 5, 2) := by decide +kernel
theorem dX13_worthOf_52 : decode cX13_worthOf 52 = .ok (.iload 5, 2) := by decide +kernel
theorem dX13_worthOf_54 : decode cX13_worthOf 54 = .ok (.aload_n 0, 1) := by decide +kernel
theorem dX13_worthOf_55 : decode cX13_worthOf 55 = .ok (.getfield 394, 3) := by decide +kernel
theorem dX13_worthOf_58 : decode cX13_worthOf 58 = .ok (.getfield 375, 3) := by decide +kernel
theorem dX13_worthOf_61 : decode cX13_worthOf 61 = .ok (.if_icmp .ne 6, 3) := by decide +kernel
theorem dX13_worthOf_64 : decode cX13_worthOf 64 = .ok (.goto 80, 3) := by decide +kernel
theorem dX13_worthOf_67 : decode cX13_worthOf 67 = .ok (.aload_n 0, 1) := by decide +kernel
theorem dX13_worthOf_68 : decode cX13_worthOf 68 = .ok (.getfield 57, 3) := by decide +kernel
theorem dX13_worthOf_71 : decode cX13_worthOf 71 = .ok (.iload 5, 2) := by decide +kernel
theorem dX13_worthOf_73 : decode cX13_worthOf 73 = .ok (.dup2, 1) := by decide +kernel
theorem dX13_worthOf_74 : decode cX13_worthOf 74 = .ok (.iaload, 1) := by decide +kernel
theorem dX13_worthOf_75 : decode cX13_worthOf 75 = .ok (.iconst 1, 1) := by decide +kernel
theorem dX13_worthOf_76 : decode cX13_worthOf 76 = .ok (.iadd, 1) := by decide +kernel
theorem dX13_worthOf_77 : decode cX13_worthOf 77 = .ok (.iastore, 1) := by decide +kernel
theorem dX13_worthOf_78 : decode cX13_worthOf 78 = .ok (.aload_n 0, 1) := by decide +kernel
theorem dX13_worthOf_79 : decode cX13_worthOf 79 = .ok (.getfield 394, 3) := by decide +kernel
theorem dX13_worthOf_82 : decode cX13_worthOf 82 = .ok (.getfield 382, 3) := by decide +kernel
theorem dX13_worthOf_85 : decode cX13_worthOf 85 = .ok (.iload 5, 2) := by decide +kernel
theorem dX13_worthOf_87 : decode cX13_worthOf 87 = .ok (.iaload, 1) := by decide +kernel
theorem dX13_worthOf_88 : decode cX13_worthOf 88 = .ok (.iload 4, 2) := by decide +kernel
theorem dX13_worthOf_90 : decode cX13_worthOf 90 = .ok (.invokestatic 440, 3) := by decide +kernel
theorem dX13_worthOf_93 : decode cX13_worthOf 93 = .ok (.ifCond .eq 23, 3) := by decide +kernel
theorem dX13_worthOf_96 : decode cX13_worthOf 96 = .ok (.aload_n 0, 1) := by decide +kernel
theorem dX13_worthOf_97 : decode cX13_worthOf 97 = .ok (.getfield 57, 3) := by decide +kernel
theorem dX13_worthOf_100 : decode cX13_worthOf 100 = .ok (.iload 5, 2) := by decide +kernel
theorem dX13_worthOf_102 : decode cX13_worthOf 102 = .ok (.iaload, 1) := by decide +kernel
theorem dX13_worthOf_103 : decode cX13_worthOf 103 = .ok (.aload_n 0, 1) := by decide +kernel
theorem dX13_worthOf_104 : decode cX13_worthOf 104 = .ok (.getfield 394, 3) := by decide +kernel
theorem dX13_worthOf_107 : decode cX13_worthOf 107 = .ok (.getfield 385, 3) := by decide +kernel
theorem dX13_worthOf_110 : decode cX13_worthOf 110 = .ok (.iload 5, 2) := by decide +kernel
theorem dX13_worthOf_112 : decode cX13_worthOf 112 = .ok (.iaload, 1) := by decide +kernel
theorem dX13_worthOf_113 : decode cX13_worthOf 113 = .ok (.if_icmp .le 5, 3) := by decide +kernel
theorem dX13_worthOf_116 : decode cX13_worthOf 116 = .ok (.iconst (-1), 1) := by decide +kernel
theorem dX13_worthOf_117 : decode cX13_worthOf 117 = .ok (.ireturn, 1) := by decide +kernel
theorem dX13_worthOf_118 : decode cX13_worthOf 118 = .ok (.iinc 2 1, 3) := by decide +kernel
theorem dX13_worthOf_121 : decode cX13_worthOf 121 = .ok (.aload_n 0, 1) := by decide +kernel
theorem dX13_worthOf_122 : decode cX13_worthOf 122 = .ok (.getfield 57, 3) := by decide +kernel
theorem dX13_worthOf_125 : decode cX13_worthOf 125 = .ok (.iload 5, 2) := by decide +kernel
theorem dX13_worthOf_127 : decode cX13_worthOf 127 = .ok (.iaload, 1) := by decide +kernel
theorem dX13_worthOf_128 : decode cX13_worthOf 128 = .ok (.iload_n 3, 1) := by decide +kernel
theorem dX13_worthOf_129 : decode cX13_worthOf 129 = .ok (.if_icmp .le 13, 3) := by decide +kernel
theorem dX13_worthOf_132 : decode cX13_worthOf 132 = .ok (.aload_n 0, 1) := by decide +kernel
theorem dX13_worthOf_133 : decode cX13_worthOf 133 = .ok (.getfield 57, 3) := by decide +kernel
theorem dX13_worthOf_136 : decode cX13_worthOf 136 = .ok (.iload 5, 2) := by decide +kernel
theorem dX13_worthOf_138 : decode cX13_worthOf 138 = .ok (.iaload, 1) := by decide +kernel
theorem dX13_worthOf_139 : decode cX13_worthOf 139 = .ok (.goto 4, 3) := by decide +kernel
theorem dX13_worthOf_142 : decode cX13_worthOf 142 = .ok (.iload_n 3, 1) := by decide +kernel
theorem dX13_worthOf_143 : decode cX13_worthOf 143 = .ok (.istore_n 3, 1) := by decide +kernel
theorem dX13_worthOf_144 : decode cX13_worthOf 144 = .ok (.iinc 4 1, 3) := by decide +kernel
theorem dX13_worthOf_147 : decode cX13_worthOf 147 = .ok (.goto (-111), 3) := by decide +kernel
theorem dX13_worthOf_150 : decode cX13_worthOf 150 = .ok (.bipush 8, 2) := by decide +kernel
theorem dX13_worthOf_152 : decode cX13_worthOf 152 = .ok (.iload_n 2, 1) := by decide +kernel
theorem dX13_worthOf_153 : decode cX13_worthOf 153 = .ok (.imul, 1) := by decide +kernel
theorem dX13_worthOf_154 : decode cX13_worthOf 154 = .ok (.bipush 7, 2) := by decide +kernel
theorem dX13_worthOf_156 : decode cX13_worthOf 156 = .ok (.iadd, 1) := by decide +kernel
theorem dX13_worthOf_157 : decode cX13_worthOf 157 = .ok (.iload_n 3, 1) := by decide +kernel
theorem dX13_worthOf_158 : decode cX13_worthOf 158 = .ok (.isub, 1) := by decide +kernel
theorem dX13_worthOf_159 : decode cX13_worthOf 159 = .ok (.ireturn, 1) := by decide +kernel
theorem dX13_fill_0 : decode cX13_fill 0 = .ok (.aload_n 0, 1) := by decide +kernel
theorem dX13_fill_1 : decode cX13_fill 1 = .ok (.iconst 0, 1) := by decide +kernel
theorem dX13_fill_2 : decode cX13_fill 2 = .ok (.putfield 75, 3) := by decide +kernel
theorem dX13_fill_5 : decode cX13_fill 5 = .ok (.aload_n 0, 1) := by decide +kernel
theorem dX13_fill_6 : decode cX13_fill 6 = .ok (.getfield 394, 3) := by decide +kernel
theorem dX13_fill_9 : decode cX13_fill 9 = .ok (.ifnonnull 9, 3) := by decide +kernel
theorem dX13_fill_12 : decode cX13_fill 12 = .ok (.aload_n 0, 1) := by decide +kernel
theorem dX13_fill_13 : decode cX13_fill 13 = .ok (.iconst 1, 1) := by decide +kernel
theorem dX13_fill_14 : decode cX13_fill 14 = .ok (.invokevirtual 81, 3) := by decide +kernel
theorem dX13_fill_17 : decode cX13_fill 17 = .ok (.ireturn, 1) := by decide +kernel
theorem dX13_fill_18 : decode cX13_fill 18 = .ok (.iconst 1, 1) := by decide +kernel
theorem dX13_fill_19 : decode cX13_fill 19 = .ok (.istore_n 1, 1) := by decide +kernel
theorem dX13_fill_20 : decode cX13_fill 20 = .ok (.iconst 0, 1) := by decide +kernel
theorem dX13_fill_21 : decode cX13_fill 21 = .ok (.istore_n 2, 1) := by decide +kernel
theorem dX13_fill_22 : decode cX13_fill 22 = .ok (.iload_n 2, 1) := by decide +kernel
theorem dX13_fill_23 : decode cX13_fill 23 = .ok (.bipush 7, 2) := by decide +kernel
theorem dX13_fill_25 : decode cX13_fill 25 = .ok (.if_icmp .ge 21, 3) := by decide +kernel
theorem dX13_fill_28 : decode cX13_fill 28 = .ok (.iload_n 1, 1) := by decide +kernel
theorem dX13_fill_29 : decode cX13_fill 29 = .ok (.aload_n 0, 1) := by decide +kernel
theorem dX13_fill_30 : decode cX13_fill 30 = .ok (.getfield 394, 3) := by decide +kernel
theorem dX13_fill_33 : decode cX13_fill 33 = .ok (.getfield 375, 3) := by decide +kernel
theorem dX13_fill_36 : decode cX13_fill 36 = .ok (.iconst 1, 1) := by decide +kernel
theorem dX13_fill_37 : decode cX13_fill 37 = .ok (.iadd, 1) := by decide +kernel
theorem dX13_fill_38 : decode cX13_fill 38 = .ok (.imul, 1) := by decide +kernel
theorem dX13_fill_39 : decode cX13_fill 39 = .ok (.istore_n 1, 1) := by decide +kernel
theorem dX13_fill_40 : decode cX13_fill 40 = .ok (.iinc 2 1, 3) := by decide +kernel
theorem dX13_fill_43 : decode cX13_fill 43 = .ok (.goto (-21), 3) := by decide +kernel
theorem dX13_fill_46 : decode cX13_fill 46 = .ok (.iconst (-1), 1) := by decide +kernel
theorem dX13_fill_47 : decode cX13_fill 47 = .ok (.istore_n 2, 1) := by decide +kernel
theorem dX13_fill_48 : decode cX13_fill 48 = .ok (.iconst 0, 1) := by decide +kernel
theorem dX13_fill_49 : decode cX13_fill 49 = .ok (.istore_n 3, 1) := by decide +kernel
theorem dX13_fill_50 : decode cX13_fill 50 = .ok (.iconst 0, 1) := by decide +kernel
theorem dX13_fill_51 : decode cX13_fill 51 = .ok (.istore 4, 2) := by decide +kernel
theorem dX13_fill_53 : decode cX13_fill 53 = .ok (.iload 4, 2) := by decide +kernel
theorem dX13_fill_55 : decode cX13_fill 55 = .ok (.iload_n 1, 1) := by decide +kernel
theorem dX13_fill_56 : decode cX13_fill 56 = .ok (.if_icmp .ge 32, 3) := by decide +kernel
theorem dX13_fill_59 : decode cX13_fill 59 = .ok (.aload_n 0, 1) := by decide +kernel
theorem dX13_fill_60 : decode cX13_fill 60 = .ok (.iload 4, 2) := by decide +kernel
theorem dX13_fill_62 : decode cX13_fill 62 = .ok (.invokevirtual 511, 3) := by decide +kernel
theorem dX13_fill_65 : decode cX13_fill 65 = .ok (.istore 5, 2) := by decide +kernel
theorem dX13_fill_67 : decode cX13_fill 67 = .ok (.iload 5, 2) := by decide +kernel
theorem dX13_fill_69 : decode cX13_fill 69 = .ok (.iload_n 2, 1) := by decide +kernel
theorem dX13_fill_70 : decode cX13_fill 70 = .ok (.if_icmp .gt 6, 3) := by decide +kernel
theorem dX13_fill_73 : decode cX13_fill 73 = .ok (.goto 9, 3) := by decide +kernel
theorem dX13_fill_76 : decode cX13_fill 76 = .ok (.iload 5, 2) := by decide +kernel
theorem dX13_fill_78 : decode cX13_fill 78 = .ok (.istore_n 2, 1) := by decide +kernel
theorem dX13_fill_79 : decode cX13_fill 79 = .ok (.iload 4, 2) := by decide +kernel
theorem dX13_fill_81 : decode cX13_fill 81 = .ok (.istore_n 3, 1) := by decide +kernel
theorem dX13_fill_82 : decode cX13_fill 82 = .ok (.iinc 4 1, 3) := by decide +kernel
theorem dX13_fill_85 : decode cX13_fill 85 = .ok (.goto (-32), 3) := by decide +kernel
theorem dX13_fill_88 : decode cX13_fill 88 = .ok (.aload_n 0, 1) := by decide +kernel
theorem dX13_fill_89 : decode cX13_fill 89 = .ok (.iconst 1, 1) := by decide +kernel
theorem dX13_fill_90 : decode cX13_fill 90 = .ok (.putfield 409, 3) := by decide +kernel
theorem dX13_fill_93 : decode cX13_fill 93 = .ok (.iconst 0, 1) := by decide +kernel
theorem dX13_fill_94 : decode cX13_fill 94 = .ok (.istore 4, 2) := by decide +kernel
theorem dX13_fill_96 : decode cX13_fill 96 = .ok (.iload 4, 2) := by decide +kernel
theorem dX13_fill_98 : decode cX13_fill 98 = .ok (.bipush 7, 2) := by decide +kernel
theorem dX13_fill_100 : decode cX13_fill 100 = .ok (.if_icmp .ge 45, 3) := by decide +kernel
theorem dX13_fill_103 : decode cX13_fill 103 = .ok (.aload_n 0, 1) := by decide +kernel
theorem dX13_fill_104 : decode cX13_fill 104 = .ok (.getfield 54, 3) := by decide +kernel
theorem dX13_fill_107 : decode cX13_fill 107 = .ok (.iload 4, 2) := by decide +kernel
theorem dX13_fill_109 : decode cX13_fill 109 = .ok (.aload_n 0, 1) := by decide +kernel
theorem dX13_fill_110 : decode cX13_fill 110 = .ok (.iload_n 3, 1) := by decide +kernel
theorem dX13_fill_111 : decode cX13_fill 111 = .ok (.iload 4, 2) := by decide +kernel
theorem dX13_fill_113 : decode cX13_fill 113 = .ok (.invokevirtual 508, 3) := by decide +kernel
theorem dX13_fill_116 : decode cX13_fill 116 = .ok (.aload_n 0, 1) := by decide +kernel
theorem dX13_fill_117 : decode cX13_fill 117 = .ok (.getfield 394, 3) := by decide +kernel
theorem dX13_fill_120 : decode cX13_fill 120 = .ok (.getfield 375, 3) := by decide +kernel
theorem dX13_fill_123 : decode cX13_fill 123 = .ok (.if_icmp .ne 8, 3) := by decide +kernel
theorem dX13_fill_126 : decode cX13_fill 126 = .ok (.bipush (-2), 2) := by decide +kernel
theorem dX13_fill_128 : decode cX13_fill 128 = .ok (.goto 10, 3) := by decide +kernel
theorem dX13_fill_131 : decode cX13_fill 131 = .ok (.aload_n 0, 1) := by decide +kernel
theorem dX13_fill_132 : decode cX13_fill 132 = .ok (.iload_n 3, 1) := by decide +kernel
theorem dX13_fill_133 : decode cX13_fill 133 = .ok (.iload 4, 2) := by decide +kernel
theorem dX13_fill_135 : decode cX13_fill 135 = .ok (.invokevirtual 508, 3) := by decide +kernel
theorem dX13_fill_138 : decode cX13_fill 138 = .ok (.iastore, 1) := by decide +kernel
theorem dX13_fill_139 : decode cX13_fill 139 = .ok (.iinc 4 1, 3) := by decide +kernel
theorem dX13_fill_142 : decode cX13_fill 142 = .ok (.goto (-46), 3) := by decide +kernel
theorem dX13_fill_145 : decode cX13_fill 145 = .ok (.aload_n 0, 1) := by decide +kernel
theorem dX13_fill_146 : decode cX13_fill 146 = .ok (.iload_n 2, 1) := by decide +kernel
theorem dX13_fill_147 : decode cX13_fill 147 = .ok (.bipush 8, 2) := by decide +kernel
theorem dX13_fill_149 : decode cX13_fill 149 = .ok (.idiv, 1) := by decide +kernel
theorem dX13_fill_150 : decode cX13_fill 150 = .ok (.invokevirtual 416, 3) := by decide +kernel
theorem dX13_fill_153 : decode cX13_fill 153 = .ok (.ireturn, 1) := by decide +kernel
theorem dX13_helper_0 : decode cX13_helper 0 = .ok (.aload_n 0, 1) := by decide +kernel
theorem dX13_helper_1 : decode cX13_helper 1 = .ok (.iconst 0, 1) := by decide +kernel
theorem dX13_helper_2 : decode cX13_helper 2 = .ok (.putfield 75, 3) := by decide +kernel
theorem dX13_helper_5 : decode cX13_helper 5 = .ok (.aload_n 0, 1) := by decide +kernel
theorem dX13_helper_6 : decode cX13_helper 6 = .ok (.getfield 409, 3) := by decide +kernel
theorem dX13_helper_9 : decode cX13_helper 9 = .ok (.ifCond .eq 22, 3) := by decide +kernel
theorem dX13_helper_12 : decode cX13_helper 12 = .ok (.iload_n 1, 1) := by decide +kernel
theorem dX13_helper_13 : decode cX13_helper 13 = .ok (.iconst 0, 1) := by decide +kernel
theorem dX13_helper_14 : decode cX13_helper 14 = .ok (.bipush 6, 2) := by decide +kernel
theorem dX13_helper_16 : decode cX13_helper 16 = .ok (.invokestatic 153, 3) := by decide +kernel
theorem dX13_helper_19 : decode cX13_helper 19 = .ok (.ifCond .eq 12, 3) := by decide +kernel
theorem dX13_helper_22 : decode cX13_helper 22 = .ok (.aload_n 0, 1) := by decide +kernel
theorem dX13_helper_23 : decode cX13_helper 23 = .ok (.getfield 54, 3) := by decide +kernel
theorem dX13_helper_26 : decode cX13_helper 26 = .ok (.iload_n 1, 1) := by decide +kernel
theorem dX13_helper_27 : decode cX13_helper 27 = .ok (.iaload, 1) := by decide +kernel
theorem dX13_helper_28 : decode cX13_helper 28 = .ok (.goto 4, 3) := by decide +kernel
theorem dX13_helper_31 : decode cX13_helper 31 = .ok (.iconst (-1), 1) := by decide +kernel
theorem dX13_helper_32 : decode cX13_helper 32 = .ok (.ireturn, 1) := by decide +kernel
theorem dX13_sign_0 : decode cX13_sign 0 = .ok (.aload_n 0, 1) := by decide +kernel
theorem dX13_sign_1 : decode cX13_sign 1 = .ok (.iconst 0, 1) := by decide +kernel
theorem dX13_sign_2 : decode cX13_sign 2 = .ok (.putfield 75, 3) := by decide +kernel
theorem dX13_sign_5 : decode cX13_sign 5 = .ok (.aload_n 0, 1) := by decide +kernel
theorem dX13_sign_6 : decode cX13_sign 6 = .ok (.iload_n 1, 1) := by decide +kernel
theorem dX13_sign_7 : decode cX13_sign 7 = .ok (.invokevirtual 422, 3) := by decide +kernel
theorem dX13_sign_10 : decode cX13_sign 10 = .ok (.ifCond .ne 9, 3) := by decide +kernel
theorem dX13_sign_13 : decode cX13_sign 13 = .ok (.aload_n 0, 1) := by decide +kernel
theorem dX13_sign_14 : decode cX13_sign 14 = .ok (.iconst 1, 1) := by decide +kernel
theorem dX13_sign_15 : decode cX13_sign 15 = .ok (.invokevirtual 81, 3) := by decide +kernel
theorem dX13_sign_18 : decode cX13_sign 18 = .ok (.ireturn, 1) := by decide +kernel
theorem dX13_sign_19 : decode cX13_sign 19 = .ok (.iload_n 2, 1) := by decide +kernel
theorem dX13_sign_20 : decode cX13_sign 20 = .ok (.iconst 0, 1) := by decide +kernel
theorem dX13_sign_21 : decode cX13_sign 21 = .ok (.bipush 99, 2) := by decide +kernel
theorem dX13_sign_23 : decode cX13_sign 23 = .ok (.invokestatic 153, 3) := by decide +kernel
theorem dX13_sign_26 : decode cX13_sign 26 = .ok (.ifCond .ne 9, 3) := by decide +kernel
theorem dX13_sign_29 : decode cX13_sign 29 = .ok (.aload_n 0, 1) := by decide +kernel
theorem dX13_sign_30 : decode cX13_sign 30 = .ok (.iconst 2, 1) := by decide +kernel
theorem dX13_sign_31 : decode cX13_sign 31 = .ok (.invokevirtual 81, 3) := by decide +kernel
theorem dX13_sign_34 : decode cX13_sign 34 = .ok (.ireturn, 1) := by decide +kernel
theorem dX13_sign_35 : decode cX13_sign 35 = .ok (.aload_n 0, 1) := by decide +kernel
theorem dX13_sign_36 : decode cX13_sign 36 = .ok (.getfield 60, 3) := by decide +kernel
theorem dX13_sign_39 : decode cX13_sign 39 = .ok (.iload_n 1, 1) := by decide +kernel
theorem dX13_sign_40 : decode cX13_sign 40 = .ok (.iaload, 1) := by decide +kernel
theorem dX13_sign_41 : decode cX13_sign 41 = .ok (.bipush 10, 2) := by decide +kernel
theorem dX13_sign_43 : decode cX13_sign 43 = .ok (.if_icmp .ne 9, 3) := by decide +kernel
theorem dX13_sign_46 : decode cX13_sign 46 = .ok (.aload_n 0, 1) := by decide +kernel
theorem dX13_sign_47 : decode cX13_sign 47 = .ok (.iconst 3, 1) := by decide +kernel
theorem dX13_sign_48 : decode cX13_sign 48 = .ok (.invokevirtual 81, 3) := by decide +kernel
theorem dX13_sign_51 : decode cX13_sign 51 = .ok (.ireturn, 1) := by decide +kernel
theorem dX13_sign_52 : decode cX13_sign 52 = .ok (.aload_n 0, 1) := by decide +kernel
theorem dX13_sign_53 : decode cX13_sign 53 = .ok (.getfield 63, 3) := by decide +kernel
theorem dX13_sign_56 : decode cX13_sign 56 = .ok (.bipush 10, 2) := by decide +kernel
theorem dX13_sign_58 : decode cX13_sign 58 = .ok (.iload_n 1, 1) := by decide +kernel
theorem dX13_sign_59 : decode cX13_sign 59 = .ok (.imul, 1) := by decide +kernel
theorem dX13_sign_60 : decode cX13_sign 60 = .ok (.aload_n 0, 1) := by decide +kernel
theorem dX13_sign_61 : decode cX13_sign 61 = .ok (.getfield 60, 3) := by decide +kernel
theorem dX13_sign_64 : decode cX13_sign 64 = .ok (.iload_n 1, 1) := by decide +kernel
theorem dX13_sign_65 : decode cX13_sign 65 = .ok (.iaload, 1) := by decide +kernel
theorem dX13_sign_66 : decode cX13_sign 66 = .ok (.iadd, 1) := by decide +kernel
theorem dX13_sign_67 : decode cX13_sign 67 = .ok (.iload_n 2, 1) := by decide +kernel
theorem dX13_sign_68 : decode cX13_sign 68 = .ok (.iastore, 1) := by decide +kernel
theorem dX13_sign_69 : decode cX13_sign 69 = .ok (.aload_n 0, 1) := by decide +kernel
theorem dX13_sign_70 : decode cX13_sign 70 = .ok (.getfield 60, 3) := by decide +kernel
theorem dX13_sign_73 : decode cX13_sign 73 = .ok (.iload_n 1, 1) := by decide +kernel
theorem dX13_sign_74 : decode cX13_sign 74 = .ok (.dup2, 1) := by decide +kernel
theorem dX13_sign_75 : decode cX13_sign 75 = .ok (.iaload, 1) := by decide +kernel
theorem dX13_sign_76 : decode cX13_sign 76 = .ok (.iconst 1, 1) := by decide +kernel
theorem dX13_sign_77 : decode cX13_sign 77 = .ok (.iadd, 1) := by decide +kernel
theorem dX13_sign_78 : decode cX13_sign 78 = .ok (.iastore, 1) := by decide +kernel
theorem dX13_sign_79 : decode cX13_sign 79 = .ok (.aload_n 0, 1) := by decide +kernel
theorem dX13_sign_80 : decode cX13_sign 80 = .ok (.aload_n 0, 1) := by decide +kernel
theorem dX13_sign_81 : decode cX13_sign 81 = .ok (.getfield 60, 3) := by decide +kernel
theorem dX13_sign_84 : decode cX13_sign 84 = .ok (.iload_n 1, 1) := by decide +kernel
theorem dX13_sign_85 : decode cX13_sign 85 = .ok (.iaload, 1) := by decide +kernel
theorem dX13_sign_86 : decode cX13_sign 86 = .ok (.invokevirtual 416, 3) := by decide +kernel
theorem dX13_sign_89 : decode cX13_sign 89 = .ok (.ireturn, 1) := by decide +kernel
theorem dX13_fading_0 : decode cX13_fading 0 = .ok (.aload_n 0, 1) := by decide +kernel
theorem dX13_fading_1 : decode cX13_fading 1 = .ok (.iconst 0, 1) := by decide +kernel
theorem dX13_fading_2 : decode cX13_fading 2 = .ok (.putfield 75, 3) := by decide +kernel
theorem dX13_fading_5 : decode cX13_fading 5 = .ok (.aload_n 0, 1) := by decide +kernel
theorem dX13_fading_6 : decode cX13_fading 6 = .ok (.iload_n 1, 1) := by decide +kernel
theorem dX13_fading_7 : decode cX13_fading 7 = .ok (.invokevirtual 422, 3) := by decide +kernel
theorem dX13_fading_10 : decode cX13_fading 10 = .ok (.ifCond .ne 9, 3) := by decide +kernel
theorem dX13_fading_13 : decode cX13_fading 13 = .ok (.aload_n 0, 1) := by decide +kernel
theorem dX13_fading_14 : decode cX13_fading 14 = .ok (.iconst 1, 1) := by decide +kernel
theorem dX13_fading_15 : decode cX13_fading 15 = .ok (.invokevirtual 81, 3) := by decide +kernel
theorem dX13_fading_18 : decode cX13_fading 18 = .ok (.ireturn, 1) := by decide +kernel
theorem dX13_fading_19 : decode cX13_fading 19 = .ok (.aload_n 0, 1) := by decide +kernel
theorem dX13_fading_20 : decode cX13_fading 20 = .ok (.getfield 60, 3) := by decide +kernel
theorem dX13_fading_23 : decode cX13_fading 23 = .ok (.iload_n 1, 1) := by decide +kernel
theorem dX13_fading_24 : decode cX13_fading 24 = .ok (.iaload, 1) := by decide +kernel
theorem dX13_fading_25 : decode cX13_fading 25 = .ok (.istore_n 2, 1) := by decide +kernel
theorem dX13_fading_26 : decode cX13_fading 26 = .ok (.iload_n 2, 1) := by decide +kernel
theorem dX13_fading_27 : decode cX13_fading 27 = .ok (.iconst 4, 1) := by decide +kernel
theorem dX13_fading_28 : decode cX13_fading 28 = .ok (.if_icmp .ge 9, 3) := by decide +kernel
theorem dX13_fading_31 : decode cX13_fading 31 = .ok (.aload_n 0, 1) := by decide +kernel
theorem dX13_fading_32 : decode cX13_fading 32 = .ok (.iconst 5, 1) := by decide +kernel
theorem dX13_fading_33 : decode cX13_fading 33 = .ok (.invokevirtual 81, 3) := by decide +kernel
theorem dX13_fading_36 : decode cX13_fading 36 = .ok (.ireturn, 1) := by decide +kernel
theorem dX13_fading_37 : decode cX13_fading 37 = .ok (.bipush 10, 2) := by decide +kernel
theorem dX13_fading_39 : decode cX13_fading 39 = .ok (.iload_n 1, 1) := by decide +kernel
theorem dX13_fading_40 : decode cX13_fading 40 = .ok (.imul, 1) := by decide +kernel
theorem dX13_fading_41 : decode cX13_fading 41 = .ok (.istore_n 3, 1) := by decide +kernel
theorem dX13_fading_42 : decode cX13_fading 42 = .ok (.aload_n 0, 1) := by decide +kernel
theorem dX13_fading_43 : decode cX13_fading 43 = .ok (.getfield 63, 3) := by decide +kernel
theorem dX13_fading_46 : decode cX13_fading 46 = .ok (.iload_n 3, 1) := by decide +kernel
theorem dX13_fading_47 : decode cX13_fading 47 = .ok (.iload_n 2, 1) := by decide +kernel
theorem dX13_fading_48 : decode cX13_fading 48 = .ok (.iadd, 1) := by decide +kernel
theorem dX13_fading_49 : decode cX13_fading 49 = .ok (.iconst 1, 1) := by decide +kernel
theorem dX13_fading_50 : decode cX13_fading 50 = .ok (.isub, 1) := by decide +kernel
theorem dX13_fading_51 : decode cX13_fading 51 = .ok (.iaload, 1) := by decide +kernel
theorem dX13_fading_52 : decode cX13_fading 52 = .ok (.aload_n 0, 1) := by decide +kernel
theorem dX13_fading_53 : decode cX13_fading 53 = .ok (.getfield 63, 3) := by decide +kernel
theorem dX13_fading_56 : decode cX13_fading 56 = .ok (.iload_n 3, 1) := by decide +kernel
theorem dX13_fading_57 : decode cX13_fading 57 = .ok (.iload_n 2, 1) := by decide +kernel
theorem dX13_fading_58 : decode cX13_fading 58 = .ok (.iadd, 1) := by decide +kernel
theorem dX13_fading_59 : decode cX13_fading 59 = .ok (.iconst 2, 1) := by decide +kernel
theorem dX13_fading_60 : decode cX13_fading 60 = .ok (.isub, 1) := by decide +kernel
theorem dX13_fading_61 : decode cX13_fading 61 = .ok (.iaload, 1) := by decide +kernel
theorem dX13_fading_62 : decode cX13_fading 62 = .ok (.iadd, 1) := by decide +kernel
theorem dX13_fading_63 : decode cX13_fading 63 = .ok (.aload_n 0, 1) := by decide +kernel
theorem dX13_fading_64 : decode cX13_fading 64 = .ok (.getfield 63, 3) := by decide +kernel
theorem dX13_fading_67 : decode cX13_fading 67 = .ok (.iload_n 3, 1) := by decide +kernel
theorem dX13_fading_68 : decode cX13_fading 68 = .ok (.iload_n 2, 1) := by decide +kernel
theorem dX13_fading_69 : decode cX13_fading 69 = .ok (.iadd, 1) := by decide +kernel
theorem dX13_fading_70 : decode cX13_fading 70 = .ok (.iconst 3, 1) := by decide +kernel
theorem dX13_fading_71 : decode cX13_fading 71 = .ok (.isub, 1) := by decide +kernel
theorem dX13_fading_72 : decode cX13_fading 72 = .ok (.iaload, 1) := by decide +kernel
theorem dX13_fading_73 : decode cX13_fading 73 = .ok (.iadd, 1) := by decide +kernel
theorem dX13_fading_74 : decode cX13_fading 74 = .ok (.istore 4, 2) := by decide +kernel
theorem dX13_fading_76 : decode cX13_fading 76 = .ok (.iconst 0, 1) := by decide +kernel
theorem dX13_fading_77 : decode cX13_fading 77 = .ok (.istore 5, 2) := by decide +kernel
theorem dX13_fading_79 : decode cX13_fading 79 = .ok (.iconst 0, 1) := by decide +kernel
theorem dX13_fading_80 : decode cX13_fading 80 = .ok (.istore 6, 2) := by decide +kernel
theorem dX13_fading_82 : decode cX13_fading 82 = .ok (.iload 6, 2) := by decide +kernel
theorem dX13_fading_84 : decode cX13_fading 84 = .ok (.iload_n 2, 1) := by decide +kernel
theorem dX13_fading_85 : decode cX13_fading 85 = .ok (.if_icmp .ge 89, 3) := by decide +kernel
theorem dX13_fading_88 : decode cX13_fading 88 = .ok (.iload 6, 2) := by decide +kernel
theorem dX13_fading_90 : decode cX13_fading 90 = .ok (.iconst 1, 1) := by decide +kernel
theorem dX13_fading_91 : decode cX13_fading 91 = .ok (.iadd, 1) := by decide +kernel
theorem dX13_fading_92 : decode cX13_fading 92 = .ok (.istore 7, 2) := by decide +kernel
theorem dX13_fading_94 : decode cX13_fading 94 = .ok (.iload 7, 2) := by decide +kernel
theorem dX13_fading_96 : decode cX13_fading 96 = .ok (.iload_n 2, 1) := by decide +kernel
theorem dX13_fading_97 : decode cX13_fading 97 = .ok (.if_icmp .ge 71, 3) := by decide +kernel
theorem dX13_fading_100 : decode cX13_fading 100 = .ok (.iload 7, 2) := by decide +kernel
theorem dX13_fading_102 : decode cX13_fading 102 = .ok (.iconst 1, 1) := by decide +kernel
theorem dX13_fading_103 : decode cX13_fading 103 = .ok (.iadd, 1) := by decide +kernel
theorem dX13_fading_104 : decode cX13_fading 104 = .ok (.istore 8, 2) := by decide +kernel
theorem dX13_fading_106 : decode cX13_fading 106 = .ok (.iload 8, 2) := by decide +kernel
theorem dX13_fading_108 : decode cX13_fading 108 = .ok (.iload_n 2, 1) := by decide +kernel
theorem dX13_fading_109 : decode cX13_fading 109 = .ok (.if_icmp .ge 53, 3) := by decide +kernel
theorem dX13_fading_112 : decode cX13_fading 112 = .ok (.iload 5, 2) := by decide +kernel
theorem dX13_fading_114 : decode cX13_fading 114 = .ok (.aload_n 0, 1) := by decide +kernel
theorem dX13_fading_115 : decode cX13_fading 115 = .ok (.getfield 63, 3) := by decide +kernel
theorem dX13_fading_118 : decode cX13_fading 118 = .ok (.iload_n 3, 1) := by decide +kernel
theorem dX13_fading_119 : decode cX13_fading 119 = .ok (.iload 6, 2) := by decide +kernel
theorem dX13_fading_121 : decode cX13_fading 121 = .ok (.iadd, 1) := by decide +kernel
theorem dX13_fading_122 : decode cX13_fading 122 = .ok (.iaload, 1) := by decide +kernel
theorem dX13_fading_123 : decode cX13_fading 123 = .ok (.aload_n 0, 1) := by decide +kernel
theorem dX13_fading_124 : decode cX13_fading 124 = .ok (.getfield 63, 3) := by decide +kernel
theorem dX13_fading_127 : decode cX13_fading 127 = .ok (.iload_n 3, 1) := by decide +kernel
theorem dX13_fading_128 : decode cX13_fading 128 = .ok (.iload 7, 2) := by decide +kernel
theorem dX13_fading_130 : decode cX13_fading 130 = .ok (.iadd, 1) := by decide +kernel
theorem dX13_fading_131 : decode cX13_fading 131 = .ok (.iaload, 1) := by decide +kernel
theorem dX13_fading_132 : decode cX13_fading 132 = .ok (.iadd, 1) := by decide +kernel
theorem dX13_fading_133 : decode cX13_fading 133 = .ok (.aload_n 0, 1) := by decide +kernel
theorem dX13_fading_134 : decode cX13_fading 134 = .ok (.getfield 63, 3) := by decide +kernel
theorem dX13_fading_137 : decode cX13_fading 137 = .ok (.iload_n 3, 1) := by decide +kernel
theorem dX13_fading_138 : decode cX13_fading 138 = .ok (.iload 8, 2) := by decide +kernel
theorem dX13_fading_140 : decode cX13_fading 140 = .ok (.iadd, 1) := by decide +kernel
theorem dX13_fading_141 : decode cX13_fading 141 = .ok (.iaload, 1) := by decide +kernel
theorem dX13_fading_142 : decode cX13_fading 142 = .ok (.iadd, 1) := by decide +kernel
theorem dX13_fading_143 : decode cX13_fading 143 = .ok (.iload 4, 2) := by decide +kernel
theorem dX13_fading_145 : decode cX13_fading 145 = .ok (.if_icmp .lt 7, 3) := by decide +kernel
theorem dX13_fading_148 : decode cX13_fading 148 = .ok (.iconst 1, 1) := by decide +kernel
theorem dX13_fading_149 : decode cX13_fading 149 = .ok (.goto 4, 3) := by decide +kernel
theorem dX13_fading_152 : decode cX13_fading 152 = .ok (.iconst 0, 1) := by decide +kernel
theorem dX13_fading_153 : decode cX13_fading 153 = .ok (.iadd, 1) := by decide +kernel
theorem dX13_fading_154 : decode cX13_fading 154 = .ok (.istore 5, 2) := by decide +kernel
theorem dX13_fading_156 : decode cX13_fading 156 = .ok (.iinc 8 1, 3) := by decide +kernel
theorem dX13_fading_159 : decode cX13_fading 159 = .ok (.goto (-53), 3) := by decide +kernel
theorem dX13_fading_162 : decode cX13_fading 162 = .ok (.iinc 7 1, 3) := by decide +kernel
theorem dX13_fading_165 : decode cX13_fading 165 = .ok (.goto (-71), 3) := by decide +kernel
theorem dX13_fading_168 : decode cX13_fading 168 = .ok (.iinc 6 1, 3) := by decide +kernel
theorem dX13_fading_171 : decode cX13_fading 171 = .ok (.goto (-89), 3) := by decide +kernel
theorem dX13_fading_174 : decode cX13_fading 174 = .ok (.aload_n 0, 1) := by decide +kernel
theorem dX13_fading_175 : decode cX13_fading 175 = .ok (.iload 5, 2) := by decide +kernel
theorem dX13_fading_177 : decode cX13_fading 177 = .ok (.invokevirtual 416, 3) := by decide +kernel
theorem dX13_fading_180 : decode cX13_fading 180 = .ok (.ireturn, 1) := by decide +kernel
theorem dX13_probe_0 : decode cX13_probe 0 = .ok (.aload_n 0, 1) := by decide +kernel
theorem dX13_probe_1 : decode cX13_probe 1 = .ok (.iconst 0, 1) := by decide +kernel
theorem dX13_probe_2 : decode cX13_probe 2 = .ok (.putfield 75, 3) := by decide +kernel
theorem dX13_probe_5 : decode cX13_probe 5 = .ok (.aload_n 0, 1) := by decide +kernel
theorem dX13_probe_6 : decode cX13_probe 6 = .ok (.iload_n 1, 1) := by decide +kernel
theorem dX13_probe_7 : decode cX13_probe 7 = .ok (.invokevirtual 419, 3) := by decide +kernel
theorem dX13_probe_10 : decode cX13_probe 10 = .ok (.ifCond .ne 9, 3) := by decide +kernel
theorem dX13_probe_13 : decode cX13_probe 13 = .ok (.aload_n 0, 1) := by decide +kernel
theorem dX13_probe_14 : decode cX13_probe 14 = .ok (.iconst 1, 1) := by decide +kernel
theorem dX13_probe_15 : decode cX13_probe 15 = .ok (.invokevirtual 81, 3) := by decide +kernel
theorem dX13_probe_18 : decode cX13_probe 18 = .ok (.ireturn, 1) := by decide +kernel
theorem dX13_probe_19 : decode cX13_probe 19 = .ok (.iload_n 2, 1) := by decide +kernel
theorem dX13_probe_20 : decode cX13_probe 20 = .ok (.aload_n 0, 1) := by decide +kernel
theorem dX13_probe_21 : decode cX13_probe 21 = .ok (.getfield 394, 3) := by decide +kernel
theorem dX13_probe_24 : decode cX13_probe 24 = .ok (.getfield 356, 3) := by decide +kernel
theorem dX13_probe_27 : decode cX13_probe 27 = .ok (.iload_n 1, 1) := by decide +kernel
theorem dX13_probe_28 : decode cX13_probe 28 = .ok (.iaload, 1) := by decide +kernel
theorem dX13_probe_29 : decode cX13_probe 29 = .ok (.sipush 999, 3) := by decide +kernel
theorem dX13_probe_32 : decode cX13_probe 32 = .ok (.invokestatic 153, 3) := by decide +kernel
theorem dX13_probe_35 : decode cX13_probe 35 = .ok (.ifCond .eq 13, 3) := by decide +kernel
theorem dX13_probe_38 : decode cX13_probe 38 = .ok (.iload_n 3, 1) := by decide +kernel
theorem dX13_probe_39 : decode cX13_probe 39 = .ok (.iconst 0, 1) := by decide +kernel
theorem dX13_probe_40 : decode cX13_probe 40 = .ok (.bipush 99, 2) := by decide +kernel
theorem dX13_probe_42 : decode cX13_probe 42 = .ok (.invokestatic 153, 3) := by decide +kernel
theorem dX13_probe_45 : decode cX13_probe 45 = .ok (.ifCond .ne 9, 3) := by decide +kernel
theorem dX13_probe_48 : decode cX13_probe 48 = .ok (.aload_n 0, 1) := by decide +kernel
theorem dX13_probe_49 : decode cX13_probe 49 = .ok (.iconst 2, 1) := by decide +kernel
theorem dX13_probe_50 : decode cX13_probe 50 = .ok (.invokevirtual 81, 3) := by decide +kernel
theorem dX13_probe_53 : decode cX13_probe 53 = .ok (.ireturn, 1) := by decide +kernel
theorem dX13_probe_54 : decode cX13_probe 54 = .ok (.aload_n 0, 1) := by decide +kernel
theorem dX13_probe_55 : decode cX13_probe 55 = .ok (.getfield 400, 3) := by decide +kernel
theorem dX13_probe_58 : decode cX13_probe 58 = .ok (.bipush 16, 2) := by decide +kernel
theorem dX13_probe_60 : decode cX13_probe 60 = .ok (.if_icmp .ne 9, 3) := by decide +kernel
theorem dX13_probe_63 : decode cX13_probe 63 = .ok (.aload_n 0, 1) := by decide +kernel
theorem dX13_probe_64 : decode cX13_probe 64 = .ok (.iconst 3, 1) := by decide +kernel
theorem dX13_probe_65 : decode cX13_probe 65 = .ok (.invokevirtual 81, 3) := by decide +kernel
theorem dX13_probe_68 : decode cX13_probe 68 = .ok (.ireturn, 1) := by decide +kernel
theorem dX13_probe_69 : decode cX13_probe 69 = .ok (.aload_n 0, 1) := by decide +kernel
theorem dX13_probe_70 : decode cX13_probe 70 = .ok (.getfield 66, 3) := by decide +kernel
theorem dX13_probe_73 : decode cX13_probe 73 = .ok (.aload_n 0, 1) := by decide +kernel
theorem dX13_probe_74 : decode cX13_probe 74 = .ok (.getfield 400, 3) := by decide +kernel
theorem dX13_probe_77 : decode cX13_probe 77 = .ok (.iload_n 1, 1) := by decide +kernel
theorem dX13_probe_78 : decode cX13_probe 78 = .ok (.iastore, 1) := by decide +kernel
theorem dX13_probe_79 : decode cX13_probe 79 = .ok (.aload_n 0, 1) := by decide +kernel
theorem dX13_probe_80 : decode cX13_probe 80 = .ok (.getfield 69, 3) := by decide +kernel
theorem dX13_probe_83 : decode cX13_probe 83 = .ok (.aload_n 0, 1) := by decide +kernel
theorem dX13_probe_84 : decode cX13_probe 84 = .ok (.getfield 400, 3) := by decide +kernel
theorem dX13_probe_87 : decode cX13_probe 87 = .ok (.iload_n 2, 1) := by decide +kernel
theorem dX13_probe_88 : decode cX13_probe 88 = .ok (.iastore, 1) := by decide +kernel
theorem dX13_probe_89 : decode cX13_probe 89 = .ok (.aload_n 0, 1) := by decide +kernel
theorem dX13_probe_90 : decode cX13_probe 90 = .ok (.getfield 72, 3) := by decide +kernel
theorem dX13_probe_93 : decode cX13_probe 93 = .ok (.aload_n 0, 1) := by decide +kernel
theorem dX13_probe_94 : decode cX13_probe 94 = .ok (.getfield 400, 3) := by decide +kernel
theorem dX13_probe_97 : decode cX13_probe 97 = .ok (.iload_n 3, 1) := by decide +kernel
theorem dX13_probe_98 : decode cX13_probe 98 = .ok (.iastore, 1) := by decide +kernel
theorem dX13_probe_99 : decode cX13_probe 99 = .ok (.aload_n 0, 1) := by decide +kernel
theorem dX13_probe_100 : decode cX13_probe 100 = .ok (.dup, 1) := by decide +kernel
theorem dX13_probe_101 : decode cX13_probe 101 = .ok (.getfield 400, 3) := by decide +kernel
theorem dX13_probe_104 : decode cX13_probe 104 = .ok (.iconst 1, 1) := by decide +kernel
theorem dX13_probe_105 : decode cX13_probe 105 = .ok (.iadd, 1) := by decide +kernel
theorem dX13_probe_106 : decode cX13_probe 106 = .ok (.putfield 400, 3) := by decide +kernel
theorem dX13_probe_109 : decode cX13_probe 109 = .ok (.aload_n 0, 1) := by decide +kernel
theorem dX13_probe_110 : decode cX13_probe 110 = .ok (.aload_n 0, 1) := by decide +kernel
theorem dX13_probe_111 : decode cX13_probe 111 = .ok (.getfield 400, 3) := by decide +kernel
theorem dX13_probe_114 : decode cX13_probe 114 = .ok (.invokevirtual 416, 3) := by decide +kernel
theorem dX13_probe_117 : decode cX13_probe 117 = .ok (.ireturn, 1) := by decide +kernel
theorem dX13_faulty_0 : decode cX13_faulty 0 = .ok (.aload_n 0, 1) := by decide +kernel
theorem dX13_faulty_1 : decode cX13_faulty 1 = .ok (.iconst 0, 1) := by decide +kernel
theorem dX13_faulty_2 : decode cX13_faulty 2 = .ok (.putfield 75, 3) := by decide +kernel
theorem dX13_faulty_5 : decode cX13_faulty 5 = .ok (.aload_n 0, 1) := by decide +kernel
theorem dX13_faulty_6 : decode cX13_faulty 6 = .ok (.getfield 394, 3) := by decide +kernel
theorem dX13_faulty_9 : decode cX13_faulty 9 = .ok (.ifnonnull 9, 3) := by decide +kernel
theorem dX13_faulty_12 : decode cX13_faulty 12 = .ok (.aload_n 0, 1) := by decide +kernel
theorem dX13_faulty_13 : decode cX13_faulty 13 = .ok (.iconst 1, 1) := by decide +kernel
theorem dX13_faulty_14 : decode cX13_faulty 14 = .ok (.invokevirtual 81, 3) := by decide +kernel
theorem dX13_faulty_17 : decode cX13_faulty 17 = .ok (.ireturn, 1) := by decide +kernel
theorem dX13_faulty_18 : decode cX13_faulty 18 = .ok (.iload_n 1, 1) := by decide +kernel
theorem dX13_faulty_19 : decode cX13_faulty 19 = .ok (.iconst 0, 1) := by decide +kernel
theorem dX13_faulty_20 : decode cX13_faulty 20 = .ok (.bipush 99, 2) := by decide +kernel
theorem dX13_faulty_22 : decode cX13_faulty 22 = .ok (.invokestatic 153, 3) := by decide +kernel
theorem dX13_faulty_25 : decode cX13_faulty 25 = .ok (.ifCond .ne 9, 3) := by decide +kernel
theorem dX13_faulty_28 : decode cX13_faulty 28 = .ok (.aload_n 0, 1) := by decide +kernel
theorem dX13_faulty_29 : decode cX13_faulty 29 = .ok (.iconst 2, 1) := by decide +kernel
theorem dX13_faulty_30 : decode cX13_faulty 30 = .ok (.invokevirtual 81, 3) := by decide +kernel
theorem dX13_faulty_33 : decode cX13_faulty 33 = .ok (.ireturn, 1) := by decide +kernel
theorem dX13_faulty_34 : decode cX13_faulty 34 = .ok (.iconst 0, 1) := by decide +kernel
theorem dX13_faulty_35 : decode cX13_faulty 35 = .ok (.istore_n 2, 1) := by decide +kernel
theorem dX13_faulty_36 : decode cX13_faulty 36 = .ok (.iconst 0, 1) := by decide +kernel
theorem dX13_faulty_37 : decode cX13_faulty 37 = .ok (.istore_n 3, 1) := by decide +kernel
theorem dX13_faulty_38 : decode cX13_faulty 38 = .ok (.iload_n 3, 1) := by decide +kernel
theorem dX13_faulty_39 : decode cX13_faulty 39 = .ok (.aload_n 0, 1) := by decide +kernel
theorem dX13_faulty_40 : decode cX13_faulty 40 = .ok (.getfield 400, 3) := by decide +kernel
theorem dX13_faulty_43 : decode cX13_faulty 43 = .ok (.if_icmp .ge 57, 3) := by decide +kernel
theorem dX13_faulty_46 : decode cX13_faulty 46 = .ok (.aload_n 0, 1) := by decide +kernel
theorem dX13_faulty_47 : decode cX13_faulty 47 = .ok (.getfield 72, 3) := by decide +kernel
theorem dX13_faulty_50 : decode cX13_faulty 50 = .ok (.iload_n 3, 1) := by decide +kernel
theorem dX13_faulty_51 : decode cX13_faulty 51 = .ok (.iaload, 1) := by decide +kernel
theorem dX13_faulty_52 : decode cX13_faulty 52 = .ok (.aload_n 0, 1) := by decide +kernel
theorem dX13_faulty_53 : decode cX13_faulty 53 = .ok (.aload_n 0, 1) := by decide +kernel
theorem dX13_faulty_54 : decode cX13_faulty 54 = .ok (.getfield 66, 3) := by decide +kernel
theorem dX13_faulty_57 : decode cX13_faulty 57 = .ok (.iload_n 3, 1) := by decide +kernel
theorem dX13_faulty_58 : decode cX13_faulty 58 = .ok (.iaload, 1) := by decide +kernel
theorem dX13_faulty_59 : decode cX13_faulty 59 = .ok (.aload_n 0, 1) := by decide +kernel
theorem dX13_faulty_60 : decode cX13_faulty 60 = .ok (.getfield 69, 3) := by decide +kernel
theorem dX13_faulty_63 : decode cX13_faulty 63 = .ok (.iload_n 3, 1) := by decide +kernel
theorem dX13_faulty_64 : decode cX13_faulty 64 = .ok (.iaload, 1) := by decide +kernel
theorem dX13_faulty_65 : decode cX13_faulty 65 = .ok (.invokevirtual 437, 3) := by decide +kernel
theorem dX13_faulty_68 : decode cX13_faulty 68 = .ok (.isub, 1) := by decide +kernel
theorem dX13_faulty_69 : decode cX13_faulty 69 = .ok (.istore 4, 2) := by decide +kernel
theorem dX13_faulty_71 : decode cX13_faulty 71 = .ok (.iload_n 2, 1) := by decide +kernel
theorem dX13_faulty_72 : decode cX13_faulty 72 = .ok (.iload 4, 2) := by decide +kernel
theorem dX13_faulty_74 : decode cX13_faulty 74 = .ok (.iload_n 1, 1) := by decide +kernel
theorem dX13_faulty_75 : decode cX13_faulty 75 = .ok (.if_icmp .gt 10, 3) := by decide +kernel
theorem dX13_faulty_78 : decode cX13_faulty 78 = .ok (.iload 4, 2) := by decide +kernel
theorem dX13_faulty_80 : decode cX13_faulty 80 = .ok (.ineg, 1) := by decide +kernel
theorem dX13_faulty_81 : decode cX13_faulty 81 = .ok (.iload_n 1, 1) := by decide +kernel
theorem dX13_faulty_82 : decode cX13_faulty 82 = .ok (.if_icmp .le 9, 3) := by decide +kernel
theorem dX13_faulty_85 : decode cX13_faulty 85 = .ok (.iconst 1, 1) := by decide +kernel
theorem dX13_faulty_86 : decode cX13_faulty 86 = .ok (.iload_n 3, 1) := by decide +kernel
theorem dX13_faulty_87 : decode cX13_faulty 87 = .ok (.ishl, 1) := by decide +kernel
theorem dX13_faulty_88 : decode cX13_faulty 88 = .ok (.goto 4, 3) := by decide +kernel
theorem dX13_faulty_91 : decode cX13_faulty 91 = .ok (.iconst 0, 1) := by decide +kernel
theorem dX13_faulty_92 : decode cX13_faulty 92 = .ok (.ior, 1) := by decide +kernel
theorem dX13_faulty_93 : decode cX13_faulty 93 = .ok (.istore_n 2, 1) := by decide +kernel
theorem dX13_faulty_94 : decode cX13_faulty 94 = .ok (.iinc 3 1, 3) := by decide +kernel
theorem dX13_faulty_97 : decode cX13_faulty 97 = .ok (.goto (-59), 3) := by decide +kernel
theorem dX13_faulty_100 : decode cX13_faulty 100 = .ok (.aload_n 0, 1) := by decide +kernel
theorem dX13_faulty_101 : decode cX13_faulty 101 = .ok (.iload_n 2, 1) := by decide +kernel
theorem dX13_faulty_102 : decode cX13_faulty 102 = .ok (.invokevirtual 416, 3) := by decide +kernel
theorem dX13_faulty_105 : decode cX13_faulty 105 = .ok (.ireturn, 1) := by decide +kernel
theorem dX13_firstCold_0 : decode cX13_firstCold 0 = .ok (.aload_n 0, 1) := by decide +kernel
theorem dX13_firstCold_1 : decode cX13_firstCold 1 = .ok (.iconst 0, 1) := by decide +kernel
theorem dX13_firstCold_2 : decode cX13_firstCold 2 = .ok (.putfield 75, 3) := by decide +kernel
theorem dX13_firstCold_5 : decode cX13_firstCold 5 = .ok (.aload_n 0, 1) := by decide +kernel
theorem dX13_firstCold_6 : decode cX13_firstCold 6 = .ok (.getfield 394, 3) := by decide +kernel
theorem dX13_firstCold_9 : decode cX13_firstCold 9 = .ok (.ifnonnull 9, 3) := by decide +kernel
theorem dX13_firstCold_12 : decode cX13_firstCold 12 = .ok (.aload_n 0, 1) := by decide +kernel
theorem dX13_firstCold_13 : decode cX13_firstCold 13 = .ok (.iconst 1, 1) := by decide +kernel
theorem dX13_firstCold_14 : decode cX13_firstCold 14 = .ok (.invokevirtual 81, 3) := by decide +kernel
theorem dX13_firstCold_17 : decode cX13_firstCold 17 = .ok (.ireturn, 1) := by decide +kernel
theorem dX13_firstCold_18 : decode cX13_firstCold 18 = .ok (.bipush (-2), 2) := by decide +kernel
theorem dX13_firstCold_20 : decode cX13_firstCold 20 = .ok (.istore_n 1, 1) := by decide +kernel
theorem dX13_firstCold_21 : decode cX13_firstCold 21 = .ok (.iconst 0, 1) := by decide +kernel
theorem dX13_firstCold_22 : decode cX13_firstCold 22 = .ok (.istore_n 2, 1) := by decide +kernel
theorem dX13_firstCold_23 : decode cX13_firstCold 23 = .ok (.iload_n 2, 1) := by decide +kernel
theorem dX13_firstCold_24 : decode cX13_firstCold 24 = .ok (.aload_n 0, 1) := by decide +kernel
theorem dX13_firstCold_25 : decode cX13_firstCold 25 = .ok (.getfield 400, 3) := by decide +kernel
theorem dX13_firstCold_28 : decode cX13_firstCold 28 = .ok (.if_icmp .ge 48, 3) := by decide +kernel
theorem dX13_firstCold_31 : decode cX13_firstCold 31 = .ok (.aload_n 0, 1) := by decide +kernel
theorem dX13_firstCold_32 : decode cX13_firstCold 32 = .ok (.getfield 72, 3) := by decide +kernel
theorem dX13_firstCold_35 : decode cX13_firstCold 35 = .ok (.iload_n 2, 1) := by decide +kernel
theorem dX13_firstCold_36 : decode cX13_firstCold 36 = .ok (.iaload, 1) := by decide +kernel
theorem dX13_firstCold_37 : decode cX13_firstCold 37 = .ok (.aload_n 0, 1) := by decide +kernel
theorem dX13_firstCold_38 : decode cX13_firstCold 38 = .ok (.getfield 394, 3) := by decide +kernel
theorem dX13_firstCold_41 : decode cX13_firstCold 41 = .ok (.getfield 220, 3) := by decide +kernel
theorem dX13_firstCold_44 : decode cX13_firstCold 44 = .ok (.if_icmp .ge 26, 3) := by decide +kernel
theorem dX13_firstCold_47 : decode cX13_firstCold 47 = .ok (.iload_n 1, 1) := by decide +kernel
theorem dX13_firstCold_48 : decode cX13_firstCold 48 = .ok (.bipush (-2), 2) := by decide +kernel
theorem dX13_firstCold_50 : decode cX13_firstCold 50 = .ok (.if_icmp .eq 18, 3) := by decide +kernel
theorem dX13_firstCold_53 : decode cX13_firstCold 53 = .ok (.aload_n 0, 1) := by decide +kernel
theorem dX13_firstCold_54 : decode cX13_firstCold 54 = .ok (.getfield 69, 3) := by decide +kernel
theorem dX13_firstCold_57 : decode cX13_firstCold 57 = .ok (.iload_n 2, 1) := by decide +kernel
theorem dX13_firstCold_58 : decode cX13_firstCold 58 = .ok (.iaload, 1) := by decide +kernel
theorem dX13_firstCold_59 : decode cX13_firstCold 59 = .ok (.aload_n 0, 1) := by decide +kernel
theorem dX13_firstCold_60 : decode cX13_firstCold 60 = .ok (.getfield 69, 3) := by decide +kernel
theorem dX13_firstCold_63 : decode cX13_firstCold 63 = .ok (.iload_n 1, 1) := by decide +kernel
theorem dX13_firstCold_64 : decode cX13_firstCold 64 = .ok (.iaload, 1) := by decide +kernel
theorem dX13_firstCold_65 : decode cX13_firstCold 65 = .ok (.if_icmp .ge 5, 3) := by decide +kernel
theorem dX13_firstCold_68 : decode cX13_firstCold 68 = .ok (.iload_n 2, 1) := by decide +kernel
theorem dX13_firstCold_69 : decode cX13_firstCold 69 = .ok (.istore_n 1, 1) := by decide +kernel
theorem dX13_firstCold_70 : decode cX13_firstCold 70 = .ok (.iinc 2 1, 3) := by decide +kernel
theorem dX13_firstCold_73 : decode cX13_firstCold 73 = .ok (.goto (-50), 3) := by decide +kernel
theorem dX13_firstCold_76 : decode cX13_firstCold 76 = .ok (.aload_n 0, 1) := by decide +kernel
theorem dX13_firstCold_77 : decode cX13_firstCold 77 = .ok (.iload_n 1, 1) := by decide +kernel
theorem dX13_firstCold_78 : decode cX13_firstCold 78 = .ok (.invokevirtual 416, 3) := by decide +kernel
theorem dX13_firstCold_81 : decode cX13_firstCold 81 = .ok (.ireturn, 1) := by decide +kernel
theorem dX13_recall_0 : decode cX13_recall 0 = .ok (.aload_n 0, 1) := by decide +kernel
theorem dX13_recall_1 : decode cX13_recall 1 = .ok (.iconst 0, 1) := by decide +kernel
theorem dX13_recall_2 : decode cX13_recall 2 = .ok (.putfield 75, 3) := by decide +kernel
theorem dX13_recall_5 : decode cX13_recall 5 = .ok (.aload_n 0, 1) := by decide +kernel
theorem dX13_recall_6 : decode cX13_recall 6 = .ok (.getfield 394, 3) := by decide +kernel
theorem dX13_recall_9 : decode cX13_recall 9 = .ok (.ifnull 18, 3) := by decide +kernel
theorem dX13_recall_12 : decode cX13_recall 12 = .ok (.iload_n 1, 1) := by decide +kernel
theorem dX13_recall_13 : decode cX13_recall 13 = .ok (.ifCond .lt 14, 3) := by decide +kernel
theorem dX13_recall_16 : decode cX13_recall 16 = .ok (.iload_n 1, 1) := by decide +kernel
theorem dX13_recall_17 : decode cX13_recall 17 = .ok (.aload_n 0, 1) := by decide +kernel
theorem dX13_recall_18 : decode cX13_recall 18 = .ok (.getfield 394, 3) := by decide +kernel
theorem dX13_recall_21 : decode cX13_recall 21 = .ok (.getfield 265, 3) := by decide +kernel
theorem dX13_recall_24 : decode cX13_recall 24 = .ok (.if_icmp .lt 9, 3) := by decide +kernel
theorem dX13_recall_27 : decode cX13_recall 27 = .ok (.aload_n 0, 1) := by decide +kernel
theorem dX13_recall_28 : decode cX13_recall 28 = .ok (.iconst 1, 1) := by decide +kernel
theorem dX13_recall_29 : decode cX13_recall 29 = .ok (.invokevirtual 81, 3) := by decide +kernel
theorem dX13_recall_32 : decode cX13_recall 32 = .ok (.ireturn, 1) := by decide +kernel
theorem dX13_recall_33 : decode cX13_recall 33 = .ok (.iconst 0, 1) := by decide +kernel
theorem dX13_recall_34 : decode cX13_recall 34 = .ok (.istore_n 2, 1) := by decide +kernel
theorem dX13_recall_35 : decode cX13_recall 35 = .ok (.iconst 0, 1) := by decide +kernel
theorem dX13_recall_36 : decode cX13_recall 36 = .ok (.istore_n 3, 1) := by decide +kernel
theorem dX13_recall_37 : decode cX13_recall 37 = .ok (.iload_n 3, 1) := by decide +kernel
theorem dX13_recall_38 : decode cX13_recall 38 = .ok (.aload_n 0, 1) := by decide +kernel
theorem dX13_recall_39 : decode cX13_recall 39 = .ok (.getfield 394, 3) := by decide +kernel
theorem dX13_recall_42 : decode cX13_recall 42 = .ok (.getfield 226, 3) := by decide +kernel
theorem dX13_recall_45 : decode cX13_recall 45 = .ok (.if_icmp .ge 63, 3) := by decide +kernel
theorem dX13_recall_48 : decode cX13_recall 48 = .ok (.iconst 0, 1) := by decide +kernel
theorem dX13_recall_49 : decode cX13_recall 49 = .ok (.istore 4, 2) := by decide +kernel
theorem dX13_recall_51 : decode cX13_recall 51 = .ok (.iload 4, 2) := by decide +kernel
theorem dX13_recall_53 : decode cX13_recall 53 = .ok (.aload_n 0, 1) := by decide +kernel
theorem dX13_recall_54 : decode cX13_recall 54 = .ok (.getfield 17, 3) := by decide +kernel
theorem dX13_recall_57 : decode cX13_recall 57 = .ok (.iload_n 3, 1) := by decide +kernel
theorem dX13_recall_58 : decode cX13_recall 58 = .ok (.iaload, 1) := by decide +kernel
theorem dX13_recall_59 : decode cX13_recall 59 = .ok (.if_icmp .ge 43, 3) := by decide +kernel
theorem dX13_recall_62 : decode cX13_recall 62 = .ok (.iload_n 2, 1) := by decide +kernel
theorem dX13_recall_63 : decode cX13_recall 63 = .ok (.aload_n 0, 1) := by decide +kernel
theorem dX13_recall_64 : decode cX13_recall 64 = .ok (.getfield 394, 3) := by decide +kernel
theorem dX13_recall_67 : decode cX13_recall 67 = .ok (.getfield 354, 3) := by decide +kernel
theorem dX13_recall_70 : decode cX13_recall 70 = .ok (.iload_n 3, 1) := by decide +kernel
theorem dX13_recall_71 : decode cX13_recall 71 = .ok (.iaload, 1) := by decide +kernel
theorem dX13_recall_72 : decode cX13_recall 72 = .ok (.iload_n 1, 1) := by decide +kernel
theorem dX13_recall_73 : decode cX13_recall 73 = .ok (.if_icmp .ne 20, 3) := by decide +kernel
theorem dX13_recall_76 : decode cX13_recall 76 = .ok (.iconst 1, 1) := by decide +kernel
theorem dX13_recall_77 : decode cX13_recall 77 = .ok (.aload_n 0, 1) := by decide +kernel
theorem dX13_recall_78 : decode cX13_recall 78 = .ok (.getfield 21, 3) := by decide +kernel
theorem dX13_recall_81 : decode cX13_recall 81 = .ok (.bipush 6, 2) := by decide +kernel
theorem dX13_recall_83 : decode cX13_recall 83 = .ok (.iload_n 3, 1) := by decide +kernel
theorem dX13_recall_84 : decode cX13_recall 84 = .ok (.imul, 1) := by decide +kernel
theorem dX13_recall_85 : decode cX13_recall 85 = .ok (.iload 4, 2) := by decide +kernel
theorem dX13_recall_87 : decode cX13_recall 87 = .ok (.iadd, 1) := by decide +kernel
theorem dX13_recall_88 : decode cX13_recall 88 = .ok (.iaload, 1) := by decide +kernel
theorem dX13_recall_89 : decode cX13_recall 89 = .ok (.ishl, 1) := by decide +kernel
theorem dX13_recall_90 : decode cX13_recall 90 = .ok (.goto 4, 3) := by decide +kernel
theorem dX13_recall_93 : decode cX13_recall 93 = .ok (.iconst 0, 1) := by decide +kernel
theorem dX13_recall_94 : decode cX13_recall 94 = .ok (.ior, 1) := by decide +kernel
theorem dX13_recall_95 : decode cX13_recall 95 = .ok (.istore_n 2, 1) := by decide +kernel
theorem dX13_recall_96 : decode cX13_recall 96 = .ok (.iinc 4 1, 3) := by decide +kernel
theorem dX13_recall_99 : decode cX13_recall 99 = .ok (.goto (-48), 3) := by decide +kernel
theorem dX13_recall_102 : decode cX13_recall 102 = .ok (.iinc 3 1, 3) := by decide +kernel
theorem dX13_recall_105 : decode cX13_recall 105 = .ok (.goto (-68), 3) := by decide +kernel
theorem dX13_recall_108 : decode cX13_recall 108 = .ok (.aload_n 0, 1) := by decide +kernel
theorem dX13_recall_109 : decode cX13_recall 109 = .ok (.iload_n 2, 1) := by decide +kernel
theorem dX13_recall_110 : decode cX13_recall 110 = .ok (.invokevirtual 416, 3) := by decide +kernel
theorem dX13_recall_113 : decode cX13_recall 113 = .ok (.ireturn, 1) := by decide +kernel
theorem dX13_led_0 : decode cX13_led 0 = .ok (.aload_n 0, 1) := by decide +kernel
theorem dX13_led_1 : decode cX13_led 1 = .ok (.aload_n 0, 1) := by decide +kernel
theorem dX13_led_2 : decode cX13_led 2 = .ok (.iload_n 1, 1) := by decide +kernel
theorem dX13_led_3 : decode cX13_led 3 = .ok (.invokevirtual 419, 3) := by decide +kernel
theorem dX13_led_6 : decode cX13_led 6 = .ok (.ifCond .eq 21, 3) := by decide +kernel
theorem dX13_led_9 : decode cX13_led 9 = .ok (.iload_n 2, 1) := by decide +kernel
theorem dX13_led_10 : decode cX13_led 10 = .ok (.ifCond .lt 17, 3) := by decide +kernel
theorem dX13_led_13 : decode cX13_led 13 = .ok (.iload_n 2, 1) := by decide +kernel
theorem dX13_led_14 : decode cX13_led 14 = .ok (.aload_n 0, 1) := by decide +kernel
theorem dX13_led_15 : decode cX13_led 15 = .ok (.getfield 17, 3) := by decide +kernel
theorem dX13_led_18 : decode cX13_led 18 = .ok (.iload_n 1, 1) := by decide +kernel
theorem dX13_led_19 : decode cX13_led 19 = .ok (.iaload, 1) := by decide +kernel
theorem dX13_led_20 : decode cX13_led 20 = .ok (.if_icmp .ge 7, 3) := by decide +kernel
theorem dX13_led_23 : decode cX13_led 23 = .ok (.iconst 0, 1) := by decide +kernel
theorem dX13_led_24 : decode cX13_led 24 = .ok (.goto 4, 3) := by decide +kernel
theorem dX13_led_27 : decode cX13_led 27 = .ok (.iconst 1, 1) := by decide +kernel
theorem dX13_led_28 : decode cX13_led 28 = .ok (.putfield 75, 3) := by decide +kernel
theorem dX13_led_31 : decode cX13_led 31 = .ok (.aload_n 0, 1) := by decide +kernel
theorem dX13_led_32 : decode cX13_led 32 = .ok (.getfield 75, 3) := by decide +kernel
theorem dX13_led_35 : decode cX13_led 35 = .ok (.ifCond .le 7, 3) := by decide +kernel
theorem dX13_led_38 : decode cX13_led 38 = .ok (.iconst 0, 1) := by decide +kernel
theorem dX13_led_39 : decode cX13_led 39 = .ok (.goto 14, 3) := by decide +kernel
theorem dX13_led_42 : decode cX13_led 42 = .ok (.aload_n 0, 1) := by decide +kernel
theorem dX13_led_43 : decode cX13_led 43 = .ok (.getfield 21, 3) := by decide +kernel
theorem dX13_led_46 : decode cX13_led 46 = .ok (.bipush 6, 2) := by decide +kernel
theorem dX13_led_48 : decode cX13_led 48 = .ok (.iload_n 1, 1) := by decide +kernel
theorem dX13_led_49 : decode cX13_led 49 = .ok (.imul, 1) := by decide +kernel
theorem dX13_led_50 : decode cX13_led 50 = .ok (.iload_n 2, 1) := by decide +kernel
theorem dX13_led_51 : decode cX13_led 51 = .ok (.iadd, 1) := by decide +kernel
theorem dX13_led_52 : decode cX13_led 52 = .ok (.iaload, 1) := by decide +kernel
theorem dX13_led_53 : decode cX13_led 53 = .ok (.ireturn, 1) := by decide +kernel
theorem dX13_size_0 : decode cX13_size 0 = .ok (.aload_n 0, 1) := by decide +kernel
theorem dX13_size_1 : decode cX13_size 1 = .ok (.iconst 0, 1) := by decide +kernel
theorem dX13_size_2 : decode cX13_size 2 = .ok (.putfield 75, 3) := by decide +kernel
theorem dX13_size_5 : decode cX13_size 5 = .ok (.iload_n 1, 1) := by decide +kernel
theorem dX13_size_6 : decode cX13_size 6 = .ok (.bipush 10, 2) := by decide +kernel
theorem dX13_size_8 : decode cX13_size 8 = .ok (.if_icmp .ne 8, 3) := by decide +kernel
theorem dX13_size_11 : decode cX13_size 11 = .ok (.aload_n 0, 1) := by decide +kernel
theorem dX13_size_12 : decode cX13_size 12 = .ok (.getfield 387, 3) := by decide +kernel
theorem dX13_size_15 : decode cX13_size 15 = .ok (.ireturn, 1) := by decide +kernel
theorem dX13_size_16 : decode cX13_size 16 = .ok (.iload_n 1, 1) := by decide +kernel
theorem dX13_size_17 : decode cX13_size 17 = .ok (.iconst 0, 1) := by decide +kernel
theorem dX13_size_18 : decode cX13_size 18 = .ok (.bipush 9, 2) := by decide +kernel
theorem dX13_size_20 : decode cX13_size 20 = .ok (.invokestatic 153, 3) := by decide +kernel
theorem dX13_size_23 : decode cX13_size 23 = .ok (.ifCond .ne 5, 3) := by decide +kernel
theorem dX13_size_26 : decode cX13_size 26 = .ok (.iconst (-1), 1) := by decide +kernel
theorem dX13_size_27 : decode cX13_size 27 = .ok (.ireturn, 1) := by decide +kernel
theorem dX13_size_28 : decode cX13_size 28 = .ok (.aload_n 0, 1) := by decide +kernel
theorem dX13_size_29 : decode cX13_size 29 = .ok (.getfield 394, 3) := by decide +kernel
theorem dX13_size_32 : decode cX13_size 32 = .ok (.ifnonnull 5, 3) := by decide +kernel
theorem dX13_size_35 : decode cX13_size 35 = .ok (.iconst 0, 1) := by decide +kernel
theorem dX13_size_36 : decode cX13_size 36 = .ok (.ireturn, 1) := by decide +kernel
theorem dX13_size_37 : decode cX13_size 37 = .ok (.iload_n 1, 1) := by decide +kernel
theorem dX13_size_38 : decode cX13_size 38 = .ok (.tableswitch 119 0 8 #[50, 58, 66, 74, 82, 90, 98, 106, 114], 50) := by decide +kernel
theorem dX13_size_88 : decode cX13_size 88 = .ok (.aload_n 0, 1) := by decide +kernel
theorem dX13_size_89 : decode cX13_size 89 = .ok (.getfield 394, 3) := by decide +kernel
theorem dX13_size_92 : decode cX13_size 92 = .ok (.getfield 265, 3) := by decide +kernel
theorem dX13_size_95 : decode cX13_size 95 = .ok (.ireturn, 1) := by decide +kernel
theorem dX13_size_96 : decode cX13_size 96 = .ok (.aload_n 0, 1) := by decide +kernel
theorem dX13_size_97 : decode cX13_size 97 = .ok (.getfield 394, 3) := by decide +kernel
theorem dX13_size_100 : decode cX13_size 100 = .ok (.getfield 290, 3) := by decide +kernel
theorem dX13_size_103 : decode cX13_size 103 = .ok (.ireturn, 1) := by decide +kernel
theorem dX13_size_104 : decode cX13_size 104 = .ok (.aload_n 0, 1) := by decide +kernel
theorem dX13_size_105 : decode cX13_size 105 = .ok (.getfield 394, 3) := by decide +kernel
theorem dX13_size_108 : decode cX13_size 108 = .ok (.getfield 306, 3) := by decide +kernel
theorem dX13_size_111 : decode cX13_size 111 = .ok (.ireturn, 1) := by decide +kernel
theorem dX13_size_112 : decode cX13_size 112 = .ok (.aload_n 0, 1) := by decide +kernel
theorem dX13_size_113 : decode cX13_size 113 = .ok (.getfield 394, 3) := by decide +kernel
theorem dX13_size_116 : decode cX13_size 116 = .ok (.getfield 223, 3) := by decide +kernel
theorem dX13_size_119 : decode cX13_size 119 = .ok (.ireturn, 1) := by decide +kernel
theorem dX13_size_120 : decode cX13_size 120 = .ok (.aload_n 0, 1) := by decide +kernel
theorem dX13_size_121 : decode cX13_size 121 = .ok (.getfield 394, 3) := by decide +kernel
theorem dX13_size_124 : decode cX13_size 124 = .ok (.getfield 226, 3) := by decide +kernel
theorem dX13_size_127 : decode cX13_size 127 = .ok (.ireturn, 1) := by decide +kernel
theorem dX13_size_128 : decode cX13_size 128 = .ok (.aload_n 0, 1) := by decide +kernel
theorem dX13_size_129 : decode cX13_size 129 = .ok (.getfield 394, 3) := by decide +kernel
theorem dX13_size_132 : decode cX13_size 132 = .ok (.getfield 279, 3) := by decide +kernel
theorem dX13_size_135 : decode cX13_size 135 = .ok (.ireturn, 1) := by decide +kernel
theorem dX13_size_136 : decode cX13_size 136 = .ok (.aload_n 0, 1) := by decide +kernel
theorem dX13_size_137 : decode cX13_size 137 = .ok (.getfield 394, 3) := by decide +kernel
theorem dX13_size_140 : decode cX13_size 140 = .ok (.getfield 365, 3) := by decide +kernel
theorem dX13_size_143 : decode cX13_size 143 = .ok (.ireturn, 1) := by decide +kernel
theorem dX13_size_144 : decode cX13_size 144 = .ok (.aload_n 0, 1) := by decide +kernel
theorem dX13_size_145 : decode cX13_size 145 = .ok (.getfield 394, 3) := by decide +kernel
theorem dX13_size_148 : decode cX13_size 148 = .ok (.getfield 375, 3) := by decide +kernel
theorem dX13_size_151 : decode cX13_size 151 = .ok (.ireturn, 1) := by decide +kernel
theorem dX13_size_152 : decode cX13_size 152 = .ok (.aload_n 0, 1) := by decide +kernel
theorem dX13_size_153 : decode cX13_size 153 = .ok (.getfield 400, 3) := by decide +kernel
theorem dX13_size_156 : decode cX13_size 156 = .ok (.ireturn, 1) := by decide +kernel
theorem dX13_size_157 : decode cX13_size 157 = .ok (.aload_n 0, 1) := by decide +kernel
theorem dX13_size_158 : decode cX13_size 158 = .ok (.getfield 397, 3) := by decide +kernel
theorem dX13_size_161 : decode cX13_size 161 = .ok (.ireturn, 1) := by decide +kernel
theorem dX13_trouble_0 : decode cX13_trouble 0 = .ok (.aload_n 0, 1) := by decide +kernel
theorem dX13_trouble_1 : decode cX13_trouble 1 = .ok (.iconst 0, 1) := by decide +kernel
theorem dX13_trouble_2 : decode cX13_trouble 2 = .ok (.putfield 75, 3) := by decide +kernel
theorem dX13_trouble_5 : decode cX13_trouble 5 = .ok (.aload_n 0, 1) := by decide +kernel
theorem dX13_trouble_6 : decode cX13_trouble 6 = .ok (.getfield 78, 3) := by decide +kernel
theorem dX13_trouble_9 : decode cX13_trouble 9 = .ok (.ireturn, 1) := by decide +kernel
theorem dJ6_bitCount_0f7a4_0 : decode cJ6_bitCount_0f7a4 0 = .ok (.iload_n 0, 1) := by decide +kernel
theorem dJ6_bitCount_0f7a4_1 : decode cJ6_bitCount_0f7a4 1 = .ok (.iload_n 0, 1) := by decide +kernel
theorem dJ6_bitCount_0f7a4_2 : decode cJ6_bitCount_0f7a4 2 = .ok (.iconst 1, 1) := by decide +kernel
theorem dJ6_bitCount_0f7a4_3 : decode cJ6_bitCount_0f7a4 3 = .ok (.iushr, 1) := by decide +kernel
theorem dJ6_bitCount_0f7a4_4 : decode cJ6_bitCount_0f7a4 4 = .ok (.ldc_w 265, 3) := by decide +kernel
theorem dJ6_bitCount_0f7a4_7 : decode cJ6_bitCount_0f7a4 7 = .ok (.iand, 1) := by decide +kernel
theorem dJ6_bitCount_0f7a4_8 : decode cJ6_bitCount_0f7a4 8 = .ok (.isub, 1) := by decide +kernel
theorem dJ6_bitCount_0f7a4_9 : decode cJ6_bitCount_0f7a4 9 = .ok (.istore_n 0, 1) := by decide +kernel
theorem dJ6_bitCount_0f7a4_10 : decode cJ6_bitCount_0f7a4 10 = .ok (.iload_n 0, 1) := by decide +kernel
theorem dJ6_bitCount_0f7a4_11 : decode cJ6_bitCount_0f7a4 11 = .ok (.ldc_w 266, 3) := by decide +kernel
theorem dJ6_bitCount_0f7a4_14 : decode cJ6_bitCount_0f7a4 14 = .ok (.iand, 1) := by decide +kernel
theorem dJ6_bitCount_0f7a4_15 : decode cJ6_bitCount_0f7a4 15 = .ok (.iload_n 0, 1) := by decide +kernel
theorem dJ6_bitCount_0f7a4_16 : decode cJ6_bitCount_0f7a4 16 = .ok (.iconst 2, 1) := by decide +kernel
theorem dJ6_bitCount_0f7a4_17 : decode cJ6_bitCount_0f7a4 17 = .ok (.iushr, 1) := by decide +kernel
theorem dJ6_bitCount_0f7a4_18 : decode cJ6_bitCount_0f7a4 18 = .ok (.ldc_w 266, 3) := by decide +kernel
theorem dJ6_bitCount_0f7a4_21 : decode cJ6_bitCount_0f7a4 21 = .ok (.iand, 1) := by decide +kernel
theorem dJ6_bitCount_0f7a4_22 : decode cJ6_bitCount_0f7a4 22 = .ok (.iadd, 1) := by decide +kernel
theorem dJ6_bitCount_0f7a4_23 : decode cJ6_bitCount_0f7a4 23 = .ok (.istore_n 0, 1) := by decide +kernel
theorem dJ6_bitCount_0f7a4_24 : decode cJ6_bitCount_0f7a4 24 = .ok (.iload_n 0, 1) := by decide +kernel
theorem dJ6_bitCount_0f7a4_25 : decode cJ6_bitCount_0f7a4 25 = .ok (.iload_n 0, 1) := by decide +kernel
theorem dJ6_bitCount_0f7a4_26 : decode cJ6_bitCount_0f7a4 26 = .ok (.iconst 4, 1) := by decide +kernel
theorem dJ6_bitCount_0f7a4_27 : decode cJ6_bitCount_0f7a4 27 = .ok (.iushr, 1) := by decide +kernel
theorem dJ6_bitCount_0f7a4_28 : decode cJ6_bitCount_0f7a4 28 = .ok (.iadd, 1) := by decide +kernel
theorem dJ6_bitCount_0f7a4_29 : decode cJ6_bitCount_0f7a4 29 = .ok (.ldc_w 267, 3) := by decide +kernel
theorem dJ6_bitCount_0f7a4_32 : decode cJ6_bitCount_0f7a4 32 = .ok (.iand, 1) := by decide +kernel
theorem dJ6_bitCount_0f7a4_33 : decode cJ6_bitCount_0f7a4 33 = .ok (.istore_n 0, 1) := by decide +kernel
theorem dJ6_bitCount_0f7a4_34 : decode cJ6_bitCount_0f7a4 34 = .ok (.iload_n 0, 1) := by decide +kernel
theorem dJ6_bitCount_0f7a4_35 : decode cJ6_bitCount_0f7a4 35 = .ok (.iload_n 0, 1) := by decide +kernel
theorem dJ6_bitCount_0f7a4_36 : decode cJ6_bitCount_0f7a4 36 = .ok (.bipush 8, 2) := by decide +kernel
theorem dJ6_bitCount_0f7a4_38 : decode cJ6_bitCount_0f7a4 38 = .ok (.iushr, 1) := by decide +kernel
theorem dJ6_bitCount_0f7a4_39 : decode cJ6_bitCount_0f7a4 39 = .ok (.iadd, 1) := by decide +kernel
theorem dJ6_bitCount_0f7a4_40 : decode cJ6_bitCount_0f7a4 40 = .ok (.istore_n 0, 1) := by decide +kernel
theorem dJ6_bitCount_0f7a4_41 : decode cJ6_bitCount_0f7a4 41 = .ok (.iload_n 0, 1) := by decide +kernel
theorem dJ6_bitCount_0f7a4_42 : decode cJ6_bitCount_0f7a4 42 = .ok (.iload_n 0, 1) := by decide +kernel
theorem dJ6_bitCount_0f7a4_43 : decode cJ6_bitCount_0f7a4 43 = .ok (.bipush 16, 2) := by decide +kernel
theorem dJ6_bitCount_0f7a4_45 : decode cJ6_bitCount_0f7a4 45 = .ok (.iushr, 1) := by decide +kernel
theorem dJ6_bitCount_0f7a4_46 : decode cJ6_bitCount_0f7a4 46 = .ok (.iadd, 1) := by decide +kernel
theorem dJ6_bitCount_0f7a4_47 : decode cJ6_bitCount_0f7a4 47 = .ok (.istore_n 0, 1) := by decide +kernel
theorem dJ6_bitCount_0f7a4_48 : decode cJ6_bitCount_0f7a4 48 = .ok (.iload_n 0, 1) := by decide +kernel
theorem dJ6_bitCount_0f7a4_49 : decode cJ6_bitCount_0f7a4 49 = .ok (.bipush 63, 2) := by decide +kernel
theorem dJ6_bitCount_0f7a4_51 : decode cJ6_bitCount_0f7a4 51 = .ok (.iand, 1) := by decide +kernel
theorem dJ6_bitCount_0f7a4_52 : decode cJ6_bitCount_0f7a4 52 = .ok (.ireturn, 1) := by decide +kernel
theorem dJ9_floorDiv_7cf53_0 : decode cJ9_floorDiv_7cf53 0 = .ok (.iload_n 0, 1) := by decide +kernel
theorem dJ9_floorDiv_7cf53_1 : decode cJ9_floorDiv_7cf53 1 = .ok (.iload_n 1, 1) := by decide +kernel
theorem dJ9_floorDiv_7cf53_2 : decode cJ9_floorDiv_7cf53 2 = .ok (.idiv, 1) := by decide +kernel
theorem dJ9_floorDiv_7cf53_3 : decode cJ9_floorDiv_7cf53 3 = .ok (.istore_n 2, 1) := by decide +kernel
theorem dJ9_floorDiv_7cf53_4 : decode cJ9_floorDiv_7cf53 4 = .ok (.iload_n 0, 1) := by decide +kernel
theorem dJ9_floorDiv_7cf53_5 : decode cJ9_floorDiv_7cf53 5 = .ok (.iload_n 1, 1) := by decide +kernel
theorem dJ9_floorDiv_7cf53_6 : decode cJ9_floorDiv_7cf53 6 = .ok (.ixor, 1) := by decide +kernel
theorem dJ9_floorDiv_7cf53_7 : decode cJ9_floorDiv_7cf53 7 = .ok (.ifCond .ge 14, 3) := by decide +kernel
theorem dJ9_floorDiv_7cf53_10 : decode cJ9_floorDiv_7cf53 10 = .ok (.iload_n 2, 1) := by decide +kernel
theorem dJ9_floorDiv_7cf53_11 : decode cJ9_floorDiv_7cf53 11 = .ok (.iload_n 1, 1) := by decide +kernel
theorem dJ9_floorDiv_7cf53_12 : decode cJ9_floorDiv_7cf53 12 = .ok (.imul, 1) := by decide +kernel
theorem dJ9_floorDiv_7cf53_13 : decode cJ9_floorDiv_7cf53 13 = .ok (.iload_n 0, 1) := by decide +kernel
theorem dJ9_floorDiv_7cf53_14 : decode cJ9_floorDiv_7cf53 14 = .ok (.if_icmp .eq 7, 3) := by decide +kernel
theorem dJ9_floorDiv_7cf53_17 : decode cJ9_floorDiv_7cf53 17 = .ok (.iload_n 2, 1) := by decide +kernel
theorem dJ9_floorDiv_7cf53_18 : decode cJ9_floorDiv_7cf53 18 = .ok (.iconst 1, 1) := by decide +kernel
theorem dJ9_floorDiv_7cf53_19 : decode cJ9_floorDiv_7cf53 19 = .ok (.isub, 1) := by decide +kernel
theorem dJ9_floorDiv_7cf53_20 : decode cJ9_floorDiv_7cf53 20 = .ok (.ireturn, 1) := by decide +kernel
theorem dJ9_floorDiv_7cf53_21 : decode cJ9_floorDiv_7cf53 21 = .ok (.iload_n 2, 1) := by decide +kernel
theorem dJ9_floorDiv_7cf53_22 : decode cJ9_floorDiv_7cf53 22 = .ok (.ireturn, 1) := by decide +kernel
theorem dJ9_abs_0f7a4_0 : decode cJ9_abs_0f7a4 0 = .ok (.iload_n 0, 1) := by decide +kernel
theorem dJ9_abs_0f7a4_1 : decode cJ9_abs_0f7a4 1 = .ok (.ifCond .ge 8, 3) := by decide +kernel
theorem dJ9_abs_0f7a4_4 : decode cJ9_abs_0f7a4 4 = .ok (.iload_n 0, 1) := by decide +kernel
theorem dJ9_abs_0f7a4_5 : decode cJ9_abs_0f7a4 5 = .ok (.ineg, 1) := by decide +kernel
theorem dJ9_abs_0f7a4_6 : decode cJ9_abs_0f7a4 6 = .ok (.goto 4, 3) := by decide +kernel
theorem dJ9_abs_0f7a4_9 : decode cJ9_abs_0f7a4 9 = .ok (.iload_n 0, 1) := by decide +kernel
theorem dJ9_abs_0f7a4_10 : decode cJ9_abs_0f7a4 10 = .ok (.ireturn, 1) := by decide +kernel
theorem dJ9_max_7cf53_0 : decode cJ9_max_7cf53 0 = .ok (.iload_n 0, 1) := by decide +kernel
theorem dJ9_max_7cf53_1 : decode cJ9_max_7cf53 1 = .ok (.iload_n 1, 1) := by decide +kernel
theorem dJ9_max_7cf53_2 : decode cJ9_max_7cf53 2 = .ok (.if_icmp .lt 7, 3) := by decide +kernel
theorem dJ9_max_7cf53_5 : decode cJ9_max_7cf53 5 = .ok (.iload_n 0, 1) := by decide +kernel
theorem dJ9_max_7cf53_6 : decode cJ9_max_7cf53 6 = .ok (.goto 4, 3) := by decide +kernel
theorem dJ9_max_7cf53_9 : decode cJ9_max_7cf53 9 = .ok (.iload_n 1, 1) := by decide +kernel
theorem dJ9_max_7cf53_10 : decode cJ9_max_7cf53 10 = .ok (.ireturn, 1) := by decide +kernel
theorem dJ9_min_7cf53_0 : decode cJ9_min_7cf53 0 = .ok (.iload_n 0, 1) := by decide +kernel
theorem dJ9_min_7cf53_1 : decode cJ9_min_7cf53 1 = .ok (.iload_n 1, 1) := by decide +kernel
theorem dJ9_min_7cf53_2 : decode cJ9_min_7cf53 2 = .ok (.if_icmp .gt 7, 3) := by decide +kernel
theorem dJ9_min_7cf53_5 : decode cJ9_min_7cf53 5 = .ok (.iload_n 0, 1) := by decide +kernel
theorem dJ9_min_7cf53_6 : decode cJ9_min_7cf53 6 = .ok (.goto 4, 3) := by decide +kernel
theorem dJ9_min_7cf53_9 : decode cJ9_min_7cf53 9 = .ok (.iload_n 1, 1) := by decide +kernel
theorem dJ9_min_7cf53_10 : decode cJ9_min_7cf53 10 = .ok (.ireturn, 1) := by decide +kernel
theorem dJ0_length_8abf5_0 : decode cJ0_length_8abf5 0 = .ok (.aload_n 0, 1) := by decide +kernel
theorem dJ0_length_8abf5_1 : decode cJ0_length_8abf5 1 = .ok (.getfield 9, 3) := by decide +kernel
theorem dJ0_length_8abf5_4 : decode cJ0_length_8abf5 4 = .ok (.arraylength, 1) := by decide +kernel
theorem dJ0_length_8abf5_5 : decode cJ0_length_8abf5 5 = .ok (.aload_n 0, 1) := by decide +kernel
theorem dJ0_length_8abf5_6 : decode cJ0_length_8abf5 6 = .ok (.invokevirtual 335, 3) := by decide +kernel
theorem dJ0_length_8abf5_9 : decode cJ0_length_8abf5 9 = .ok (.ishr, 1) := by decide +kernel
theorem dJ0_length_8abf5_10 : decode cJ0_length_8abf5 10 = .ok (.ireturn, 1) := by decide +kernel
theorem dJ0_charAt_5068e_0 : decode cJ0_charAt_5068e 0 = .ok (.aload_n 0, 1) := by decide +kernel
theorem dJ0_charAt_5068e_1 : decode cJ0_charAt_5068e 1 = .ok (.invokevirtual 492, 3) := by decide +kernel
theorem dJ0_charAt_5068e_4 : decode cJ0_charAt_5068e 4 = .ok (.ifCond .eq 12, 3) := by decide +kernel
theorem dJ0_charAt_5068e_7 : decode cJ0_charAt_5068e 7 = .ok (.aload_n 0, 1) := by decide +kernel
theorem dJ0_charAt_5068e_8 : decode cJ0_charAt_5068e 8 = .ok (.getfield 9, 3) := by decide +kernel
theorem dJ0_charAt_5068e_11 : decode cJ0_charAt_5068e 11 = .ok (.iload_n 1, 1) := by decide +kernel
theorem dJ0_charAt_5068e_12 : decode cJ0_charAt_5068e 12 = .ok (.invokestatic 495, 3) := by decide +kernel
theorem dJ0_charAt_5068e_15 : decode cJ0_charAt_5068e 15 = .ok (.ireturn, 1) := by decide +kernel
theorem dJ0_charAt_5068e_16 : decode cJ0_charAt_5068e 16 = .ok (.aload_n 0, 1) := by decide +kernel
theorem dJ0_charAt_5068e_17 : decode cJ0_charAt_5068e 17 = .ok (.getfield 9, 3) := by decide +kernel
theorem dJ0_charAt_5068e_20 : decode cJ0_charAt_5068e 20 = .ok (.iload_n 1, 1) := by decide +kernel
theorem dJ0_charAt_5068e_21 : decode cJ0_charAt_5068e 21 = .ok (.invokestatic 498, 3) := by decide +kernel
theorem dJ0_charAt_5068e_24 : decode cJ0_charAt_5068e 24 = .ok (.ireturn, 1) := by decide +kernel
theorem dJ0_coder_7d493_0 : decode cJ0_coder_7d493 0 = .ok (.getstatic 38, 3) := by decide +kernel
theorem dJ0_coder_7d493_3 : decode cJ0_coder_7d493 3 = .ok (.ifCond .eq 10, 3) := by decide +kernel
theorem dJ0_coder_7d493_6 : decode cJ0_coder_7d493 6 = .ok (.aload_n 0, 1) := by decide +kernel
theorem dJ0_coder_7d493_7 : decode cJ0_coder_7d493 7 = .ok (.getfield 15, 3) := by decide +kernel
theorem dJ0_coder_7d493_10 : decode cJ0_coder_7d493 10 = .ok (.goto 4, 3) := by decide +kernel
theorem dJ0_coder_7d493_13 : decode cJ0_coder_7d493 13 = .ok (.iconst 1, 1) := by decide +kernel
theorem dJ0_coder_7d493_14 : decode cJ0_coder_7d493 14 = .ok (.ireturn, 1) := by decide +kernel
theorem dJ0_isLatin1_aae02_0 : decode cJ0_isLatin1_aae02 0 = .ok (.getstatic 38, 3) := by decide +kernel
theorem dJ0_isLatin1_aae02_3 : decode cJ0_isLatin1_aae02 3 = .ok (.ifCond .eq 14, 3) := by decide +kernel
theorem dJ0_isLatin1_aae02_6 : decode cJ0_isLatin1_aae02 6 = .ok (.aload_n 0, 1) := by decide +kernel
theorem dJ0_isLatin1_aae02_7 : decode cJ0_isLatin1_aae02 7 = .ok (.getfield 15, 3) := by decide +kernel
theorem dJ0_isLatin1_aae02_10 : decode cJ0_isLatin1_aae02 10 = .ok (.ifCond .ne 7, 3) := by decide +kernel
theorem dJ0_isLatin1_aae02_13 : decode cJ0_isLatin1_aae02 13 = .ok (.iconst 1, 1) := by decide +kernel
theorem dJ0_isLatin1_aae02_14 : decode cJ0_isLatin1_aae02 14 = .ok (.goto 4, 3) := by decide +kernel
theorem dJ0_isLatin1_aae02_17 : decode cJ0_isLatin1_aae02 17 = .ok (.iconst 0, 1) := by decide +kernel
theorem dJ0_isLatin1_aae02_18 : decode cJ0_isLatin1_aae02 18 = .ok (.ireturn, 1) := by decide +kernel
theorem dJ0_checkIndex_df160_0 : decode cJ0_checkIndex_df160 0 = .ok (.iload_n 0, 1) := by decide +kernel
theorem dJ0_checkIndex_df160_1 : decode cJ0_checkIndex_df160 1 = .ok (.iload_n 1, 1) := by decide +kernel
theorem dJ0_checkIndex_df160_2 : decode cJ0_checkIndex_df160 2 = .ok (.getstatic 1053, 3) := by decide +kernel
theorem dJ0_checkIndex_df160_5 : decode cJ0_checkIndex_df160 5 = .ok (.invokestatic 1059, 3) := by decide +kernel
theorem dJ0_checkIndex_df160_8 : decode cJ0_checkIndex_df160 8 = .ok (.pop, 1) := by decide +kernel
theorem dJ0_checkIndex_df160_9 : decode cJ0_checkIndex_df160 9 = .ok (.return_, 1) := by decide +kernel
theorem dJ1_charAt_3b067_0 : decode cJ1_charAt_3b067 0 = .ok (.iload_n 1, 1) := by decide +kernel
theorem dJ1_charAt_3b067_1 : decode cJ1_charAt_3b067 1 = .ok (.aload_n 0, 1) := by decide +kernel
theorem dJ1_charAt_3b067_2 : decode cJ1_charAt_3b067 2 = .ok (.arraylength, 1) := by decide +kernel
theorem dJ1_charAt_3b067_3 : decode cJ1_charAt_3b067 3 = .ok (.invokestatic 9, 3) := by decide +kernel
theorem dJ1_charAt_3b067_6 : decode cJ1_charAt_3b067 6 = .ok (.aload_n 0, 1) := by decide +kernel
theorem dJ1_charAt_3b067_7 : decode cJ1_charAt_3b067 7 = .ok (.iload_n 1, 1) := by decide +kernel
theorem dJ1_charAt_3b067_8 : decode cJ1_charAt_3b067 8 = .ok (.baload, 1) := by decide +kernel
theorem dJ1_charAt_3b067_9 : decode cJ1_charAt_3b067 9 = .ok (.sipush 255, 3) := by decide +kernel
theorem dJ1_charAt_3b067_12 : decode cJ1_charAt_3b067 12 = .ok (.iand, 1) := by decide +kernel
theorem dJ1_charAt_3b067_13 : decode cJ1_charAt_3b067 13 = .ok (.i2c, 1) := by decide +kernel
theorem dJ1_charAt_3b067_14 : decode cJ1_charAt_3b067 14 = .ok (.ireturn, 1) := by decide +kernel
theorem dJ7_fill_53178_0 : decode cJ7_fill_53178 0 = .ok (.iconst 0, 1) := by decide +kernel
theorem dJ7_fill_53178_1 : decode cJ7_fill_53178 1 = .ok (.istore_n 2, 1) := by decide +kernel
theorem dJ7_fill_53178_2 : decode cJ7_fill_53178 2 = .ok (.aload_n 0, 1) := by decide +kernel
theorem dJ7_fill_53178_3 : decode cJ7_fill_53178 3 = .ok (.arraylength, 1) := by decide +kernel
theorem dJ7_fill_53178_4 : decode cJ7_fill_53178 4 = .ok (.istore_n 3, 1) := by decide +kernel
theorem dJ7_fill_53178_5 : decode cJ7_fill_53178 5 = .ok (.iload_n 2, 1) := by decide +kernel
theorem dJ7_fill_53178_6 : decode cJ7_fill_53178 6 = .ok (.iload_n 3, 1) := by decide +kernel
theorem dJ7_fill_53178_7 : decode cJ7_fill_53178 7 = .ok (.if_icmp .ge 13, 3) := by decide +kernel
theorem dJ7_fill_53178_10 : decode cJ7_fill_53178 10 = .ok (.aload_n 0, 1) := by decide +kernel
theorem dJ7_fill_53178_11 : decode cJ7_fill_53178 11 = .ok (.iload_n 2, 1) := by decide +kernel
theorem dJ7_fill_53178_12 : decode cJ7_fill_53178 12 = .ok (.iload_n 1, 1) := by decide +kernel
theorem dJ7_fill_53178_13 : decode cJ7_fill_53178 13 = .ok (.iastore, 1) := by decide +kernel
theorem dJ7_fill_53178_14 : decode cJ7_fill_53178 14 = .ok (.iinc 2 1, 3) := by decide +kernel
theorem dJ7_fill_53178_17 : decode cJ7_fill_53178 17 = .ok (.goto (-12), 3) := by decide +kernel
theorem dJ7_fill_53178_20 : decode cJ7_fill_53178 20 = .ok (.return_, 1) := by decide +kernel
theorem dJ3_checkIndex_8e157_0 : decode cJ3_checkIndex_8e157 0 = .ok (.iload_n 0, 1) := by decide +kernel
theorem dJ3_checkIndex_8e157_1 : decode cJ3_checkIndex_8e157 1 = .ok (.ifCond .lt 8, 3) := by decide +kernel
theorem dJ3_checkIndex_8e157_4 : decode cJ3_checkIndex_8e157 4 = .ok (.iload_n 0, 1) := by decide +kernel
theorem dJ3_checkIndex_8e157_5 : decode cJ3_checkIndex_8e157 5 = .ok (.iload_n 1, 1) := by decide +kernel
theorem dJ3_checkIndex_8e157_6 : decode cJ3_checkIndex_8e157 6 = .ok (.if_icmp .lt 10, 3) := by decide +kernel
theorem dJ3_checkIndex_8e157_9 : decode cJ3_checkIndex_8e157 9 = .ok (.aload_n 2, 1) := by decide +kernel
theorem dJ3_checkIndex_8e157_10 : decode cJ3_checkIndex_8e157 10 = .ok (.iload_n 0, 1) := by decide +kernel
theorem dJ3_checkIndex_8e157_11 : decode cJ3_checkIndex_8e157 11 = .ok (.iload_n 1, 1) := by decide +kernel
theorem dJ3_checkIndex_8e157_12 : decode cJ3_checkIndex_8e157 12 = .ok (.invokestatic 95, 3) := by decide +kernel
theorem dJ3_checkIndex_8e157_15 : decode cJ3_checkIndex_8e157 15 = .ok (.athrow, 1) := by decide +kernel
theorem dJ3_checkIndex_8e157_16 : decode cJ3_checkIndex_8e157 16 = .ok (.iload_n 0, 1) := by decide +kernel
theorem dJ3_checkIndex_8e157_17 : decode cJ3_checkIndex_8e157 17 = .ok (.ireturn, 1) := by decide +kernel
theorem dL_led_0 : decode cL_led 0 = .ok (.aload_n 3, 1) := by decide +kernel
theorem dL_led_1 : decode cL_led 1 = .ok (.iconst 0, 1) := by decide +kernel
theorem dL_led_2 : decode cL_led 2 = .ok (.aload_n 0, 1) := by decide +kernel
theorem dL_led_3 : decode cL_led 3 = .ok (.iload_n 1, 1) := by decide +kernel
theorem dL_led_4 : decode cL_led 4 = .ok (.iload_n 2, 1) := by decide +kernel
theorem dL_led_5 : decode cL_led 5 = .ok (.invokevirtual 7, 3) := by decide +kernel
theorem dL_led_8 : decode cL_led 8 = .ok (.i2l, 1) := by decide +kernel
theorem dL_led_9 : decode cL_led 9 = .ok (.lastore, 1) := by decide +kernel
theorem dL_led_10 : decode cL_led 10 = .ok (.goto 7, 3) := by decide +kernel
theorem dL_led_13 : decode cL_led 13 = .ok (.astore 4, 2) := by decide +kernel
theorem dL_led_15 : decode cL_led 15 = .ok (.iconst 1, 1) := by decide +kernel
theorem dL_led_16 : decode cL_led 16 = .ok (.ireturn, 1) := by decide +kernel
theorem dL_led_17 : decode cL_led 17 = .ok (.iconst 0, 1) := by decide +kernel
theorem dL_led_18 : decode cL_led 18 = .ok (.ireturn, 1) := by decide +kernel
theorem dL_law_0 : decode cL_law 0 = .ok (.new 8, 3) := by decide +kernel
theorem dL_law_3 : decode cL_law 3 = .ok (.dup, 1) := by decide +kernel
theorem dL_law_4 : decode cL_law 4 = .ok (.invokespecial 15, 3) := by decide +kernel
theorem dL_law_7 : decode cL_law 7 = .ok (.astore_n 1, 1) := by decide +kernel
theorem dL_law_8 : decode cL_law 8 = .ok (.new 16, 3) := by decide +kernel
theorem dL_law_11 : decode cL_law 11 = .ok (.dup, 1) := by decide +kernel
theorem dL_law_12 : decode cL_law 12 = .ok (.invokespecial 18, 3) := by decide +kernel
theorem dL_law_15 : decode cL_law 15 = .ok (.astore_n 2, 1) := by decide +kernel
theorem dL_law_16 : decode cL_law 16 = .ok (.iconst 1, 1) := by decide +kernel
theorem dL_law_17 : decode cL_law 17 = .ok (.newarray .long, 2) := by decide +kernel
theorem dL_law_19 : decode cL_law 19 = .ok (.astore_n 3, 1) := by decide +kernel
theorem dL_law_20 : decode cL_law 20 = .ok (.iconst 0, 1) := by decide +kernel
theorem dL_law_21 : decode cL_law 21 = .ok (.istore 4, 2) := by decide +kernel
theorem dL_law_23 : decode cL_law 23 = .ok (.iload 4, 2) := by decide +kernel
theorem dL_law_25 : decode cL_law 25 = .ok (.aload_n 0, 1) := by decide +kernel
theorem dL_law_26 : decode cL_law 26 = .ok (.arraylength, 1) := by decide +kernel
theorem dL_law_27 : decode cL_law 27 = .ok (.bipush 6, 2) := by decide +kernel
theorem dL_law_29 : decode cL_law 29 = .ok (.isub, 1) := by decide +kernel
theorem dL_law_30 : decode cL_law 30 = .ok (.if_icmp .gt 1235, 3) := by decide +kernel
theorem dL_law_33 : decode cL_law 33 = .ok (.aload_n 0, 1) := by decide +kernel
theorem dL_law_34 : decode cL_law 34 = .ok (.iload 4, 2) := by decide +kernel
theorem dL_law_36 : decode cL_law 36 = .ok (.iaload, 1) := by decide +kernel
theorem dL_law_37 : decode cL_law 37 = .ok (.bipush 63, 2) := by decide +kernel
theorem dL_law_39 : decode cL_law 39 = .ok (.iand, 1) := by decide +kernel
theorem dL_law_40 : decode cL_law 40 = .ok (.tableswitch 1219 0 36 #[164, 237, 262, 275, 288, 325, 350, 375, 400, 425, 450, 487, 524, 573, 586, 611, 637, 662, 699, 736, 749, 786, 811, 848, 862, 887, 901, 914, 939, 976, 1001, 1050, 1075, 1088, 1113, 1181, 1206], 164) := by decide +kernel
theorem dL_law_204 : decode cL_law 204 = .ok (.aload_n 1, 1) := by decide +kernel
theorem dL_law_205 : decode cL_law 205 = .ok (.aload_n 0, 1) := by decide +kernel
theorem dL_law_206 : decode cL_law 206 = .ok (.iload 4, 2) := by decide +kernel
theorem dL_law_208 : decode cL_law 208 = .ok (.iconst 1, 1) := by decide +kernel
theorem dL_law_209 : decode cL_law 209 = .ok (.iadd, 1) := by decide +kernel
theorem dL_law_210 : decode cL_law 210 = .ok (.iaload, 1) := by decide +kernel
theorem dL_law_211 : decode cL_law 211 = .ok (.aload_n 0, 1) := by decide +kernel
theorem dL_law_212 : decode cL_law 212 = .ok (.iload 4, 2) := by decide +kernel
theorem dL_law_214 : decode cL_law 214 = .ok (.iconst 2, 1) := by decide +kernel
theorem dL_law_215 : decode cL_law 215 = .ok (.iadd, 1) := by decide +kernel
theorem dL_law_216 : decode cL_law 216 = .ok (.iaload, 1) := by decide +kernel
theorem dL_law_217 : decode cL_law 217 = .ok (.aload_n 0, 1) := by decide +kernel
theorem dL_law_218 : decode cL_law 218 = .ok (.iload 4, 2) := by decide +kernel
theorem dL_law_220 : decode cL_law 220 = .ok (.iconst 3, 1) := by decide +kernel
theorem dL_law_221 : decode cL_law 221 = .ok (.iadd, 1) := by decide +kernel
theorem dL_law_222 : decode cL_law 222 = .ok (.iaload, 1) := by decide +kernel
theorem dL_law_223 : decode cL_law 223 = .ok (.aload_n 0, 1) := by decide +kernel
theorem dL_law_224 : decode cL_law 224 = .ok (.iload 4, 2) := by decide +kernel
theorem dL_law_226 : decode cL_law 226 = .ok (.iconst 4, 1) := by decide +kernel
theorem dL_law_227 : decode cL_law 227 = .ok (.iadd, 1) := by decide +kernel
theorem dL_law_228 : decode cL_law 228 = .ok (.iaload, 1) := by decide +kernel
theorem dL_law_229 : decode cL_law 229 = .ok (.aload_n 0, 1) := by decide +kernel
theorem dL_law_230 : decode cL_law 230 = .ok (.iload 4, 2) := by decide +kernel
theorem dL_law_232 : decode cL_law 232 = .ok (.iconst 5, 1) := by decide +kernel
theorem dL_law_233 : decode cL_law 233 = .ok (.iadd, 1) := by decide +kernel
theorem dL_law_234 : decode cL_law 234 = .ok (.iaload, 1) := by decide +kernel
theorem dL_law_235 : decode cL_law 235 = .ok (.invokevirtual 19, 3) := by decide +kernel
theorem dL_law_238 : decode cL_law 238 = .ok (.aload_n 2, 1) := by decide +kernel
theorem dL_law_239 : decode cL_law 239 = .ok (.aload_n 0, 1) := by decide +kernel
theorem dL_law_240 : decode cL_law 240 = .ok (.iload 4, 2) := by decide +kernel
theorem dL_law_242 : decode cL_law 242 = .ok (.iconst 1, 1) := by decide +kernel
theorem dL_law_243 : decode cL_law 243 = .ok (.iadd, 1) := by decide +kernel
theorem dL_law_244 : decode cL_law 244 = .ok (.iaload, 1) := by decide +kernel
theorem dL_law_245 : decode cL_law 245 = .ok (.aload_n 0, 1) := by decide +kernel
theorem dL_law_246 : decode cL_law 246 = .ok (.iload 4, 2) := by decide +kernel
theorem dL_law_248 : decode cL_law 248 = .ok (.iconst 2, 1) := by decide +kernel
theorem dL_law_249 : decode cL_law 249 = .ok (.iadd, 1) := by decide +kernel
theorem dL_law_250 : decode cL_law 250 = .ok (.iaload, 1) := by decide +kernel
theorem dL_law_251 : decode cL_law 251 = .ok (.aload_n 0, 1) := by decide +kernel
theorem dL_law_252 : decode cL_law 252 = .ok (.iload 4, 2) := by decide +kernel
theorem dL_law_254 : decode cL_law 254 = .ok (.iconst 3, 1) := by decide +kernel
theorem dL_law_255 : decode cL_law 255 = .ok (.iadd, 1) := by decide +kernel
theorem dL_law_256 : decode cL_law 256 = .ok (.iaload, 1) := by decide +kernel
theorem dL_law_257 : decode cL_law 257 = .ok (.aload_n 0, 1) := by decide +kernel
theorem dL_law_258 : decode cL_law 258 = .ok (.iload 4, 2) := by decide +kernel
theorem dL_law_260 : decode cL_law 260 = .ok (.iconst 4, 1) := by decide +kernel
theorem dL_law_261 : decode cL_law 261 = .ok (.iadd, 1) := by decide +kernel
theorem dL_law_262 : decode cL_law 262 = .ok (.iaload, 1) := by decide +kernel
theorem dL_law_263 : decode cL_law 263 = .ok (.aload_n 0, 1) := by decide +kernel
theorem dL_law_264 : decode cL_law 264 = .ok (.iload 4, 2) := by decide +kernel
theorem dL_law_266 : decode cL_law 266 = .ok (.iconst 5, 1) := by decide +kernel
theorem dL_law_267 : decode cL_law 267 = .ok (.iadd, 1) := by decide +kernel
theorem dL_law_268 : decode cL_law 268 = .ok (.iaload, 1) := by decide +kernel
theorem dL_law_269 : decode cL_law 269 = .ok (.invokevirtual 23, 3) := by decide +kernel
theorem dL_law_272 : decode cL_law 272 = .ok (.if_icmp .eq 987, 3) := by decide +kernel
theorem dL_law_275 : decode cL_law 275 = .ok (.iconst 0, 1) := by decide +kernel
theorem dL_law_276 : decode cL_law 276 = .ok (.ireturn, 1) := by decide +kernel
theorem dL_law_277 : decode cL_law 277 = .ok (.aload_n 1, 1) := by decide +kernel
theorem dL_law_278 : decode cL_law 278 = .ok (.aload_n 0, 1) := by decide +kernel
theorem dL_law_279 : decode cL_law 279 = .ok (.iload 4, 2) := by decide +kernel
theorem dL_law_281 : decode cL_law 281 = .ok (.iconst 1, 1) := by decide +kernel
theorem dL_law_282 : decode cL_law 282 = .ok (.iadd, 1) := by decide +kernel
theorem dL_law_283 : decode cL_law 283 = .ok (.iaload, 1) := by decide +kernel
theorem dL_law_284 : decode cL_law 284 = .ok (.invokevirtual 24, 3) := by decide +kernel
theorem dL_law_287 : decode cL_law 287 = .ok (.aload_n 2, 1) := by decide +kernel
theorem dL_law_288 : decode cL_law 288 = .ok (.aload_n 0, 1) := by decide +kernel
theorem dL_law_289 : decode cL_law 289 = .ok (.iload 4, 2) := by decide +kernel
theorem dL_law_291 : decode cL_law 291 = .ok (.iconst 1, 1) := by decide +kernel
theorem dL_law_292 : decode cL_law 292 = .ok (.iadd, 1) := by decide +kernel
theorem dL_law_293 : decode cL_law 293 = .ok (.iaload, 1) := by decide +kernel
theorem dL_law_294 : decode cL_law 294 = .ok (.invokevirtual 28, 3) := by decide +kernel
theorem dL_law_297 : decode cL_law 297 = .ok (.if_icmp .eq 962, 3) := by decide +kernel
theorem dL_law_300 : decode cL_law 300 = .ok (.iconst 0, 1) := by decide +kernel
theorem dL_law_301 : decode cL_law 301 = .ok (.ireturn, 1) := by decide +kernel
theorem dL_law_302 : decode cL_law 302 = .ok (.aload_n 1, 1) := by decide +kernel
theorem dL_law_303 : decode cL_law 303 = .ok (.invokevirtual 29, 3) := by decide +kernel
theorem dL_law_306 : decode cL_law 306 = .ok (.aload_n 2, 1) := by decide +kernel
theorem dL_law_307 : decode cL_law 307 = .ok (.invokevirtual 33, 3) := by decide +kernel
theorem dL_law_310 : decode cL_law 310 = .ok (.if_icmp .eq 949, 3) := by decide +kernel
theorem dL_law_313 : decode cL_law 313 = .ok (.iconst 0, 1) := by decide +kernel
theorem dL_law_314 : decode cL_law 314 = .ok (.ireturn, 1) := by decide +kernel
theorem dL_law_315 : decode cL_law 315 = .ok (.aload_n 1, 1) := by decide +kernel
theorem dL_law_316 : decode cL_law 316 = .ok (.invokevirtual 34, 3) := by decide +kernel
theorem dL_law_319 : decode cL_law 319 = .ok (.aload_n 2, 1) := by decide +kernel
theorem dL_law_320 : decode cL_law 320 = .ok (.invokevirtual 37, 3) := by decide +kernel
theorem dL_law_323 : decode cL_law 323 = .ok (.if_icmp .eq 936, 3) := by decide +kernel
theorem dL_law_326 : decode cL_law 326 = .ok (.iconst 0, 1) := by decide +kernel
theorem dL_law_327 : decode cL_law 327 = .ok (.ireturn, 1) := by decide +kernel
theorem dL_law_328 : decode cL_law 328 = .ok (.aload_n 1, 1) := by decide +kernel
theorem dL_law_329 : decode cL_law 329 = .ok (.aload_n 0, 1) := by decide +kernel
theorem dL_law_330 : decode cL_law 330 = .ok (.iload 4, 2) := by decide +kernel
theorem dL_law_332 : decode cL_law 332 = .ok (.iconst 1, 1) := by decide +kernel
theorem dL_law_333 : decode cL_law 333 = .ok (.iadd, 1) := by decide +kernel
theorem dL_law_334 : decode cL_law 334 = .ok (.iaload, 1) := by decide +kernel
theorem dL_law_335 : decode cL_law 335 = .ok (.aload_n 0, 1) := by decide +kernel
theorem dL_law_336 : decode cL_law 336 = .ok (.iload 4, 2) := by decide +kernel
theorem dL_law_338 : decode cL_law 338 = .ok (.iconst 2, 1) := by decide +kernel
theorem dL_law_339 : decode cL_law 339 = .ok (.iadd, 1) := by decide +kernel
theorem dL_law_340 : decode cL_law 340 = .ok (.iaload, 1) := by decide +kernel
theorem dL_law_341 : decode cL_law 341 = .ok (.invokevirtual 38, 3) := by decide +kernel
theorem dL_law_344 : decode cL_law 344 = .ok (.aload_n 2, 1) := by decide +kernel
theorem dL_law_345 : decode cL_law 345 = .ok (.aload_n 0, 1) := by decide +kernel
theorem dL_law_346 : decode cL_law 346 = .ok (.iload 4, 2) := by decide +kernel
theorem dL_law_348 : decode cL_law 348 = .ok (.iconst 1, 1) := by decide +kernel
theorem dL_law_349 : decode cL_law 349 = .ok (.iadd, 1) := by decide +kernel
theorem dL_law_350 : decode cL_law 350 = .ok (.iaload, 1) := by decide +kernel
theorem dL_law_351 : decode cL_law 351 = .ok (.aload_n 0, 1) := by decide +kernel
theorem dL_law_352 : decode cL_law 352 = .ok (.iload 4, 2) := by decide +kernel
theorem dL_law_354 : decode cL_law 354 = .ok (.iconst 2, 1) := by decide +kernel
theorem dL_law_355 : decode cL_law 355 = .ok (.iadd, 1) := by decide +kernel
theorem dL_law_356 : decode cL_law 356 = .ok (.iaload, 1) := by decide +kernel
theorem dL_law_357 : decode cL_law 357 = .ok (.invokevirtual 41, 3) := by decide +kernel
theorem dL_law_360 : decode cL_law 360 = .ok (.if_icmp .eq 899, 3) := by decide +kernel
theorem dL_law_363 : decode cL_law 363 = .ok (.iconst 0, 1) := by decide +kernel
theorem dL_law_364 : decode cL_law 364 = .ok (.ireturn, 1) := by decide +kernel
theorem dL_law_365 : decode cL_law 365 = .ok (.aload_n 1, 1) := by decide +kernel
theorem dL_law_366 : decode cL_law 366 = .ok (.aload_n 0, 1) := by decide +kernel
theorem dL_law_367 : decode cL_law 367 = .ok (.iload 4, 2) := by decide +kernel
theorem dL_law_369 : decode cL_law 369 = .ok (.iconst 1, 1) := by decide +kernel
theorem dL_law_370 : decode cL_law 370 = .ok (.iadd, 1) := by decide +kernel
theorem dL_law_371 : decode cL_law 371 = .ok (.iaload, 1) := by decide +kernel
theorem dL_law_372 : decode cL_law 372 = .ok (.invokevirtual 42, 3) := by decide +kernel
theorem dL_law_375 : decode cL_law 375 = .ok (.aload_n 2, 1) := by decide +kernel
theorem dL_law_376 : decode cL_law 376 = .ok (.aload_n 0, 1) := by decide +kernel
theorem dL_law_377 : decode cL_law 377 = .ok (.iload 4, 2) := by decide +kernel
theorem dL_law_379 : decode cL_law 379 = .ok (.iconst 1, 1) := by decide +kernel
theorem dL_law_380 : decode cL_law 380 = .ok (.iadd, 1) := by decide +kernel
theorem dL_law_381 : decode cL_law 381 = .ok (.iaload, 1) := by decide +kernel
theorem dL_law_382 : decode cL_law 382 = .ok (.invokevirtual 45, 3) := by decide +kernel
theorem dL_law_385 : decode cL_law 385 = .ok (.if_icmp .eq 874, 3) := by decide +kernel
theorem dL_law_388 : decode cL_law 388 = .ok (.iconst 0, 1) := by decide +kernel
theorem dL_law_389 : decode cL_law 389 = .ok (.ireturn, 1) := by decide +kernel
theorem dL_law_390 : decode cL_law 390 = .ok (.aload_n 1, 1) := by decide +kernel
theorem dL_law_391 : decode cL_law 391 = .ok (.aload_n 0, 1) := by decide +kernel
theorem dL_law_392 : decode cL_law 392 = .ok (.iload 4, 2) := by decide +kernel
theorem dL_law_394 : decode cL_law 394 = .ok (.iconst 1, 1) := by decide +kernel
theorem dL_law_395 : decode cL_law 395 = .ok (.iadd, 1) := by decide +kernel
theorem dL_law_396 : decode cL_law 396 = .ok (.iaload, 1) := by decide +kernel
theorem dL_law_397 : decode cL_law 397 = .ok (.invokevirtual 46, 3) := by decide +kernel
theorem dL_law_400 : decode cL_law 400 = .ok (.aload_n 2, 1) := by decide +kernel
theorem dL_law_401 : decode cL_law 401 = .ok (.aload_n 0, 1) := by decide +kernel
theorem dL_law_402 : decode cL_law 402 = .ok (.iload 4, 2) := by decide +kernel
theorem dL_law_404 : decode cL_law 404 = .ok (.iconst 1, 1) := by decide +kernel
theorem dL_law_405 : decode cL_law 405 = .ok (.iadd, 1) := by decide +kernel
theorem dL_law_406 : decode cL_law 406 = .ok (.iaload, 1) := by decide +kernel
theorem dL_law_407 : decode cL_law 407 = .ok (.invokevirtual 50, 3) := by decide +kernel
theorem dL_law_410 : decode cL_law 410 = .ok (.if_icmp .eq 849, 3) := by decide +kernel
theorem dL_law_413 : decode cL_law 413 = .ok (.iconst 0, 1) := by decide +kernel
theorem dL_law_414 : decode cL_law 414 = .ok (.ireturn, 1) := by decide +kernel
theorem dL_law_415 : decode cL_law 415 = .ok (.aload_n 1, 1) := by decide +kernel
theorem dL_law_416 : decode cL_law 416 = .ok (.aload_n 0, 1) := by decide +kernel
theorem dL_law_417 : decode cL_law 417 = .ok (.iload 4, 2) := by decide +kernel
theorem dL_law_419 : decode cL_law 419 = .ok (.iconst 1, 1) := by decide +kernel
theorem dL_law_420 : decode cL_law 420 = .ok (.iadd, 1) := by decide +kernel
theorem dL_law_421 : decode cL_law 421 = .ok (.iaload, 1) := by decide +kernel
theorem dL_law_422 : decode cL_law 422 = .ok (.invokevirtual 51, 3) := by decide +kernel
theorem dL_law_425 : decode cL_law 425 = .ok (.aload_n 2, 1) := by decide +kernel
theorem dL_law_426 : decode cL_law 426 = .ok (.aload_n 0, 1) := by decide +kernel
theorem dL_law_427 : decode cL_law 427 = .ok (.iload 4, 2) := by decide +kernel
theorem dL_law_429 : decode cL_law 429 = .ok (.iconst 1, 1) := by decide +kernel
theorem dL_law_430 : decode cL_law 430 = .ok (.iadd, 1) := by decide +kernel
theorem dL_law_431 : decode cL_law 431 = .ok (.iaload, 1) := by decide +kernel
theorem dL_law_432 : decode cL_law 432 = .ok (.invokevirtual 54, 3) := by decide +kernel
theorem dL_law_435 : decode cL_law 435 = .ok (.if_icmp .eq 824, 3) := by decide +kernel
theorem dL_law_438 : decode cL_law 438 = .ok (.iconst 0, 1) := by decide +kernel
theorem dL_law_439 : decode cL_law 439 = .ok (.ireturn, 1) := by decide +kernel
theorem dL_law_440 : decode cL_law 440 = .ok (.aload_n 1, 1) := by decide +kernel
theorem dL_law_441 : decode cL_law 441 = .ok (.aload_n 0, 1) := by decide +kernel
theorem dL_law_442 : decode cL_law 442 = .ok (.iload 4, 2) := by decide +kernel
theorem dL_law_444 : decode cL_law 444 = .ok (.iconst 1, 1) := by decide +kernel
theorem dL_law_445 : decode cL_law 445 = .ok (.iadd, 1) := by decide +kernel
theorem dL_law_446 : decode cL_law 446 = .ok (.iaload, 1) := by decide +kernel
theorem dL_law_447 : decode cL_law 447 = .ok (.invokevirtual 55, 3) := by decide +kernel
theorem dL_law_450 : decode cL_law 450 = .ok (.aload_n 2, 1) := by decide +kernel
theorem dL_law_451 : decode cL_law 451 = .ok (.aload_n 0, 1) := by decide +kernel
theorem dL_law_452 : decode cL_law 452 = .ok (.iload 4, 2) := by decide +kernel
theorem dL_law_454 : decode cL_law 454 = .ok (.iconst 1, 1) := by decide +kernel
theorem dL_law_455 : decode cL_law 455 = .ok (.iadd, 1) := by decide +kernel
theorem dL_law_456 : decode cL_law 456 = .ok (.iaload, 1) := by decide +kernel
theorem dL_law_457 : decode cL_law 457 = .ok (.invokevirtual 58, 3) := by decide +kernel
theorem dL_law_460 : decode cL_law 460 = .ok (.if_icmp .eq 799, 3) := by decide +kernel
theorem dL_law_463 : decode cL_law 463 = .ok (.iconst 0, 1) := by decide +kernel
theorem dL_law_464 : decode cL_law 464 = .ok (.ireturn, 1) := by decide +kernel
theorem dL_law_465 : decode cL_law 465 = .ok (.aload_n 1, 1) := by decide +kernel
theorem dL_law_466 : decode cL_law 466 = .ok (.aload_n 0, 1) := by decide +kernel
theorem dL_law_467 : decode cL_law 467 = .ok (.iload 4, 2) := by decide +kernel
theorem dL_law_469 : decode cL_law 469 = .ok (.iconst 1, 1) := by decide +kernel
theorem dL_law_470 : decode cL_law 470 = .ok (.iadd, 1) := by decide +kernel
theorem dL_law_471 : decode cL_law 471 = .ok (.iaload, 1) := by decide +kernel
theorem dL_law_472 : decode cL_law 472 = .ok (.invokevirtual 59, 3) := by decide +kernel
theorem dL_law_475 : decode cL_law 475 = .ok (.aload_n 2, 1) := by decide +kernel
theorem dL_law_476 : decode cL_law 476 = .ok (.aload_n 0, 1) := by decide +kernel
theorem dL_law_477 : decode cL_law 477 = .ok (.iload 4, 2) := by decide +kernel
theorem dL_law_479 : decode cL_law 479 = .ok (.iconst 1, 1) := by decide +kernel
theorem dL_law_480 : decode cL_law 480 = .ok (.iadd, 1) := by decide +kernel
theorem dL_law_481 : decode cL_law 481 = .ok (.iaload, 1) := by decide +kernel
theorem dL_law_482 : decode cL_law 482 = .ok (.invokevirtual 62, 3) := by decide +kernel
theorem dL_law_485 : decode cL_law 485 = .ok (.if_icmp .eq 774, 3) := by decide +kernel
theorem dL_law_488 : decode cL_law 488 = .ok (.iconst 0, 1) := by decide +kernel
theorem dL_law_489 : decode cL_law 489 = .ok (.ireturn, 1) := by decide +kernel
theorem dL_law_490 : decode cL_law 490 = .ok (.aload_n 1, 1) := by decide +kernel
theorem dL_law_491 : decode cL_law 491 = .ok (.aload_n 0, 1) := by decide +kernel
theorem dL_law_492 : decode cL_law 492 = .ok (.iload 4, 2) := by decide +kernel
theorem dL_law_494 : decode cL_law 494 = .ok (.iconst 1, 1) := by decide +kernel
theorem dL_law_495 : decode cL_law 495 = .ok (.iadd, 1) := by decide +kernel
theorem dL_law_496 : decode cL_law 496 = .ok (.iaload, 1) := by decide +kernel
theorem dL_law_497 : decode cL_law 497 = .ok (.aload_n 0, 1) := by decide +kernel
theorem dL_law_498 : decode cL_law 498 = .ok (.iload 4, 2) := by decide +kernel
theorem dL_law_500 : decode cL_law 500 = .ok (.iconst 2, 1) := by decide +kernel
theorem dL_law_501 : decode cL_law 501 = .ok (.iadd, 1) := by decide +kernel
theorem dL_law_502 : decode cL_law 502 = .ok (.iaload, 1) := by decide +kernel
theorem dL_law_503 : decode cL_law 503 = .ok (.invokevirtual 63, 3) := by decide +kernel
theorem dL_law_506 : decode cL_law 506 = .ok (.aload_n 2, 1) := by decide +kernel
theorem dL_law_507 : decode cL_law 507 = .ok (.aload_n 0, 1) := by decide +kernel
theorem dL_law_508 : decode cL_law 508 = .ok (.iload 4, 2) := by decide +kernel
theorem dL_law_510 : decode cL_law 510 = .ok (.iconst 1, 1) := by decide +kernel
theorem dL_law_511 : decode cL_law 511 = .ok (.iadd, 1) := by decide +kernel
theorem dL_law_512 : decode cL_law 512 = .ok (.iaload, 1) := by decide +kernel
theorem dL_law_513 : decode cL_law 513 = .ok (.aload_n 0, 1) := by decide +kernel
theorem dL_law_514 : decode cL_law 514 = .ok (.iload 4, 2) := by decide +kernel
theorem dL_law_516 : decode cL_law 516 = .ok (.iconst 2, 1) := by decide +kernel
theorem dL_law_517 : decode cL_law 517 = .ok (.iadd, 1) := by decide +kernel
theorem dL_law_518 : decode cL_law 518 = .ok (.iaload, 1) := by decide +kernel
theorem dL_law_519 : decode cL_law 519 = .ok (.invokevirtual 66, 3) := by decide +kernel
theorem dL_law_522 : decode cL_law 522 = .ok (.if_icmp .eq 737, 3) := by decide +kernel
theorem dL_law_525 : decode cL_law 525 = .ok (.iconst 0, 1) := by decide +kernel
theorem dL_law_526 : decode cL_law 526 = .ok (.ireturn, 1) := by decide +kernel
theorem dL_law_527 : decode cL_law 527 = .ok (.aload_n 1, 1) := by decide +kernel
theorem dL_law_528 : decode cL_law 528 = .ok (.aload_n 0, 1) := by decide +kernel
theorem dL_law_529 : decode cL_law 529 = .ok (.iload 4, 2) := by decide +kernel
theorem dL_law_531 : decode cL_law 531 = .ok (.iconst 1, 1) := by decide +kernel
theorem dL_law_532 : decode cL_law 532 = .ok (.iadd, 1) := by decide +kernel
theorem dL_law_533 : decode cL_law 533 = .ok (.iaload, 1) := by decide +kernel
theorem dL_law_534 : decode cL_law 534 = .ok (.aload_n 0, 1) := by decide +kernel
theorem dL_law_535 : decode cL_law 535 = .ok (.iload 4, 2) := by decide +kernel
theorem dL_law_537 : decode cL_law 537 = .ok (.iconst 2, 1) := by decide +kernel
theorem dL_law_538 : decode cL_law 538 = .ok (.iadd, 1) := by decide +kernel
theorem dL_law_539 : decode cL_law 539 = .ok (.iaload, 1) := by decide +kernel
theorem dL_law_540 : decode cL_law 540 = .ok (.invokevirtual 67, 3) := by decide +kernel
theorem dL_law_543 : decode cL_law 543 = .ok (.aload_n 2, 1) := by decide +kernel
theorem dL_law_544 : decode cL_law 544 = .ok (.aload_n 0, 1) := by decide +kernel
theorem dL_law_545 : decode cL_law 545 = .ok (.iload 4, 2) := by decide +kernel
theorem dL_law_547 : decode cL_law 547 = .ok (.iconst 1, 1) := by decide +kernel
theorem dL_law_548 : decode cL_law 548 = .ok (.iadd, 1) := by decide +kernel
theorem dL_law_549 : decode cL_law 549 = .ok (.iaload, 1) := by decide +kernel
theorem dL_law_550 : decode cL_law 550 = .ok (.aload_n 0, 1) := by decide +kernel
theorem dL_law_551 : decode cL_law 551 = .ok (.iload 4, 2) := by decide +kernel
theorem dL_law_553 : decode cL_law 553 = .ok (.iconst 2, 1) := by decide +kernel
theorem dL_law_554 : decode cL_law 554 = .ok (.iadd, 1) := by decide +kernel
theorem dL_law_555 : decode cL_law 555 = .ok (.iaload, 1) := by decide +kernel
theorem dL_law_556 : decode cL_law 556 = .ok (.invokevirtual 70, 3) := by decide +kernel
theorem dL_law_559 : decode cL_law 559 = .ok (.if_icmp .eq 700, 3) := by decide +kernel
theorem dL_law_562 : decode cL_law 562 = .ok (.iconst 0, 1) := by decide +kernel
theorem dL_law_563 : decode cL_law 563 = .ok (.ireturn, 1) := by decide +kernel
theorem dL_law_564 : decode cL_law 564 = .ok (.aload_n 1, 1) := by decide +kernel
theorem dL_law_565 : decode cL_law 565 = .ok (.aload_n 0, 1) := by decide +kernel
theorem dL_law_566 : decode cL_law 566 = .ok (.iload 4, 2) := by decide +kernel
theorem dL_law_568 : decode cL_law 568 = .ok (.iconst 1, 1) := by decide +kernel
theorem dL_law_569 : decode cL_law 569 = .ok (.iadd, 1) := by decide +kernel
theorem dL_law_570 : decode cL_law 570 = .ok (.iaload, 1) := by decide +kernel
theorem dL_law_571 : decode cL_law 571 = .ok (.aload_n 0, 1) := by decide +kernel
theorem dL_law_572 : decode cL_law 572 = .ok (.iload 4, 2) := by decide +kernel
theorem dL_law_574 : decode cL_law 574 = .ok (.iconst 2, 1) := by decide +kernel
theorem dL_law_575 : decode cL_law 575 = .ok (.iadd, 1) := by decide +kernel
theorem dL_law_576 : decode cL_law 576 = .ok (.iaload, 1) := by decide +kernel
theorem dL_law_577 : decode cL_law 577 = .ok (.aload_n 0, 1) := by decide +kernel
theorem dL_law_578 : decode cL_law 578 = .ok (.iload 4, 2) := by decide +kernel
theorem dL_law_580 : decode cL_law 580 = .ok (.iconst 3, 1) := by decide +kernel
theorem dL_law_581 : decode cL_law 581 = .ok (.iadd, 1) := by decide +kernel
theorem dL_law_582 : decode cL_law 582 = .ok (.iaload, 1) := by decide +kernel
theorem dL_law_583 : decode cL_law 583 = .ok (.invokevirtual 71, 3) := by decide +kernel
theorem dL_law_586 : decode cL_law 586 = .ok (.aload_n 2, 1) := by decide +kernel
theorem dL_law_587 : decode cL_law 587 = .ok (.aload_n 0, 1) := by decide +kernel
theorem dL_law_588 : decode cL_law 588 = .ok (.iload 4, 2) := by decide +kernel
theorem dL_law_590 : decode cL_law 590 = .ok (.iconst 1, 1) := by decide +kernel
theorem dL_law_591 : decode cL_law 591 = .ok (.iadd, 1) := by decide +kernel
theorem dL_law_592 : decode cL_law 592 = .ok (.iaload, 1) := by decide +kernel
theorem dL_law_593 : decode cL_law 593 = .ok (.aload_n 0, 1) := by decide +kernel
theorem dL_law_594 : decode cL_law 594 = .ok (.iload 4, 2) := by decide +kernel
theorem dL_law_596 : decode cL_law 596 = .ok (.iconst 2, 1) := by decide +kernel
theorem dL_law_597 : decode cL_law 597 = .ok (.iadd, 1) := by decide +kernel
theorem dL_law_598 : decode cL_law 598 = .ok (.iaload, 1) := by decide +kernel
theorem dL_law_599 : decode cL_law 599 = .ok (.aload_n 0, 1) := by decide +kernel
theorem dL_law_600 : decode cL_law 600 = .ok (.iload 4, 2) := by decide +kernel
theorem dL_law_602 : decode cL_law 602 = .ok (.iconst 3, 1) := by decide +kernel
theorem dL_law_603 : decode cL_law 603 = .ok (.iadd, 1) := by decide +kernel
theorem dL_law_604 : decode cL_law 604 = .ok (.iaload, 1) := by decide +kernel
theorem dL_law_605 : decode cL_law 605 = .ok (.invokevirtual 75, 3) := by decide +kernel
theorem dL_law_608 : decode cL_law 608 = .ok (.if_icmp .eq 651, 3) := by decide +kernel
theorem dL_law_611 : decode cL_law 611 = .ok (.iconst 0, 1) := by decide +kernel
theorem dL_law_612 : decode cL_law 612 = .ok (.ireturn, 1) := by decide +kernel
theorem dL_law_613 : decode cL_law 613 = .ok (.aload_n 1, 1) := by decide +kernel
theorem dL_law_614 : decode cL_law 614 = .ok (.invokevirtual 76, 3) := by decide +kernel
theorem dL_law_617 : decode cL_law 617 = .ok (.aload_n 2, 1) := by decide +kernel
theorem dL_law_618 : decode cL_law 618 = .ok (.invokevirtual 79, 3) := by decide +kernel
theorem dL_law_621 : decode cL_law 621 = .ok (.if_icmp .eq 638, 3) := by decide +kernel
theorem dL_law_624 : decode cL_law 624 = .ok (.iconst 0, 1) := by decide +kernel
theorem dL_law_625 : decode cL_law 625 = .ok (.ireturn, 1) := by decide +kernel
theorem dL_law_626 : decode cL_law 626 = .ok (.aload_n 1, 1) := by decide +kernel
theorem dL_law_627 : decode cL_law 627 = .ok (.aload_n 0, 1) := by decide +kernel
theorem dL_law_628 : decode cL_law 628 = .ok (.iload 4, 2) := by decide +kernel
theorem dL_law_630 : decode cL_law 630 = .ok (.iconst 1, 1) := by decide +kernel
theorem dL_law_631 : decode cL_law 631 = .ok (.iadd, 1) := by decide +kernel
theorem dL_law_632 : decode cL_law 632 = .ok (.iaload, 1) := by decide +kernel
theorem dL_law_633 : decode cL_law 633 = .ok (.invokevirtual 80, 3) := by decide +kernel
theorem dL_law_636 : decode cL_law 636 = .ok (.aload_n 2, 1) := by decide +kernel
theorem dL_law_637 : decode cL_law 637 = .ok (.aload_n 0, 1) := by decide +kernel
theorem dL_law_638 : decode cL_law 638 = .ok (.iload 4, 2) := by decide +kernel
theorem dL_law_640 : decode cL_law 640 = .ok (.iconst 1, 1) := by decide +kernel
theorem dL_law_641 : decode cL_law 641 = .ok (.iadd, 1) := by decide +kernel
theorem dL_law_642 : decode cL_law 642 = .ok (.iaload, 1) := by decide +kernel
theorem dL_law_643 : decode cL_law 643 = .ok (.invokevirtual 83, 3) := by decide +kernel
theorem dL_law_646 : decode cL_law 646 = .ok (.if_icmp .eq 613, 3) := by decide +kernel
theorem dL_law_649 : decode cL_law 649 = .ok (.iconst 0, 1) := by decide +kernel
theorem dL_law_650 : decode cL_law 650 = .ok (.ireturn, 1) := by decide +kernel
theorem dL_law_651 : decode cL_law 651 = .ok (.aload_n 1, 1) := by decide +kernel
theorem dL_law_652 : decode cL_law 652 = .ok (.aload_n 0, 1) := by decide +kernel
theorem dL_law_653 : decode cL_law 653 = .ok (.iload 4, 2) := by decide +kernel
theorem dL_law_655 : decode cL_law 655 = .ok (.iconst 1, 1) := by decide +kernel
theorem dL_law_656 : decode cL_law 656 = .ok (.iadd, 1) := by decide +kernel
theorem dL_law_657 : decode cL_law 657 = .ok (.iaload, 1) := by decide +kernel
theorem dL_law_658 : decode cL_law 658 = .ok (.invokevirtual 84, 3) := by decide +kernel
theorem dL_law_661 : decode cL_law 661 = .ok (.aload_n 2, 1) := by decide +kernel
theorem dL_law_662 : decode cL_law 662 = .ok (.aload_n 0, 1) := by decide +kernel
theorem dL_law_663 : decode cL_law 663 = .ok (.iload 4, 2) := by decide +kernel
theorem dL_law_665 : decode cL_law 665 = .ok (.iconst 1, 1) := by decide +kernel
theorem dL_law_666 : decode cL_law 666 = .ok (.iadd, 1) := by decide +kernel
theorem dL_law_667 : decode cL_law 667 = .ok (.iaload, 1) := by decide +kernel
theorem dL_law_668 : decode cL_law 668 = .ok (.invokevirtual 88, 3) := by decide +kernel
theorem dL_law_671 : decode cL_law 671 = .ok (.lcmp, 1) := by decide +kernel
theorem dL_law_672 : decode cL_law 672 = .ok (.ifCond .eq 587, 3) := by decide +kernel
theorem dL_law_675 : decode cL_law 675 = .ok (.iconst 0, 1) := by decide +kernel
theorem dL_law_676 : decode cL_law 676 = .ok (.ireturn, 1) := by decide +kernel
theorem dL_law_677 : decode cL_law 677 = .ok (.aload_n 1, 1) := by decide +kernel
theorem dL_law_678 : decode cL_law 678 = .ok (.aload_n 0, 1) := by decide +kernel
theorem dL_law_679 : decode cL_law 679 = .ok (.iload 4, 2) := by decide +kernel
theorem dL_law_681 : decode cL_law 681 = .ok (.iconst 1, 1) := by decide +kernel
theorem dL_law_682 : decode cL_law 682 = .ok (.iadd, 1) := by decide +kernel
theorem dL_law_683 : decode cL_law 683 = .ok (.iaload, 1) := by decide +kernel
theorem dL_law_684 : decode cL_law 684 = .ok (.invokevirtual 89, 3) := by decide +kernel
theorem dL_law_687 : decode cL_law 687 = .ok (.aload_n 2, 1) := by decide +kernel
theorem dL_law_688 : decode cL_law 688 = .ok (.aload_n 0, 1) := by decide +kernel
theorem dL_law_689 : decode cL_law 689 = .ok (.iload 4, 2) := by decide +kernel
theorem dL_law_691 : decode cL_law 691 = .ok (.iconst 1, 1) := by decide +kernel
theorem dL_law_692 : decode cL_law 692 = .ok (.iadd, 1) := by decide +kernel
theorem dL_law_693 : decode cL_law 693 = .ok (.iaload, 1) := by decide +kernel
theorem dL_law_694 : decode cL_law 694 = .ok (.invokevirtual 92, 3) := by decide +kernel
theorem dL_law_697 : decode cL_law 697 = .ok (.if_icmp .eq 562, 3) := by decide +kernel
theorem dL_law_700 : decode cL_law 700 = .ok (.iconst 0, 1) := by decide +kernel
theorem dL_law_701 : decode cL_law 701 = .ok (.ireturn, 1) := by decide +kernel
theorem dL_law_702 : decode cL_law 702 = .ok (.aload_n 1, 1) := by decide +kernel
theorem dL_law_703 : decode cL_law 703 = .ok (.aload_n 0, 1) := by decide +kernel
theorem dL_law_704 : decode cL_law 704 = .ok (.iload 4, 2) := by decide +kernel
theorem dL_law_706 : decode cL_law 706 = .ok (.iconst 1, 1) := by decide +kernel
theorem dL_law_707 : decode cL_law 707 = .ok (.iadd, 1) := by decide +kernel
theorem dL_law_708 : decode cL_law 708 = .ok (.iaload, 1) := by decide +kernel
theorem dL_law_709 : decode cL_law 709 = .ok (.aload_n 0, 1) := by decide +kernel
theorem dL_law_710 : decode cL_law 710 = .ok (.iload 4, 2) := by decide +kernel
theorem dL_law_712 : decode cL_law 712 = .ok (.iconst 2, 1) := by decide +kernel
theorem dL_law_713 : decode cL_law 713 = .ok (.iadd, 1) := by decide +kernel
theorem dL_law_714 : decode cL_law 714 = .ok (.iaload, 1) := by decide +kernel
theorem dL_law_715 : decode cL_law 715 = .ok (.invokevirtual 93, 3) := by decide +kernel
theorem dL_law_718 : decode cL_law 718 = .ok (.aload_n 2, 1) := by decide +kernel
theorem dL_law_719 : decode cL_law 719 = .ok (.aload_n 0, 1) := by decide +kernel
theorem dL_law_720 : decode cL_law 720 = .ok (.iload 4, 2) := by decide +kernel
theorem dL_law_722 : decode cL_law 722 = .ok (.iconst 1, 1) := by decide +kernel
theorem dL_law_723 : decode cL_law 723 = .ok (.iadd, 1) := by decide +kernel
theorem dL_law_724 : decode cL_law 724 = .ok (.iaload, 1) := by decide +kernel
theorem dL_law_725 : decode cL_law 725 = .ok (.aload_n 0, 1) := by decide +kernel
theorem dL_law_726 : decode cL_law 726 = .ok (.iload 4, 2) := by decide +kernel
theorem dL_law_728 : decode cL_law 728 = .ok (.iconst 2, 1) := by decide +kernel
theorem dL_law_729 : decode cL_law 729 = .ok (.iadd, 1) := by decide +kernel
theorem dL_law_730 : decode cL_law 730 = .ok (.iaload, 1) := by decide +kernel
theorem dL_law_731 : decode cL_law 731 = .ok (.invokevirtual 96, 3) := by decide +kernel
theorem dL_law_734 : decode cL_law 734 = .ok (.if_icmp .eq 525, 3) := by decide +kernel
theorem dL_law_737 : decode cL_law 737 = .ok (.iconst 0, 1) := by decide +kernel
theorem dL_law_738 : decode cL_law 738 = .ok (.ireturn, 1) := by decide +kernel
theorem dL_law_739 : decode cL_law 739 = .ok (.aload_n 1, 1) := by decide +kernel
theorem dL_law_740 : decode cL_law 740 = .ok (.aload_n 0, 1) := by decide +kernel
theorem dL_law_741 : decode cL_law 741 = .ok (.iload 4, 2) := by decide +kernel
theorem dL_law_743 : decode cL_law 743 = .ok (.iconst 1, 1) := by decide +kernel
theorem dL_law_744 : decode cL_law 744 = .ok (.iadd, 1) := by decide +kernel
theorem dL_law_745 : decode cL_law 745 = .ok (.iaload, 1) := by decide +kernel
theorem dL_law_746 : decode cL_law 746 = .ok (.aload_n 0, 1) := by decide +kernel
theorem dL_law_747 : decode cL_law 747 = .ok (.iload 4, 2) := by decide +kernel
theorem dL_law_749 : decode cL_law 749 = .ok (.iconst 2, 1) := by decide +kernel
theorem dL_law_750 : decode cL_law 750 = .ok (.iadd, 1) := by decide +kernel
theorem dL_law_751 : decode cL_law 751 = .ok (.iaload, 1) := by decide +kernel
theorem dL_law_752 : decode cL_law 752 = .ok (.invokevirtual 97, 3) := by decide +kernel
theorem dL_law_755 : decode cL_law 755 = .ok (.aload_n 2, 1) := by decide +kernel
theorem dL_law_756 : decode cL_law 756 = .ok (.aload_n 0, 1) := by decide +kernel
theorem dL_law_757 : decode cL_law 757 = .ok (.iload 4, 2) := by decide +kernel
theorem dL_law_759 : decode cL_law 759 = .ok (.iconst 1, 1) := by decide +kernel
theorem dL_law_760 : decode cL_law 760 = .ok (.iadd, 1) := by decide +kernel
theorem dL_law_761 : decode cL_law 761 = .ok (.iaload, 1) := by decide +kernel
theorem dL_law_762 : decode cL_law 762 = .ok (.aload_n 0, 1) := by decide +kernel
theorem dL_law_763 : decode cL_law 763 = .ok (.iload 4, 2) := by decide +kernel
theorem dL_law_765 : decode cL_law 765 = .ok (.iconst 2, 1) := by decide +kernel
theorem dL_law_766 : decode cL_law 766 = .ok (.iadd, 1) := by decide +kernel
theorem dL_law_767 : decode cL_law 767 = .ok (.iaload, 1) := by decide +kernel
theorem dL_law_768 : decode cL_law 768 = .ok (.invokevirtual 100, 3) := by decide +kernel
theorem dL_law_771 : decode cL_law 771 = .ok (.if_icmp .eq 488, 3) := by decide +kernel
theorem dL_law_774 : decode cL_law 774 = .ok (.iconst 0, 1) := by decide +kernel
theorem dL_law_775 : decode cL_law 775 = .ok (.ireturn, 1) := by decide +kernel
theorem dL_law_776 : decode cL_law 776 = .ok (.aload_n 1, 1) := by decide +kernel
theorem dL_law_777 : decode cL_law 777 = .ok (.invokevirtual 101, 3) := by decide +kernel
theorem dL_law_780 : decode cL_law 780 = .ok (.aload_n 2, 1) := by decide +kernel
theorem dL_law_781 : decode cL_law 781 = .ok (.invokevirtual 104, 3) := by decide +kernel
theorem dL_law_784 : decode cL_law 784 = .ok (.if_icmp .eq 475, 3) := by decide +kernel
theorem dL_law_787 : decode cL_law 787 = .ok (.iconst 0, 1) := by decide +kernel
theorem dL_law_788 : decode cL_law 788 = .ok (.ireturn, 1) := by decide +kernel
theorem dL_law_789 : decode cL_law 789 = .ok (.aload_n 1, 1) := by decide +kernel
theorem dL_law_790 : decode cL_law 790 = .ok (.aload_n 0, 1) := by decide +kernel
theorem dL_law_791 : decode cL_law 791 = .ok (.iload 4, 2) := by decide +kernel
theorem dL_law_793 : decode cL_law 793 = .ok (.iconst 1, 1) := by decide +kernel
theorem dL_law_794 : decode cL_law 794 = .ok (.iadd, 1) := by decide +kernel
theorem dL_law_795 : decode cL_law 795 = .ok (.iaload, 1) := by decide +kernel
theorem dL_law_796 : decode cL_law 796 = .ok (.aload_n 0, 1) := by decide +kernel
theorem dL_law_797 : decode cL_law 797 = .ok (.iload 4, 2) := by decide +kernel
theorem dL_law_799 : decode cL_law 799 = .ok (.iconst 2, 1) := by decide +kernel
theorem dL_law_800 : decode cL_law 800 = .ok (.iadd, 1) := by decide +kernel
theorem dL_law_801 : decode cL_law 801 = .ok (.iaload, 1) := by decide +kernel
theorem dL_law_802 : decode cL_law 802 = .ok (.invokevirtual 105, 3) := by decide +kernel
theorem dL_law_805 : decode cL_law 805 = .ok (.aload_n 2, 1) := by decide +kernel
theorem dL_law_806 : decode cL_law 806 = .ok (.aload_n 0, 1) := by decide +kernel
theorem dL_law_807 : decode cL_law 807 = .ok (.iload 4, 2) := by decide +kernel
theorem dL_law_809 : decode cL_law 809 = .ok (.iconst 1, 1) := by decide +kernel
theorem dL_law_810 : decode cL_law 810 = .ok (.iadd, 1) := by decide +kernel
theorem dL_law_811 : decode cL_law 811 = .ok (.iaload, 1) := by decide +kernel
theorem dL_law_812 : decode cL_law 812 = .ok (.aload_n 0, 1) := by decide +kernel
theorem dL_law_813 : decode cL_law 813 = .ok (.iload 4, 2) := by decide +kernel
theorem dL_law_815 : decode cL_law 815 = .ok (.iconst 2, 1) := by decide +kernel
theorem dL_law_816 : decode cL_law 816 = .ok (.iadd, 1) := by decide +kernel
theorem dL_law_817 : decode cL_law 817 = .ok (.iaload, 1) := by decide +kernel
theorem dL_law_818 : decode cL_law 818 = .ok (.invokevirtual 108, 3) := by decide +kernel
theorem dL_law_821 : decode cL_law 821 = .ok (.if_icmp .eq 438, 3) := by decide +kernel
theorem dL_law_824 : decode cL_law 824 = .ok (.iconst 0, 1) := by decide +kernel
theorem dL_law_825 : decode cL_law 825 = .ok (.ireturn, 1) := by decide +kernel
theorem dL_law_826 : decode cL_law 826 = .ok (.aload_n 1, 1) := by decide +kernel
theorem dL_law_827 : decode cL_law 827 = .ok (.aload_n 0, 1) := by decide +kernel
theorem dL_law_828 : decode cL_law 828 = .ok (.iload 4, 2) := by decide +kernel
theorem dL_law_830 : decode cL_law 830 = .ok (.iconst 1, 1) := by decide +kernel
theorem dL_law_831 : decode cL_law 831 = .ok (.iadd, 1) := by decide +kernel
theorem dL_law_832 : decode cL_law 832 = .ok (.iaload, 1) := by decide +kernel
theorem dL_law_833 : decode cL_law 833 = .ok (.invokevirtual 109, 3) := by decide +kernel
theorem dL_law_836 : decode cL_law 836 = .ok (.aload_n 2, 1) := by decide +kernel
theorem dL_law_837 : decode cL_law 837 = .ok (.aload_n 0, 1) := by decide +kernel
theorem dL_law_838 : decode cL_law 838 = .ok (.iload 4, 2) := by decide +kernel
theorem dL_law_840 : decode cL_law 840 = .ok (.iconst 1, 1) := by decide +kernel
theorem dL_law_841 : decode cL_law 841 = .ok (.iadd, 1) := by decide +kernel
theorem dL_law_842 : decode cL_law 842 = .ok (.iaload, 1) := by decide +kernel
theorem dL_law_843 : decode cL_law 843 = .ok (.invokevirtual 112, 3) := by decide +kernel
theorem dL_law_846 : decode cL_law 846 = .ok (.if_icmp .eq 413, 3) := by decide +kernel
theorem dL_law_849 : decode cL_law 849 = .ok (.iconst 0, 1) := by decide +kernel
theorem dL_law_850 : decode cL_law 850 = .ok (.ireturn, 1) := by decide +kernel
theorem dL_law_851 : decode cL_law 851 = .ok (.aload_n 1, 1) := by decide +kernel
theorem dL_law_852 : decode cL_law 852 = .ok (.aload_n 0, 1) := by decide +kernel
theorem dL_law_853 : decode cL_law 853 = .ok (.iload 4, 2) := by decide +kernel
theorem dL_law_855 : decode cL_law 855 = .ok (.iconst 1, 1) := by decide +kernel
theorem dL_law_856 : decode cL_law 856 = .ok (.iadd, 1) := by decide +kernel
theorem dL_law_857 : decode cL_law 857 = .ok (.iaload, 1) := by decide +kernel
theorem dL_law_858 : decode cL_law 858 = .ok (.aload_n 0, 1) := by decide +kernel
theorem dL_law_859 : decode cL_law 859 = .ok (.iload 4, 2) := by decide +kernel
theorem dL_law_861 : decode cL_law 861 = .ok (.iconst 2, 1) := by decide +kernel
theorem dL_law_862 : decode cL_law 862 = .ok (.iadd, 1) := by decide +kernel
theorem dL_law_863 : decode cL_law 863 = .ok (.iaload, 1) := by decide +kernel
theorem dL_law_864 : decode cL_law 864 = .ok (.invokevirtual 113, 3) := by decide +kernel
theorem dL_law_867 : decode cL_law 867 = .ok (.aload_n 2, 1) := by decide +kernel
theorem dL_law_868 : decode cL_law 868 = .ok (.aload_n 0, 1) := by decide +kernel
theorem dL_law_869 : decode cL_law 869 = .ok (.iload 4, 2) := by decide +kernel
theorem dL_law_871 : decode cL_law 871 = .ok (.iconst 1, 1) := by decide +kernel
theorem dL_law_872 : decode cL_law 872 = .ok (.iadd, 1) := by decide +kernel
theorem dL_law_873 : decode cL_law 873 = .ok (.iaload, 1) := by decide +kernel
theorem dL_law_874 : decode cL_law 874 = .ok (.aload_n 0, 1) := by decide +kernel
theorem dL_law_875 : decode cL_law 875 = .ok (.iload 4, 2) := by decide +kernel
theorem dL_law_877 : decode cL_law 877 = .ok (.iconst 2, 1) := by decide +kernel
theorem dL_law_878 : decode cL_law 878 = .ok (.iadd, 1) := by decide +kernel
theorem dL_law_879 : decode cL_law 879 = .ok (.iaload, 1) := by decide +kernel
theorem dL_law_880 : decode cL_law 880 = .ok (.invokevirtual 116, 3) := by decide +kernel
theorem dL_law_883 : decode cL_law 883 = .ok (.if_icmp .eq 376, 3) := by decide +kernel
theorem dL_law_886 : decode cL_law 886 = .ok (.iconst 0, 1) := by decide +kernel
theorem dL_law_887 : decode cL_law 887 = .ok (.ireturn, 1) := by decide +kernel
theorem dL_law_888 : decode cL_law 888 = .ok (.aload_n 1, 1) := by decide +kernel
theorem dL_law_889 : decode cL_law 889 = .ok (.invokevirtual 117, 3) := by decide +kernel
theorem dL_law_892 : decode cL_law 892 = .ok (.aload_n 2, 1) := by decide +kernel
theorem dL_law_893 : decode cL_law 893 = .ok (.invokevirtual 121, 3) := by decide +kernel
theorem dL_law_896 : decode cL_law 896 = .ok (.lcmp, 1) := by decide +kernel
theorem dL_law_897 : decode cL_law 897 = .ok (.ifCond .eq 362, 3) := by decide +kernel
theorem dL_law_900 : decode cL_law 900 = .ok (.iconst 0, 1) := by decide +kernel
theorem dL_law_901 : decode cL_law 901 = .ok (.ireturn, 1) := by decide +kernel
theorem dL_law_902 : decode cL_law 902 = .ok (.aload_n 1, 1) := by decide +kernel
theorem dL_law_903 : decode cL_law 903 = .ok (.aload_n 0, 1) := by decide +kernel
theorem dL_law_904 : decode cL_law 904 = .ok (.iload 4, 2) := by decide +kernel
theorem dL_law_906 : decode cL_law 906 = .ok (.iconst 1, 1) := by decide +kernel
theorem dL_law_907 : decode cL_law 907 = .ok (.iadd, 1) := by decide +kernel
theorem dL_law_908 : decode cL_law 908 = .ok (.iaload, 1) := by decide +kernel
theorem dL_law_909 : decode cL_law 909 = .ok (.invokevirtual 122, 3) := by decide +kernel
theorem dL_law_912 : decode cL_law 912 = .ok (.aload_n 2, 1) := by decide +kernel
theorem dL_law_913 : decode cL_law 913 = .ok (.aload_n 0, 1) := by decide +kernel
theorem dL_law_914 : decode cL_law 914 = .ok (.iload 4, 2) := by decide +kernel
theorem dL_law_916 : decode cL_law 916 = .ok (.iconst 1, 1) := by decide +kernel
theorem dL_law_917 : decode cL_law 917 = .ok (.iadd, 1) := by decide +kernel
theorem dL_law_918 : decode cL_law 918 = .ok (.iaload, 1) := by decide +kernel
theorem dL_law_919 : decode cL_law 919 = .ok (.invokevirtual 125, 3) := by decide +kernel
theorem dL_law_922 : decode cL_law 922 = .ok (.if_icmp .eq 337, 3) := by decide +kernel
theorem dL_law_925 : decode cL_law 925 = .ok (.iconst 0, 1) := by decide +kernel
theorem dL_law_926 : decode cL_law 926 = .ok (.ireturn, 1) := by decide +kernel
theorem dL_law_927 : decode cL_law 927 = .ok (.aload_n 1, 1) := by decide +kernel
theorem dL_law_928 : decode cL_law 928 = .ok (.invokevirtual 126, 3) := by decide +kernel
theorem dL_law_931 : decode cL_law 931 = .ok (.aload_n 2, 1) := by decide +kernel
theorem dL_law_932 : decode cL_law 932 = .ok (.invokevirtual 129, 3) := by decide +kernel
theorem dL_law_935 : decode cL_law 935 = .ok (.lcmp, 1) := by decide +kernel
theorem dL_law_936 : decode cL_law 936 = .ok (.ifCond .eq 323, 3) := by decide +kernel
theorem dL_law_939 : decode cL_law 939 = .ok (.iconst 0, 1) := by decide +kernel
theorem dL_law_940 : decode cL_law 940 = .ok (.ireturn, 1) := by decide +kernel
theorem dL_law_941 : decode cL_law 941 = .ok (.aload_n 1, 1) := by decide +kernel
theorem dL_law_942 : decode cL_law 942 = .ok (.invokevirtual 130, 3) := by decide +kernel
theorem dL_law_945 : decode cL_law 945 = .ok (.aload_n 2, 1) := by decide +kernel
theorem dL_law_946 : decode cL_law 946 = .ok (.invokevirtual 133, 3) := by decide +kernel
theorem dL_law_949 : decode cL_law 949 = .ok (.if_icmp .eq 310, 3) := by decide +kernel
theorem dL_law_952 : decode cL_law 952 = .ok (.iconst 0, 1) := by decide +kernel
theorem dL_law_953 : decode cL_law 953 = .ok (.ireturn, 1) := by decide +kernel
theorem dL_law_954 : decode cL_law 954 = .ok (.aload_n 1, 1) := by decide +kernel
theorem dL_law_955 : decode cL_law 955 = .ok (.aload_n 0, 1) := by decide +kernel
theorem dL_law_956 : decode cL_law 956 = .ok (.iload 4, 2) := by decide +kernel
theorem dL_law_958 : decode cL_law 958 = .ok (.iconst 1, 1) := by decide +kernel
theorem dL_law_959 : decode cL_law 959 = .ok (.iadd, 1) := by decide +kernel
theorem dL_law_960 : decode cL_law 960 = .ok (.iaload, 1) := by decide +kernel
theorem dL_law_961 : decode cL_law 961 = .ok (.invokevirtual 134, 3) := by decide +kernel
theorem dL_law_964 : decode cL_law 964 = .ok (.aload_n 2, 1) := by decide +kernel
theorem dL_law_965 : decode cL_law 965 = .ok (.aload_n 0, 1) := by decide +kernel
theorem dL_law_966 : decode cL_law 966 = .ok (.iload 4, 2) := by decide +kernel
theorem dL_law_968 : decode cL_law 968 = .ok (.iconst 1, 1) := by decide +kernel
theorem dL_law_969 : decode cL_law 969 = .ok (.iadd, 1) := by decide +kernel
theorem dL_law_970 : decode cL_law 970 = .ok (.iaload, 1) := by decide +kernel
theorem dL_law_971 : decode cL_law 971 = .ok (.invokevirtual 137, 3) := by decide +kernel
theorem dL_law_974 : decode cL_law 974 = .ok (.if_icmp .eq 285, 3) := by decide +kernel
theorem dL_law_977 : decode cL_law 977 = .ok (.iconst 0, 1) := by decide +kernel
theorem dL_law_978 : decode cL_law 978 = .ok (.ireturn, 1) := by decide +kernel
theorem dL_law_979 : decode cL_law 979 = .ok (.aload_n 1, 1) := by decide +kernel
theorem dL_law_980 : decode cL_law 980 = .ok (.aload_n 0, 1) := by decide +kernel
theorem dL_law_981 : decode cL_law 981 = .ok (.iload 4, 2) := by decide +kernel
theorem dL_law_983 : decode cL_law 983 = .ok (.iconst 1, 1) := by decide +kernel
theorem dL_law_984 : decode cL_law 984 = .ok (.iadd, 1) := by decide +kernel
theorem dL_law_985 : decode cL_law 985 = .ok (.iaload, 1) := by decide +kernel
theorem dL_law_986 : decode cL_law 986 = .ok (.aload_n 0, 1) := by decide +kernel
theorem dL_law_987 : decode cL_law 987 = .ok (.iload 4, 2) := by decide +kernel
theorem dL_law_989 : decode cL_law 989 = .ok (.iconst 2, 1) := by decide +kernel
theorem dL_law_990 : decode cL_law 990 = .ok (.iadd, 1) := by decide +kernel
theorem dL_law_991 : decode cL_law 991 = .ok (.iaload, 1) := by decide +kernel
theorem dL_law_992 : decode cL_law 992 = .ok (.invokevirtual 138, 3) := by decide +kernel
theorem dL_law_995 : decode cL_law 995 = .ok (.aload_n 2, 1) := by decide +kernel
theorem dL_law_996 : decode cL_law 996 = .ok (.aload_n 0, 1) := by decide +kernel
theorem dL_law_997 : decode cL_law 997 = .ok (.iload 4, 2) := by decide +kernel
theorem dL_law_999 : decode cL_law 999 = .ok (.iconst 1, 1) := by decide +kernel
theorem dL_law_1000 : decode cL_law 1000 = .ok (.iadd, 1) := by decide +kernel
theorem dL_law_1001 : decode cL_law 1001 = .ok (.iaload, 1) := by decide +kernel
theorem dL_law_1002 : decode cL_law 1002 = .ok (.aload_n 0, 1) := by decide +kernel
theorem dL_law_1003 : decode cL_law 1003 = .ok (.iload 4, 2) := by decide +kernel
theorem dL_law_1005 : decode cL_law 1005 = .ok (.iconst 2, 1) := by decide +kernel
theorem dL_law_1006 : decode cL_law 1006 = .ok (.iadd, 1) := by decide +kernel
theorem dL_law_1007 : decode cL_law 1007 = .ok (.iaload, 1) := by decide +kernel
theorem dL_law_1008 : decode cL_law 1008 = .ok (.invokevirtual 141, 3) := by decide +kernel
theorem dL_law_1011 : decode cL_law 1011 = .ok (.if_icmp .eq 248, 3) := by decide +kernel
theorem dL_law_1014 : decode cL_law 1014 = .ok (.iconst 0, 1) := by decide +kernel
theorem dL_law_1015 : decode cL_law 1015 = .ok (.ireturn, 1) := by decide +kernel
theorem dL_law_1016 : decode cL_law 1016 = .ok (.aload_n 1, 1) := by decide +kernel
theorem dL_law_1017 : decode cL_law 1017 = .ok (.aload_n 0, 1) := by decide +kernel
theorem dL_law_1018 : decode cL_law 1018 = .ok (.iload 4, 2) := by decide +kernel
theorem dL_law_1020 : decode cL_law 1020 = .ok (.iconst 1, 1) := by decide +kernel
theorem dL_law_1021 : decode cL_law 1021 = .ok (.iadd, 1) := by decide +kernel
theorem dL_law_1022 : decode cL_law 1022 = .ok (.iaload, 1) := by decide +kernel
theorem dL_law_1023 : decode cL_law 1023 = .ok (.invokevirtual 142, 3) := by decide +kernel
theorem dL_law_1026 : decode cL_law 1026 = .ok (.aload_n 2, 1) := by decide +kernel
theorem dL_law_1027 : decode cL_law 1027 = .ok (.aload_n 0, 1) := by decide +kernel
theorem dL_law_1028 : decode cL_law 1028 = .ok (.iload 4, 2) := by decide +kernel
theorem dL_law_1030 : decode cL_law 1030 = .ok (.iconst 1, 1) := by decide +kernel
theorem dL_law_1031 : decode cL_law 1031 = .ok (.iadd, 1) := by decide +kernel
theorem dL_law_1032 : decode cL_law 1032 = .ok (.iaload, 1) := by decide +kernel
theorem dL_law_1033 : decode cL_law 1033 = .ok (.invokevirtual 145, 3) := by decide +kernel
theorem dL_law_1036 : decode cL_law 1036 = .ok (.if_icmp .eq 223, 3) := by decide +kernel
theorem dL_law_1039 : decode cL_law 1039 = .ok (.iconst 0, 1) := by decide +kernel
theorem dL_law_1040 : decode cL_law 1040 = .ok (.ireturn, 1) := by decide +kernel
theorem dL_law_1041 : decode cL_law 1041 = .ok (.aload_n 1, 1) := by decide +kernel
theorem dL_law_1042 : decode cL_law 1042 = .ok (.aload_n 0, 1) := by decide +kernel
theorem dL_law_1043 : decode cL_law 1043 = .ok (.iload 4, 2) := by decide +kernel
theorem dL_law_1045 : decode cL_law 1045 = .ok (.iconst 1, 1) := by decide +kernel
theorem dL_law_1046 : decode cL_law 1046 = .ok (.iadd, 1) := by decide +kernel
theorem dL_law_1047 : decode cL_law 1047 = .ok (.iaload, 1) := by decide +kernel
theorem dL_law_1048 : decode cL_law 1048 = .ok (.aload_n 0, 1) := by decide +kernel
theorem dL_law_1049 : decode cL_law 1049 = .ok (.iload 4, 2) := by decide +kernel
theorem dL_law_1051 : decode cL_law 1051 = .ok (.iconst 2, 1) := by decide +kernel
theorem dL_law_1052 : decode cL_law 1052 = .ok (.iadd, 1) := by decide +kernel
theorem dL_law_1053 : decode cL_law 1053 = .ok (.iaload, 1) := by decide +kernel
theorem dL_law_1054 : decode cL_law 1054 = .ok (.aload_n 0, 1) := by decide +kernel
theorem dL_law_1055 : decode cL_law 1055 = .ok (.iload 4, 2) := by decide +kernel
theorem dL_law_1057 : decode cL_law 1057 = .ok (.iconst 3, 1) := by decide +kernel
theorem dL_law_1058 : decode cL_law 1058 = .ok (.iadd, 1) := by decide +kernel
theorem dL_law_1059 : decode cL_law 1059 = .ok (.iaload, 1) := by decide +kernel
theorem dL_law_1060 : decode cL_law 1060 = .ok (.invokevirtual 146, 3) := by decide +kernel
theorem dL_law_1063 : decode cL_law 1063 = .ok (.aload_n 2, 1) := by decide +kernel
theorem dL_law_1064 : decode cL_law 1064 = .ok (.aload_n 0, 1) := by decide +kernel
theorem dL_law_1065 : decode cL_law 1065 = .ok (.iload 4, 2) := by decide +kernel
theorem dL_law_1067 : decode cL_law 1067 = .ok (.iconst 1, 1) := by decide +kernel
theorem dL_law_1068 : decode cL_law 1068 = .ok (.iadd, 1) := by decide +kernel
theorem dL_law_1069 : decode cL_law 1069 = .ok (.iaload, 1) := by decide +kernel
theorem dL_law_1070 : decode cL_law 1070 = .ok (.aload_n 0, 1) := by decide +kernel
theorem dL_law_1071 : decode cL_law 1071 = .ok (.iload 4, 2) := by decide +kernel
theorem dL_law_1073 : decode cL_law 1073 = .ok (.iconst 2, 1) := by decide +kernel
theorem dL_law_1074 : decode cL_law 1074 = .ok (.iadd, 1) := by decide +kernel
theorem dL_law_1075 : decode cL_law 1075 = .ok (.iaload, 1) := by decide +kernel
theorem dL_law_1076 : decode cL_law 1076 = .ok (.aload_n 0, 1) := by decide +kernel
theorem dL_law_1077 : decode cL_law 1077 = .ok (.iload 4, 2) := by decide +kernel
theorem dL_law_1079 : decode cL_law 1079 = .ok (.iconst 3, 1) := by decide +kernel
theorem dL_law_1080 : decode cL_law 1080 = .ok (.iadd, 1) := by decide +kernel
theorem dL_law_1081 : decode cL_law 1081 = .ok (.iaload, 1) := by decide +kernel
theorem dL_law_1082 : decode cL_law 1082 = .ok (.invokevirtual 149, 3) := by decide +kernel
theorem dL_law_1085 : decode cL_law 1085 = .ok (.if_icmp .eq 174, 3) := by decide +kernel
theorem dL_law_1088 : decode cL_law 1088 = .ok (.iconst 0, 1) := by decide +kernel
theorem dL_law_1089 : decode cL_law 1089 = .ok (.ireturn, 1) := by decide +kernel
theorem dL_law_1090 : decode cL_law 1090 = .ok (.aload_n 1, 1) := by decide +kernel
theorem dL_law_1091 : decode cL_law 1091 = .ok (.aload_n 0, 1) := by decide +kernel
theorem dL_law_1092 : decode cL_law 1092 = .ok (.iload 4, 2) := by decide +kernel
theorem dL_law_1094 : decode cL_law 1094 = .ok (.iconst 1, 1) := by decide +kernel
theorem dL_law_1095 : decode cL_law 1095 = .ok (.iadd, 1) := by decide +kernel
theorem dL_law_1096 : decode cL_law 1096 = .ok (.iaload, 1) := by decide +kernel
theorem dL_law_1097 : decode cL_law 1097 = .ok (.invokevirtual 150, 3) := by decide +kernel
theorem dL_law_1100 : decode cL_law 1100 = .ok (.aload_n 2, 1) := by decide +kernel
theorem dL_law_1101 : decode cL_law 1101 = .ok (.aload_n 0, 1) := by decide +kernel
theorem dL_law_1102 : decode cL_law 1102 = .ok (.iload 4, 2) := by decide +kernel
theorem dL_law_1104 : decode cL_law 1104 = .ok (.iconst 1, 1) := by decide +kernel
theorem dL_law_1105 : decode cL_law 1105 = .ok (.iadd, 1) := by decide +kernel
theorem dL_law_1106 : decode cL_law 1106 = .ok (.iaload, 1) := by decide +kernel
theorem dL_law_1107 : decode cL_law 1107 = .ok (.invokevirtual 153, 3) := by decide +kernel
theorem dL_law_1110 : decode cL_law 1110 = .ok (.if_icmp .eq 149, 3) := by decide +kernel
theorem dL_law_1113 : decode cL_law 1113 = .ok (.iconst 0, 1) := by decide +kernel
theorem dL_law_1114 : decode cL_law 1114 = .ok (.ireturn, 1) := by decide +kernel
theorem dL_law_1115 : decode cL_law 1115 = .ok (.aload_n 1, 1) := by decide +kernel
theorem dL_law_1116 : decode cL_law 1116 = .ok (.invokevirtual 154, 3) := by decide +kernel
theorem dL_law_1119 : decode cL_law 1119 = .ok (.aload_n 2, 1) := by decide +kernel
theorem dL_law_1120 : decode cL_law 1120 = .ok (.invokevirtual 157, 3) := by decide +kernel
theorem dL_law_1123 : decode cL_law 1123 = .ok (.if_icmp .eq 136, 3) := by decide +kernel
theorem dL_law_1126 : decode cL_law 1126 = .ok (.iconst 0, 1) := by decide +kernel
theorem dL_law_1127 : decode cL_law 1127 = .ok (.ireturn, 1) := by decide +kernel
theorem dL_law_1128 : decode cL_law 1128 = .ok (.aload_n 1, 1) := by decide +kernel
theorem dL_law_1129 : decode cL_law 1129 = .ok (.aload_n 0, 1) := by decide +kernel
theorem dL_law_1130 : decode cL_law 1130 = .ok (.iload 4, 2) := by decide +kernel
theorem dL_law_1132 : decode cL_law 1132 = .ok (.iconst 1, 1) := by decide +kernel
theorem dL_law_1133 : decode cL_law 1133 = .ok (.iadd, 1) := by decide +kernel
theorem dL_law_1134 : decode cL_law 1134 = .ok (.iaload, 1) := by decide +kernel
theorem dL_law_1135 : decode cL_law 1135 = .ok (.invokevirtual 158, 3) := by decide +kernel
theorem dL_law_1138 : decode cL_law 1138 = .ok (.aload_n 2, 1) := by decide +kernel
theorem dL_law_1139 : decode cL_law 1139 = .ok (.aload_n 0, 1) := by decide +kernel
theorem dL_law_1140 : decode cL_law 1140 = .ok (.iload 4, 2) := by decide +kernel
theorem dL_law_1142 : decode cL_law 1142 = .ok (.iconst 1, 1) := by decide +kernel
theorem dL_law_1143 : decode cL_law 1143 = .ok (.iadd, 1) := by decide +kernel
theorem dL_law_1144 : decode cL_law 1144 = .ok (.iaload, 1) := by decide +kernel
theorem dL_law_1145 : decode cL_law 1145 = .ok (.invokevirtual 161, 3) := by decide +kernel
theorem dL_law_1148 : decode cL_law 1148 = .ok (.if_icmp .eq 111, 3) := by decide +kernel
theorem dL_law_1151 : decode cL_law 1151 = .ok (.iconst 0, 1) := by decide +kernel
theorem dL_law_1152 : decode cL_law 1152 = .ok (.ireturn, 1) := by decide +kernel
theorem dL_law_1153 : decode cL_law 1153 = .ok (.aload_n 1, 1) := by decide +kernel
theorem dL_law_1154 : decode cL_law 1154 = .ok (.aload_n 0, 1) := by decide +kernel
theorem dL_law_1155 : decode cL_law 1155 = .ok (.iload 4, 2) := by decide +kernel
theorem dL_law_1157 : decode cL_law 1157 = .ok (.iconst 1, 1) := by decide +kernel
theorem dL_law_1158 : decode cL_law 1158 = .ok (.iadd, 1) := by decide +kernel
theorem dL_law_1159 : decode cL_law 1159 = .ok (.iaload, 1) := by decide +kernel
theorem dL_law_1160 : decode cL_law 1160 = .ok (.aload_n 0, 1) := by decide +kernel
theorem dL_law_1161 : decode cL_law 1161 = .ok (.iload 4, 2) := by decide +kernel
theorem dL_law_1163 : decode cL_law 1163 = .ok (.iconst 2, 1) := by decide +kernel
theorem dL_law_1164 : decode cL_law 1164 = .ok (.iadd, 1) := by decide +kernel
theorem dL_law_1165 : decode cL_law 1165 = .ok (.iaload, 1) := by decide +kernel
theorem dL_law_1166 : decode cL_law 1166 = .ok (.aload_n 3, 1) := by decide +kernel
theorem dL_law_1167 : decode cL_law 1167 = .ok (.invokestatic 162, 3) := by decide +kernel
theorem dL_law_1170 : decode cL_law 1170 = .ok (.istore 5, 2) := by decide +kernel
theorem dL_law_1172 : decode cL_law 1172 = .ok (.aload_n 2, 1) := by decide +kernel
theorem dL_law_1173 : decode cL_law 1173 = .ok (.aload_n 0, 1) := by decide +kernel
theorem dL_law_1174 : decode cL_law 1174 = .ok (.iload 4, 2) := by decide +kernel
theorem dL_law_1176 : decode cL_law 1176 = .ok (.iconst 1, 1) := by decide +kernel
theorem dL_law_1177 : decode cL_law 1177 = .ok (.iadd, 1) := by decide +kernel
theorem dL_law_1178 : decode cL_law 1178 = .ok (.iaload, 1) := by decide +kernel
theorem dL_law_1179 : decode cL_law 1179 = .ok (.aload_n 0, 1) := by decide +kernel
theorem dL_law_1180 : decode cL_law 1180 = .ok (.iload 4, 2) := by decide +kernel
theorem dL_law_1182 : decode cL_law 1182 = .ok (.iconst 2, 1) := by decide +kernel
theorem dL_law_1183 : decode cL_law 1183 = .ok (.iadd, 1) := by decide +kernel
theorem dL_law_1184 : decode cL_law 1184 = .ok (.iaload, 1) := by decide +kernel
theorem dL_law_1185 : decode cL_law 1185 = .ok (.invokevirtual 167, 3) := by decide +kernel
theorem dL_law_1188 : decode cL_law 1188 = .ok (.istore 6, 2) := by decide +kernel
theorem dL_law_1190 : decode cL_law 1190 = .ok (.aload_n 2, 1) := by decide +kernel
theorem dL_law_1191 : decode cL_law 1191 = .ok (.invokevirtual 168, 3) := by decide +kernel
theorem dL_law_1194 : decode cL_law 1194 = .ok (.iload 5, 2) := by decide +kernel
theorem dL_law_1196 : decode cL_law 1196 = .ok (.if_icmp .eq 5, 3) := by decide +kernel
theorem dL_law_1199 : decode cL_law 1199 = .ok (.iconst 0, 1) := by decide +kernel
theorem dL_law_1200 : decode cL_law 1200 = .ok (.ireturn, 1) := by decide +kernel
theorem dL_law_1201 : decode cL_law 1201 = .ok (.iload 5, 2) := by decide +kernel
theorem dL_law_1203 : decode cL_law 1203 = .ok (.ifCond .ne 15, 3) := by decide +kernel
theorem dL_law_1206 : decode cL_law 1206 = .ok (.aload_n 3, 1) := by decide +kernel
theorem dL_law_1207 : decode cL_law 1207 = .ok (.iconst 0, 1) := by decide +kernel
theorem dL_law_1208 : decode cL_law 1208 = .ok (.laload, 1) := by decide +kernel
theorem dL_law_1209 : decode cL_law 1209 = .ok (.iload 6, 2) := by decide +kernel
theorem dL_law_1211 : decode cL_law 1211 = .ok (.i2l, 1) := by decide +kernel
theorem dL_law_1212 : decode cL_law 1212 = .ok (.lcmp, 1) := by decide +kernel
theorem dL_law_1213 : decode cL_law 1213 = .ok (.ifCond .eq 5, 3) := by decide +kernel
theorem dL_law_1216 : decode cL_law 1216 = .ok (.iconst 0, 1) := by decide +kernel
theorem dL_law_1217 : decode cL_law 1217 = .ok (.ireturn, 1) := by decide +kernel
theorem dL_law_1218 : decode cL_law 1218 = .ok (.goto 41, 3) := by decide +kernel
theorem dL_law_1221 : decode cL_law 1221 = .ok (.aload_n 1, 1) := by decide +kernel
theorem dL_law_1222 : decode cL_law 1222 = .ok (.aload_n 0, 1) := by decide +kernel
theorem dL_law_1223 : decode cL_law 1223 = .ok (.iload 4, 2) := by decide +kernel
theorem dL_law_1225 : decode cL_law 1225 = .ok (.iconst 1, 1) := by decide +kernel
theorem dL_law_1226 : decode cL_law 1226 = .ok (.iadd, 1) := by decide +kernel
theorem dL_law_1227 : decode cL_law 1227 = .ok (.iaload, 1) := by decide +kernel
theorem dL_law_1228 : decode cL_law 1228 = .ok (.invokevirtual 171, 3) := by decide +kernel
theorem dL_law_1231 : decode cL_law 1231 = .ok (.aload_n 2, 1) := by decide +kernel
theorem dL_law_1232 : decode cL_law 1232 = .ok (.aload_n 0, 1) := by decide +kernel
theorem dL_law_1233 : decode cL_law 1233 = .ok (.iload 4, 2) := by decide +kernel
theorem dL_law_1235 : decode cL_law 1235 = .ok (.iconst 1, 1) := by decide +kernel
theorem dL_law_1236 : decode cL_law 1236 = .ok (.iadd, 1) := by decide +kernel
theorem dL_law_1237 : decode cL_law 1237 = .ok (.iaload, 1) := by decide +kernel
theorem dL_law_1238 : decode cL_law 1238 = .ok (.invokevirtual 174, 3) := by decide +kernel
theorem dL_law_1241 : decode cL_law 1241 = .ok (.if_icmp .eq 18, 3) := by decide +kernel
theorem dL_law_1244 : decode cL_law 1244 = .ok (.iconst 0, 1) := by decide +kernel
theorem dL_law_1245 : decode cL_law 1245 = .ok (.ireturn, 1) := by decide +kernel
theorem dL_law_1246 : decode cL_law 1246 = .ok (.aload_n 1, 1) := by decide +kernel
theorem dL_law_1247 : decode cL_law 1247 = .ok (.invokevirtual 175, 3) := by decide +kernel
theorem dL_law_1250 : decode cL_law 1250 = .ok (.aload_n 2, 1) := by decide +kernel
theorem dL_law_1251 : decode cL_law 1251 = .ok (.invokevirtual 178, 3) := by decide +kernel
theorem dL_law_1254 : decode cL_law 1254 = .ok (.if_icmp .eq 5, 3) := by decide +kernel
theorem dL_law_1257 : decode cL_law 1257 = .ok (.iconst 0, 1) := by decide +kernel
theorem dL_law_1258 : decode cL_law 1258 = .ok (.ireturn, 1) := by decide +kernel
theorem dL_law_1259 : decode cL_law 1259 = .ok (.iinc 4 6, 3) := by decide +kernel
theorem dL_law_1262 : decode cL_law 1262 = .ok (.goto (-1239), 3) := by decide +kernel
theorem dL_law_1265 : decode cL_law 1265 = .ok (.iconst 1, 1) := by decide +kernel
theorem dL_law_1266 : decode cL_law 1266 = .ok (.ireturn, 1) := by decide +kernel
