/-! decode rows, by program -/
theorem dM_lay_0 : decode bM_lay 0 = .ok (.aload_n 0, 1) := by decide +kernel
theorem dM_lay_1 : decode bM_lay 1 = .ok (.getfield 27, 3) := by decide +kernel
theorem dM_lay_4 : decode bM_lay 4 = .ok (.sipush 1296, 3) := by decide +kernel
theorem dM_lay_7 : decode bM_lay 7 = .ok (.iload_n 1, 1) := by decide +kernel
theorem dM_lay_8 : decode bM_lay 8 = .ok (.imul, 1) := by decide +kernel
theorem dM_lay_9 : decode bM_lay 9 = .ok (.iload_n 2, 1) := by decide +kernel
theorem dM_lay_10 : decode bM_lay 10 = .ok (.iadd, 1) := by decide +kernel
theorem dM_lay_11 : decode bM_lay 11 = .ok (.iload_n 3, 1) := by decide +kernel
theorem dM_lay_12 : decode bM_lay 12 = .ok (.iastore, 1) := by decide +kernel
theorem dM_lay_13 : decode bM_lay 13 = .ok (.return_, 1) := by decide +kernel
theorem dM_clear_0 : decode bM_clear 0 = .ok (.iconst 0, 1) := by decide +kernel
theorem dM_clear_1 : decode bM_clear 1 = .ok (.istore_n 2, 1) := by decide +kernel
theorem dM_clear_2 : decode bM_clear 2 = .ok (.iload_n 2, 1) := by decide +kernel
theorem dM_clear_3 : decode bM_clear 3 = .ok (.aload_n 0, 1) := by decide +kernel
theorem dM_clear_4 : decode bM_clear 4 = .ok (.getfield 67, 3) := by decide +kernel
theorem dM_clear_7 : decode bM_clear 7 = .ok (.if_icmp .ge 21, 3) := by decide +kernel
theorem dM_clear_10 : decode bM_clear 10 = .ok (.aload_n 0, 1) := by decide +kernel
theorem dM_clear_11 : decode bM_clear 11 = .ok (.iload_n 1, 1) := by decide +kernel
theorem dM_clear_12 : decode bM_clear 12 = .ok (.aload_n 0, 1) := by decide +kernel
theorem dM_clear_13 : decode bM_clear 13 = .ok (.getfield 20, 3) := by decide +kernel
theorem dM_clear_16 : decode bM_clear 16 = .ok (.iload_n 2, 1) := by decide +kernel
theorem dM_clear_17 : decode bM_clear 17 = .ok (.iaload, 1) := by decide +kernel
theorem dM_clear_18 : decode bM_clear 18 = .ok (.iconst 0, 1) := by decide +kernel
theorem dM_clear_19 : decode bM_clear 19 = .ok (.invokevirtual 85, 3) := by decide +kernel
theorem dM_clear_22 : decode bM_clear 22 = .ok (.iinc 2 1, 3) := by decide +kernel
theorem dM_clear_25 : decode bM_clear 25 = .ok (.goto (-23), 3) := by decide +kernel
theorem dM_clear_28 : decode bM_clear 28 = .ok (.return_, 1) := by decide +kernel
theorem dM_copy_0 : decode bM_copy 0 = .ok (.iconst 0, 1) := by decide +kernel
theorem dM_copy_1 : decode bM_copy 1 = .ok (.istore_n 3, 1) := by decide +kernel
theorem dM_copy_2 : decode bM_copy 2 = .ok (.iload_n 3, 1) := by decide +kernel
theorem dM_copy_3 : decode bM_copy 3 = .ok (.aload_n 0, 1) := by decide +kernel
theorem dM_copy_4 : decode bM_copy 4 = .ok (.getfield 67, 3) := by decide +kernel
theorem dM_copy_7 : decode bM_copy 7 = .ok (.if_icmp .ge 31, 3) := by decide +kernel
theorem dM_copy_10 : decode bM_copy 10 = .ok (.aload_n 0, 1) := by decide +kernel
theorem dM_copy_11 : decode bM_copy 11 = .ok (.iload_n 2, 1) := by decide +kernel
theorem dM_copy_12 : decode bM_copy 12 = .ok (.aload_n 0, 1) := by decide +kernel
theorem dM_copy_13 : decode bM_copy 13 = .ok (.getfield 20, 3) := by decide +kernel
theorem dM_copy_16 : decode bM_copy 16 = .ok (.iload_n 3, 1) := by decide +kernel
theorem dM_copy_17 : decode bM_copy 17 = .ok (.iaload, 1) := by decide +kernel
theorem dM_copy_18 : decode bM_copy 18 = .ok (.aload_n 0, 1) := by decide +kernel
theorem dM_copy_19 : decode bM_copy 19 = .ok (.iload_n 1, 1) := by decide +kernel
theorem dM_copy_20 : decode bM_copy 20 = .ok (.aload_n 0, 1) := by decide +kernel
theorem dM_copy_21 : decode bM_copy 21 = .ok (.getfield 20, 3) := by decide +kernel
theorem dM_copy_24 : decode bM_copy 24 = .ok (.iload_n 3, 1) := by decide +kernel
theorem dM_copy_25 : decode bM_copy 25 = .ok (.iaload, 1) := by decide +kernel
theorem dM_copy_26 : decode bM_copy 26 = .ok (.invokevirtual 88, 3) := by decide +kernel
theorem dM_copy_29 : decode bM_copy 29 = .ok (.invokevirtual 85, 3) := by decide +kernel
theorem dM_copy_32 : decode bM_copy 32 = .ok (.iinc 3 1, 3) := by decide +kernel
theorem dM_copy_35 : decode bM_copy 35 = .ok (.goto (-33), 3) := by decide +kernel
theorem dM_copy_38 : decode bM_copy 38 = .ok (.return_, 1) := by decide +kernel
theorem dM_degreeOf_0 : decode bM_degreeOf 0 = .ok (.iconst 0, 1) := by decide +kernel
theorem dM_degreeOf_1 : decode bM_degreeOf 1 = .ok (.istore_n 2, 1) := by decide +kernel
theorem dM_degreeOf_2 : decode bM_degreeOf 2 = .ok (.iload_n 2, 1) := by decide +kernel
theorem dM_degreeOf_3 : decode bM_degreeOf 3 = .ok (.aload_n 0, 1) := by decide +kernel
theorem dM_degreeOf_4 : decode bM_degreeOf 4 = .ok (.getfield 67, 3) := by decide +kernel
theorem dM_degreeOf_7 : decode bM_degreeOf 7 = .ok (.if_icmp .ge 35, 3) := by decide +kernel
theorem dM_degreeOf_10 : decode bM_degreeOf 10 = .ok (.aload_n 0, 1) := by decide +kernel
theorem dM_degreeOf_11 : decode bM_degreeOf 11 = .ok (.iload_n 1, 1) := by decide +kernel
theorem dM_degreeOf_12 : decode bM_degreeOf 12 = .ok (.aload_n 0, 1) := by decide +kernel
theorem dM_degreeOf_13 : decode bM_degreeOf 13 = .ok (.getfield 20, 3) := by decide +kernel
theorem dM_degreeOf_16 : decode bM_degreeOf 16 = .ok (.iload_n 2, 1) := by decide +kernel
theorem dM_degreeOf_17 : decode bM_degreeOf 17 = .ok (.iaload, 1) := by decide +kernel
theorem dM_degreeOf_18 : decode bM_degreeOf 18 = .ok (.invokevirtual 88, 3) := by decide +kernel
theorem dM_degreeOf_21 : decode bM_degreeOf 21 = .ok (.ifCond .eq 15, 3) := by decide +kernel
theorem dM_degreeOf_24 : decode bM_degreeOf 24 = .ok (.aload_n 0, 1) := by decide +kernel
theorem dM_degreeOf_25 : decode bM_degreeOf 25 = .ok (.getfield 13, 3) := by decide +kernel
theorem dM_degreeOf_28 : decode bM_degreeOf 28 = .ok (.aload_n 0, 1) := by decide +kernel
theorem dM_degreeOf_29 : decode bM_degreeOf 29 = .ok (.getfield 20, 3) := by decide +kernel
theorem dM_degreeOf_32 : decode bM_degreeOf 32 = .ok (.iload_n 2, 1) := by decide +kernel
theorem dM_degreeOf_33 : decode bM_degreeOf 33 = .ok (.iaload, 1) := by decide +kernel
theorem dM_degreeOf_34 : decode bM_degreeOf 34 = .ok (.iaload, 1) := by decide +kernel
theorem dM_degreeOf_35 : decode bM_degreeOf 35 = .ok (.ireturn, 1) := by decide +kernel
theorem dM_degreeOf_36 : decode bM_degreeOf 36 = .ok (.iinc 2 1, 3) := by decide +kernel
theorem dM_degreeOf_39 : decode bM_degreeOf 39 = .ok (.goto (-37), 3) := by decide +kernel
theorem dM_degreeOf_42 : decode bM_degreeOf 42 = .ok (.iconst (-1), 1) := by decide +kernel
theorem dM_degreeOf_43 : decode bM_degreeOf 43 = .ok (.ireturn, 1) := by decide +kernel
theorem dM_terms_0 : decode bM_terms 0 = .ok (.iconst 0, 1) := by decide +kernel
theorem dM_terms_1 : decode bM_terms 1 = .ok (.istore_n 2, 1) := by decide +kernel
theorem dM_terms_2 : decode bM_terms 2 = .ok (.iconst 0, 1) := by decide +kernel
theorem dM_terms_3 : decode bM_terms 3 = .ok (.istore_n 3, 1) := by decide +kernel
theorem dM_terms_4 : decode bM_terms 4 = .ok (.iload_n 3, 1) := by decide +kernel
theorem dM_terms_5 : decode bM_terms 5 = .ok (.aload_n 0, 1) := by decide +kernel
theorem dM_terms_6 : decode bM_terms 6 = .ok (.getfield 67, 3) := by decide +kernel
theorem dM_terms_9 : decode bM_terms 9 = .ok (.if_icmp .ge 31, 3) := by decide +kernel
theorem dM_terms_12 : decode bM_terms 12 = .ok (.iload_n 2, 1) := by decide +kernel
theorem dM_terms_13 : decode bM_terms 13 = .ok (.aload_n 0, 1) := by decide +kernel
theorem dM_terms_14 : decode bM_terms 14 = .ok (.iload_n 1, 1) := by decide +kernel
theorem dM_terms_15 : decode bM_terms 15 = .ok (.aload_n 0, 1) := by decide +kernel
theorem dM_terms_16 : decode bM_terms 16 = .ok (.getfield 20, 3) := by decide +kernel
theorem dM_terms_19 : decode bM_terms 19 = .ok (.iload_n 3, 1) := by decide +kernel
theorem dM_terms_20 : decode bM_terms 20 = .ok (.iaload, 1) := by decide +kernel
theorem dM_terms_21 : decode bM_terms 21 = .ok (.invokevirtual 88, 3) := by decide +kernel
theorem dM_terms_24 : decode bM_terms 24 = .ok (.ifCond .eq 7, 3) := by decide +kernel
theorem dM_terms_27 : decode bM_terms 27 = .ok (.iconst 1, 1) := by decide +kernel
theorem dM_terms_28 : decode bM_terms 28 = .ok (.goto 4, 3) := by decide +kernel
theorem dM_terms_31 : decode bM_terms 31 = .ok (.iconst 0, 1) := by decide +kernel
theorem dM_terms_32 : decode bM_terms 32 = .ok (.iadd, 1) := by decide +kernel
theorem dM_terms_33 : decode bM_terms 33 = .ok (.istore_n 2, 1) := by decide +kernel
theorem dM_terms_34 : decode bM_terms 34 = .ok (.iinc 3 1, 3) := by decide +kernel
theorem dM_terms_37 : decode bM_terms 37 = .ok (.goto (-33), 3) := by decide +kernel
theorem dM_terms_40 : decode bM_terms 40 = .ok (.iload_n 2, 1) := by decide +kernel
theorem dM_terms_41 : decode bM_terms 41 = .ok (.ireturn, 1) := by decide +kernel
theorem dM_addTo_0 : decode bM_addTo 0 = .ok (.iconst 0, 1) := by decide +kernel
theorem dM_addTo_1 : decode bM_addTo 1 = .ok (.istore 4, 2) := by decide +kernel
theorem dM_addTo_3 : decode bM_addTo 3 = .ok (.iload 4, 2) := by decide +kernel
theorem dM_addTo_5 : decode bM_addTo 5 = .ok (.aload_n 0, 1) := by decide +kernel
theorem dM_addTo_6 : decode bM_addTo 6 = .ok (.getfield 67, 3) := by decide +kernel
theorem dM_addTo_9 : decode bM_addTo 9 = .ok (.if_icmp .ge 55, 3) := by decide +kernel
theorem dM_addTo_12 : decode bM_addTo 12 = .ok (.aload_n 0, 1) := by decide +kernel
theorem dM_addTo_13 : decode bM_addTo 13 = .ok (.iload_n 3, 1) := by decide +kernel
theorem dM_addTo_14 : decode bM_addTo 14 = .ok (.aload_n 0, 1) := by decide +kernel
theorem dM_addTo_15 : decode bM_addTo 15 = .ok (.getfield 20, 3) := by decide +kernel
theorem dM_addTo_18 : decode bM_addTo 18 = .ok (.iload 4, 2) := by decide +kernel
theorem dM_addTo_20 : decode bM_addTo 20 = .ok (.iaload, 1) := by decide +kernel
theorem dM_addTo_21 : decode bM_addTo 21 = .ok (.aload_n 0, 1) := by decide +kernel
theorem dM_addTo_22 : decode bM_addTo 22 = .ok (.aload_n 0, 1) := by decide +kernel
theorem dM_addTo_23 : decode bM_addTo 23 = .ok (.iload_n 3, 1) := by decide +kernel
theorem dM_addTo_24 : decode bM_addTo 24 = .ok (.aload_n 0, 1) := by decide +kernel
theorem dM_addTo_25 : decode bM_addTo 25 = .ok (.getfield 20, 3) := by decide +kernel
theorem dM_addTo_28 : decode bM_addTo 28 = .ok (.iload 4, 2) := by decide +kernel
theorem dM_addTo_30 : decode bM_addTo 30 = .ok (.iaload, 1) := by decide +kernel
theorem dM_addTo_31 : decode bM_addTo 31 = .ok (.invokevirtual 88, 3) := by decide +kernel
theorem dM_addTo_34 : decode bM_addTo 34 = .ok (.i2l, 1) := by decide +kernel
theorem dM_addTo_35 : decode bM_addTo 35 = .ok (.iload_n 2, 1) := by decide +kernel
theorem dM_addTo_36 : decode bM_addTo 36 = .ok (.i2l, 1) := by decide +kernel
theorem dM_addTo_37 : decode bM_addTo 37 = .ok (.aload_n 0, 1) := by decide +kernel
theorem dM_addTo_38 : decode bM_addTo 38 = .ok (.iload_n 1, 1) := by decide +kernel
theorem dM_addTo_39 : decode bM_addTo 39 = .ok (.aload_n 0, 1) := by decide +kernel
theorem dM_addTo_40 : decode bM_addTo 40 = .ok (.getfield 20, 3) := by decide +kernel
theorem dM_addTo_43 : decode bM_addTo 43 = .ok (.iload 4, 2) := by decide +kernel
theorem dM_addTo_45 : decode bM_addTo 45 = .ok (.iaload, 1) := by decide +kernel
theorem dM_addTo_46 : decode bM_addTo 46 = .ok (.invokevirtual 88, 3) := by decide +kernel
theorem dM_addTo_49 : decode bM_addTo 49 = .ok (.i2l, 1) := by decide +kernel
theorem dM_addTo_50 : decode bM_addTo 50 = .ok (.lmul, 1) := by decide +kernel
theorem dM_addTo_51 : decode bM_addTo 51 = .ok (.ladd, 1) := by decide +kernel
theorem dM_addTo_52 : decode bM_addTo 52 = .ok (.invokevirtual 92, 3) := by decide +kernel
theorem dM_addTo_55 : decode bM_addTo 55 = .ok (.invokevirtual 85, 3) := by decide +kernel
theorem dM_addTo_58 : decode bM_addTo 58 = .ok (.iinc 4 1, 3) := by decide +kernel
theorem dM_addTo_61 : decode bM_addTo 61 = .ok (.goto (-58), 3) := by decide +kernel
theorem dM_addTo_64 : decode bM_addTo 64 = .ok (.return_, 1) := by decide +kernel
theorem dM_isTooHigh_0 : decode bM_isTooHigh 0 = .ok (.aload_n 0, 1) := by decide +kernel
theorem dM_isTooHigh_1 : decode bM_isTooHigh 1 = .ok (.iload_n 1, 1) := by decide +kernel
theorem dM_isTooHigh_2 : decode bM_isTooHigh 2 = .ok (.invokevirtual 96, 3) := by decide +kernel
theorem dM_isTooHigh_5 : decode bM_isTooHigh 5 = .ok (.istore_n 3, 1) := by decide +kernel
theorem dM_isTooHigh_6 : decode bM_isTooHigh 6 = .ok (.aload_n 0, 1) := by decide +kernel
theorem dM_isTooHigh_7 : decode bM_isTooHigh 7 = .ok (.iload_n 2, 1) := by decide +kernel
theorem dM_isTooHigh_8 : decode bM_isTooHigh 8 = .ok (.invokevirtual 96, 3) := by decide +kernel
theorem dM_isTooHigh_11 : decode bM_isTooHigh 11 = .ok (.istore 4, 2) := by decide +kernel
theorem dM_isTooHigh_13 : decode bM_isTooHigh 13 = .ok (.iload_n 3, 1) := by decide +kernel
theorem dM_isTooHigh_14 : decode bM_isTooHigh 14 = .ok (.ifCond .lt 23, 3) := by decide +kernel
theorem dM_isTooHigh_17 : decode bM_isTooHigh 17 = .ok (.iload 4, 2) := by decide +kernel
theorem dM_isTooHigh_19 : decode bM_isTooHigh 19 = .ok (.ifCond .lt 18, 3) := by decide +kernel
theorem dM_isTooHigh_22 : decode bM_isTooHigh 22 = .ok (.iload_n 3, 1) := by decide +kernel
theorem dM_isTooHigh_23 : decode bM_isTooHigh 23 = .ok (.iload 4, 2) := by decide +kernel
theorem dM_isTooHigh_25 : decode bM_isTooHigh 25 = .ok (.iadd, 1) := by decide +kernel
theorem dM_isTooHigh_26 : decode bM_isTooHigh 26 = .ok (.aload_n 0, 1) := by decide +kernel
theorem dM_isTooHigh_27 : decode bM_isTooHigh 27 = .ok (.getfield 61, 3) := by decide +kernel
theorem dM_isTooHigh_30 : decode bM_isTooHigh 30 = .ok (.if_icmp .le 7, 3) := by decide +kernel
theorem dM_isTooHigh_33 : decode bM_isTooHigh 33 = .ok (.iconst 1, 1) := by decide +kernel
theorem dM_isTooHigh_34 : decode bM_isTooHigh 34 = .ok (.goto 4, 3) := by decide +kernel
theorem dM_isTooHigh_37 : decode bM_isTooHigh 37 = .ok (.iconst 0, 1) := by decide +kernel
theorem dM_isTooHigh_38 : decode bM_isTooHigh 38 = .ok (.ireturn, 1) := by decide +kernel
theorem dM_times_0 : decode bM_times 0 = .ok (.aload_n 0, 1) := by decide +kernel
theorem dM_times_1 : decode bM_times 1 = .ok (.iload_n 3, 1) := by decide +kernel
theorem dM_times_2 : decode bM_times 2 = .ok (.invokevirtual 100, 3) := by decide +kernel
theorem dM_times_5 : decode bM_times 5 = .ok (.iconst 0, 1) := by decide +kernel
theorem dM_times_6 : decode bM_times 6 = .ok (.istore 4, 2) := by decide +kernel
theorem dM_times_8 : decode bM_times 8 = .ok (.iload 4, 2) := by decide +kernel
theorem dM_times_10 : decode bM_times 10 = .ok (.aload_n 0, 1) := by decide +kernel
theorem dM_times_11 : decode bM_times 11 = .ok (.getfield 67, 3) := by decide +kernel
theorem dM_times_14 : decode bM_times 14 = .ok (.if_icmp .ge 108, 3) := by decide +kernel
theorem dM_times_17 : decode bM_times 17 = .ok (.aload_n 0, 1) := by decide +kernel
theorem dM_times_18 : decode bM_times 18 = .ok (.getfield 20, 3) := by decide +kernel
theorem dM_times_21 : decode bM_times 21 = .ok (.iload 4, 2) := by decide +kernel
theorem dM_times_23 : decode bM_times 23 = .ok (.iaload, 1) := by decide +kernel
theorem dM_times_24 : decode bM_times 24 = .ok (.istore 5, 2) := by decide +kernel
theorem dM_times_26 : decode bM_times 26 = .ok (.iconst 0, 1) := by decide +kernel
theorem dM_times_27 : decode bM_times 27 = .ok (.istore 6, 2) := by decide +kernel
theorem dM_times_29 : decode bM_times 29 = .ok (.iload 6, 2) := by decide +kernel
theorem dM_times_31 : decode bM_times 31 = .ok (.aload_n 0, 1) := by decide +kernel
theorem dM_times_32 : decode bM_times 32 = .ok (.getfield 67, 3) := by decide +kernel
theorem dM_times_35 : decode bM_times 35 = .ok (.if_icmp .ge 81, 3) := by decide +kernel
theorem dM_times_38 : decode bM_times 38 = .ok (.aload_n 0, 1) := by decide +kernel
theorem dM_times_39 : decode bM_times 39 = .ok (.iload_n 1, 1) := by decide +kernel
theorem dM_times_40 : decode bM_times 40 = .ok (.iload 5, 2) := by decide +kernel
theorem dM_times_42 : decode bM_times 42 = .ok (.invokevirtual 88, 3) := by decide +kernel
theorem dM_times_45 : decode bM_times 45 = .ok (.ifCond .eq 71, 3) := by decide +kernel
theorem dM_times_48 : decode bM_times 48 = .ok (.aload_n 0, 1) := by decide +kernel
theorem dM_times_49 : decode bM_times 49 = .ok (.getfield 20, 3) := by decide +kernel
theorem dM_times_52 : decode bM_times 52 = .ok (.iload 6, 2) := by decide +kernel
theorem dM_times_54 : decode bM_times 54 = .ok (.iaload, 1) := by decide +kernel
theorem dM_times_55 : decode bM_times 55 = .ok (.istore 7, 2) := by decide +kernel
theorem dM_times_57 : decode bM_times 57 = .ok (.aload_n 0, 1) := by decide +kernel
theorem dM_times_58 : decode bM_times 58 = .ok (.iload_n 2, 1) := by decide +kernel
theorem dM_times_59 : decode bM_times 59 = .ok (.iload 7, 2) := by decide +kernel
theorem dM_times_61 : decode bM_times 61 = .ok (.invokevirtual 88, 3) := by decide +kernel
theorem dM_times_64 : decode bM_times 64 = .ok (.ifCond .eq 46, 3) := by decide +kernel
theorem dM_times_67 : decode bM_times 67 = .ok (.aload_n 0, 1) := by decide +kernel
theorem dM_times_68 : decode bM_times 68 = .ok (.iload_n 3, 1) := by decide +kernel
theorem dM_times_69 : decode bM_times 69 = .ok (.iload 5, 2) := by decide +kernel
theorem dM_times_71 : decode bM_times 71 = .ok (.iload 7, 2) := by decide +kernel
theorem dM_times_73 : decode bM_times 73 = .ok (.iadd, 1) := by decide +kernel
theorem dM_times_74 : decode bM_times 74 = .ok (.aload_n 0, 1) := by decide +kernel
theorem dM_times_75 : decode bM_times 75 = .ok (.aload_n 0, 1) := by decide +kernel
theorem dM_times_76 : decode bM_times 76 = .ok (.iload_n 3, 1) := by decide +kernel
theorem dM_times_77 : decode bM_times 77 = .ok (.iload 5, 2) := by decide +kernel
theorem dM_times_79 : decode bM_times 79 = .ok (.iload 7, 2) := by decide +kernel
theorem dM_times_81 : decode bM_times 81 = .ok (.iadd, 1) := by decide +kernel
theorem dM_times_82 : decode bM_times 82 = .ok (.invokevirtual 88, 3) := by decide +kernel
theorem dM_times_85 : decode bM_times 85 = .ok (.i2l, 1) := by decide +kernel
theorem dM_times_86 : decode bM_times 86 = .ok (.aload_n 0, 1) := by decide +kernel
theorem dM_times_87 : decode bM_times 87 = .ok (.iload_n 1, 1) := by decide +kernel
theorem dM_times_88 : decode bM_times 88 = .ok (.iload 5, 2) := by decide +kernel
theorem dM_times_90 : decode bM_times 90 = .ok (.invokevirtual 88, 3) := by decide +kernel
theorem dM_times_93 : decode bM_times 93 = .ok (.i2l, 1) := by decide +kernel
theorem dM_times_94 : decode bM_times 94 = .ok (.aload_n 0, 1) := by decide +kernel
theorem dM_times_95 : decode bM_times 95 = .ok (.iload_n 2, 1) := by decide +kernel
theorem dM_times_96 : decode bM_times 96 = .ok (.iload 7, 2) := by decide +kernel
theorem dM_times_98 : decode bM_times 98 = .ok (.invokevirtual 88, 3) := by decide +kernel
theorem dM_times_101 : decode bM_times 101 = .ok (.i2l, 1) := by decide +kernel
theorem dM_times_102 : decode bM_times 102 = .ok (.lmul, 1) := by decide +kernel
theorem dM_times_103 : decode bM_times 103 = .ok (.ladd, 1) := by decide +kernel
theorem dM_times_104 : decode bM_times 104 = .ok (.invokevirtual 92, 3) := by decide +kernel
theorem dM_times_107 : decode bM_times 107 = .ok (.invokevirtual 85, 3) := by decide +kernel
theorem dM_times_110 : decode bM_times 110 = .ok (.iinc 6 1, 3) := by decide +kernel
theorem dM_times_113 : decode bM_times 113 = .ok (.goto (-84), 3) := by decide +kernel
theorem dM_times_116 : decode bM_times 116 = .ok (.iinc 4 1, 3) := by decide +kernel
theorem dM_times_119 : decode bM_times 119 = .ok (.goto (-111), 3) := by decide +kernel
theorem dM_times_122 : decode bM_times 122 = .ok (.return_, 1) := by decide +kernel
theorem dM_put_0 : decode bM_put 0 = .ok (.aload_n 0, 1) := by decide +kernel
theorem dM_put_1 : decode bM_put 1 = .ok (.iconst 0, 1) := by decide +kernel
theorem dM_put_2 : decode bM_put 2 = .ok (.putfield 52, 3) := by decide +kernel
theorem dM_put_5 : decode bM_put 5 = .ok (.iload_n 3, 1) := by decide +kernel
theorem dM_put_6 : decode bM_put 6 = .ok (.ifCond .lt 21, 3) := by decide +kernel
theorem dM_put_9 : decode bM_put 9 = .ok (.iload_n 3, 1) := by decide +kernel
theorem dM_put_10 : decode bM_put 10 = .ok (.bipush 8, 2) := by decide +kernel
theorem dM_put_12 : decode bM_put 12 = .ok (.if_icmp .gt 15, 3) := by decide +kernel
theorem dM_put_15 : decode bM_put 15 = .ok (.aload_n 0, 1) := by decide +kernel
theorem dM_put_16 : decode bM_put 16 = .ok (.getfield 103, 3) := by decide +kernel
theorem dM_put_19 : decode bM_put 19 = .ok (.iload_n 3, 1) := by decide +kernel
theorem dM_put_20 : decode bM_put 20 = .ok (.iadd, 1) := by decide +kernel
theorem dM_put_21 : decode bM_put 21 = .ok (.sipush 200, 3) := by decide +kernel
theorem dM_put_24 : decode bM_put 24 = .ok (.if_icmp .le 5, 3) := by decide +kernel
theorem dM_put_27 : decode bM_put 27 = .ok (.iconst 0, 1) := by decide +kernel
theorem dM_put_28 : decode bM_put 28 = .ok (.ireturn, 1) := by decide +kernel
theorem dM_put_29 : decode bM_put 29 = .ok (.iload_n 3, 1) := by decide +kernel
theorem dM_put_30 : decode bM_put 30 = .ok (.iconst 1, 1) := by decide +kernel
theorem dM_put_31 : decode bM_put 31 = .ok (.isub, 1) := by decide +kernel
theorem dM_put_32 : decode bM_put 32 = .ok (.istore 4, 2) := by decide +kernel
theorem dM_put_34 : decode bM_put 34 = .ok (.iload 4, 2) := by decide +kernel
theorem dM_put_36 : decode bM_put 36 = .ok (.ifCond .lt 40, 3) := by decide +kernel
theorem dM_put_39 : decode bM_put 39 = .ok (.aload_n 0, 1) := by decide +kernel
theorem dM_put_40 : decode bM_put 40 = .ok (.getfield 30, 3) := by decide +kernel
theorem dM_put_43 : decode bM_put 43 = .ok (.aload_n 0, 1) := by decide +kernel
theorem dM_put_44 : decode bM_put 44 = .ok (.getfield 103, 3) := by decide +kernel
theorem dM_put_47 : decode bM_put 47 = .ok (.lload_n 1, 1) := by decide +kernel
theorem dM_put_48 : decode bM_put 48 = .ok (.bipush 8, 2) := by decide +kernel
theorem dM_put_50 : decode bM_put 50 = .ok (.iload 4, 2) := by decide +kernel
theorem dM_put_52 : decode bM_put 52 = .ok (.imul, 1) := by decide +kernel
theorem dM_put_53 : decode bM_put 53 = .ok (.lshr, 1) := by decide +kernel
theorem dM_put_54 : decode bM_put 54 = .ok (.l2i, 1) := by decide +kernel
theorem dM_put_55 : decode bM_put 55 = .ok (.sipush 255, 3) := by decide +kernel
theorem dM_put_58 : decode bM_put 58 = .ok (.iand, 1) := by decide +kernel
theorem dM_put_59 : decode bM_put 59 = .ok (.iastore, 1) := by decide +kernel
theorem dM_put_60 : decode bM_put 60 = .ok (.aload_n 0, 1) := by decide +kernel
theorem dM_put_61 : decode bM_put 61 = .ok (.dup, 1) := by decide +kernel
theorem dM_put_62 : decode bM_put 62 = .ok (.getfield 103, 3) := by decide +kernel
theorem dM_put_65 : decode bM_put 65 = .ok (.iconst 1, 1) := by decide +kernel
theorem dM_put_66 : decode bM_put 66 = .ok (.iadd, 1) := by decide +kernel
theorem dM_put_67 : decode bM_put 67 = .ok (.putfield 103, 3) := by decide +kernel
theorem dM_put_70 : decode bM_put 70 = .ok (.iinc 4 (-1), 3) := by decide +kernel
theorem dM_put_73 : decode bM_put 73 = .ok (.goto (-39), 3) := by decide +kernel
theorem dM_put_76 : decode bM_put 76 = .ok (.iconst 1, 1) := by decide +kernel
theorem dM_put_77 : decode bM_put 77 = .ok (.ireturn, 1) := by decide +kernel
theorem dM_sum_0 : decode bM_sum 0 = .ok (.bipush 8, 2) := by decide +kernel
theorem dM_sum_2 : decode bM_sum 2 = .ok (.iconst 3, 1) := by decide +kernel
theorem dM_sum_3 : decode bM_sum 3 = .ok (.aload_n 0, 1) := by decide +kernel
theorem dM_sum_4 : decode bM_sum 4 = .ok (.getfield 106, 3) := by decide +kernel
theorem dM_sum_7 : decode bM_sum 7 = .ok (.imul, 1) := by decide +kernel
theorem dM_sum_8 : decode bM_sum 8 = .ok (.iadd, 1) := by decide +kernel
theorem dM_sum_9 : decode bM_sum 9 = .ok (.ireturn, 1) := by decide +kernel
theorem dM_init_0 : decode bM_init 0 = .ok (.aload_n 0, 1) := by decide +kernel
theorem dM_init_1 : decode bM_init 1 = .ok (.invokespecial 1, 3) := by decide +kernel
theorem dM_init_4 : decode bM_init 4 = .ok (.aload_n 0, 1) := by decide +kernel
theorem dM_init_5 : decode bM_init 5 = .ok (.bipush 7, 2) := by decide +kernel
theorem dM_init_7 : decode bM_init 7 = .ok (.putfield 7, 3) := by decide +kernel
theorem dM_init_10 : decode bM_init 10 = .ok (.aload_n 0, 1) := by decide +kernel
theorem dM_init_11 : decode bM_init 11 = .ok (.sipush 1296, 3) := by decide +kernel
theorem dM_init_14 : decode bM_init 14 = .ok (.newarray .int, 2) := by decide +kernel
theorem dM_init_16 : decode bM_init 16 = .ok (.putfield 13, 3) := by decide +kernel
theorem dM_init_19 : decode bM_init 19 = .ok (.aload_n 0, 1) := by decide +kernel
theorem dM_init_20 : decode bM_init 20 = .ok (.sipush 5184, 3) := by decide +kernel
theorem dM_init_23 : decode bM_init 23 = .ok (.newarray .int, 2) := by decide +kernel
theorem dM_init_25 : decode bM_init 25 = .ok (.putfield 17, 3) := by decide +kernel
theorem dM_init_28 : decode bM_init 28 = .ok (.aload_n 0, 1) := by decide +kernel
theorem dM_init_29 : decode bM_init 29 = .ok (.bipush 126, 2) := by decide +kernel
theorem dM_init_31 : decode bM_init 31 = .ok (.newarray .int, 2) := by decide +kernel
theorem dM_init_33 : decode bM_init 33 = .ok (.putfield 20, 3) := by decide +kernel
theorem dM_init_36 : decode bM_init 36 = .ok (.aload_n 0, 1) := by decide +kernel
theorem dM_init_37 : decode bM_init 37 = .ok (.iconst 4, 1) := by decide +kernel
theorem dM_init_38 : decode bM_init 38 = .ok (.newarray .int, 2) := by decide +kernel
theorem dM_init_40 : decode bM_init 40 = .ok (.putfield 23, 3) := by decide +kernel
theorem dM_init_43 : decode bM_init 43 = .ok (.aload_n 0, 1) := by decide +kernel
theorem dM_init_44 : decode bM_init 44 = .ok (.ldc 26, 2) := by decide +kernel
theorem dM_init_46 : decode bM_init 46 = .ok (.newarray .int, 2) := by decide +kernel
theorem dM_init_48 : decode bM_init 48 = .ok (.putfield 27, 3) := by decide +kernel
theorem dM_init_51 : decode bM_init 51 = .ok (.aload_n 0, 1) := by decide +kernel
theorem dM_init_52 : decode bM_init 52 = .ok (.sipush 200, 3) := by decide +kernel
theorem dM_init_55 : decode bM_init 55 = .ok (.newarray .int, 2) := by decide +kernel
theorem dM_init_57 : decode bM_init 57 = .ok (.putfield 30, 3) := by decide +kernel
theorem dM_init_60 : decode bM_init 60 = .ok (.aload_n 0, 1) := by decide +kernel
theorem dM_init_61 : decode bM_init 61 = .ok (.iconst (-1), 1) := by decide +kernel
theorem dM_init_62 : decode bM_init 62 = .ok (.putfield 33, 3) := by decide +kernel
theorem dM_init_65 : decode bM_init 65 = .ok (.aload_n 0, 1) := by decide +kernel
theorem dM_init_66 : decode bM_init 66 = .ok (.sipush 200, 3) := by decide +kernel
theorem dM_init_69 : decode bM_init 69 = .ok (.newarray .int, 2) := by decide +kernel
theorem dM_init_71 : decode bM_init 71 = .ok (.putfield 36, 3) := by decide +kernel
theorem dM_init_74 : decode bM_init 74 = .ok (.aload_n 0, 1) := by decide +kernel
theorem dM_init_75 : decode bM_init 75 = .ok (.bipush 21, 2) := by decide +kernel
theorem dM_init_77 : decode bM_init 77 = .ok (.newarray .int, 2) := by decide +kernel
theorem dM_init_79 : decode bM_init 79 = .ok (.putfield 39, 3) := by decide +kernel
theorem dM_init_82 : decode bM_init 82 = .ok (.aload_n 0, 1) := by decide +kernel
theorem dM_init_83 : decode bM_init 83 = .ok (.bipush 21, 2) := by decide +kernel
theorem dM_init_85 : decode bM_init 85 = .ok (.newarray .int, 2) := by decide +kernel
theorem dM_init_87 : decode bM_init 87 = .ok (.putfield 42, 3) := by decide +kernel
theorem dM_init_90 : decode bM_init 90 = .ok (.aload_n 0, 1) := by decide +kernel
theorem dM_init_91 : decode bM_init 91 = .ok (.sipush 4000, 3) := by decide +kernel
theorem dM_init_94 : decode bM_init 94 = .ok (.newarray .int, 2) := by decide +kernel
theorem dM_init_96 : decode bM_init 96 = .ok (.putfield 45, 3) := by decide +kernel
theorem dM_init_99 : decode bM_init 99 = .ok (.aload_n 0, 1) := by decide +kernel
theorem dM_init_100 : decode bM_init 100 = .ok (.bipush 7, 2) := by decide +kernel
theorem dM_init_102 : decode bM_init 102 = .ok (.iconst 2, 1) := by decide +kernel
theorem dM_init_103 : decode bM_init 103 = .ok (.iconst 0, 1) := by decide +kernel
theorem dM_init_104 : decode bM_init 104 = .ok (.invokevirtual 48, 3) := by decide +kernel
theorem dM_init_107 : decode bM_init 107 = .ok (.return_, 1) := by decide +kernel
theorem dM_product_0 : decode bM_product 0 = .ok (.bipush 8, 2) := by decide +kernel
theorem dM_product_2 : decode bM_product 2 = .ok (.iconst 3, 1) := by decide +kernel
theorem dM_product_3 : decode bM_product 3 = .ok (.aload_n 0, 1) := by decide +kernel
theorem dM_product_4 : decode bM_product 4 = .ok (.getfield 106, 3) := by decide +kernel
theorem dM_product_7 : decode bM_product 7 = .ok (.imul, 1) := by decide +kernel
theorem dM_product_8 : decode bM_product 8 = .ok (.iadd, 1) := by decide +kernel
theorem dM_product_9 : decode bM_product 9 = .ok (.iconst 1, 1) := by decide +kernel
theorem dM_product_10 : decode bM_product 10 = .ok (.iadd, 1) := by decide +kernel
theorem dM_product_11 : decode bM_product 11 = .ok (.ireturn, 1) := by decide +kernel
theorem dM_factor_0 : decode bM_factor 0 = .ok (.bipush 8, 2) := by decide +kernel
theorem dM_factor_2 : decode bM_factor 2 = .ok (.iconst 3, 1) := by decide +kernel
theorem dM_factor_3 : decode bM_factor 3 = .ok (.aload_n 0, 1) := by decide +kernel
theorem dM_factor_4 : decode bM_factor 4 = .ok (.getfield 106, 3) := by decide +kernel
theorem dM_factor_7 : decode bM_factor 7 = .ok (.imul, 1) := by decide +kernel
theorem dM_factor_8 : decode bM_factor 8 = .ok (.iadd, 1) := by decide +kernel
theorem dM_factor_9 : decode bM_factor 9 = .ok (.iconst 2, 1) := by decide +kernel
theorem dM_factor_10 : decode bM_factor 10 = .ok (.iadd, 1) := by decide +kernel
theorem dM_factor_11 : decode bM_factor 11 = .ok (.ireturn, 1) := by decide +kernel
theorem dM_here_0 : decode bM_here 0 = .ok (.aload_n 0, 1) := by decide +kernel
theorem dM_here_1 : decode bM_here 1 = .ok (.getfield 109, 3) := by decide +kernel
theorem dM_here_4 : decode bM_here 4 = .ok (.aload_n 0, 1) := by decide +kernel
theorem dM_here_5 : decode bM_here 5 = .ok (.getfield 112, 3) := by decide +kernel
theorem dM_here_8 : decode bM_here 8 = .ok (.if_icmp .ge 30, 3) := by decide +kernel
theorem dM_here_11 : decode bM_here 11 = .ok (.aload_n 0, 1) := by decide +kernel
theorem dM_here_12 : decode bM_here 12 = .ok (.getfield 36, 3) := by decide +kernel
theorem dM_here_15 : decode bM_here 15 = .ok (.aload_n 0, 1) := by decide +kernel
theorem dM_here_16 : decode bM_here 16 = .ok (.getfield 109, 3) := by decide +kernel
theorem dM_here_19 : decode bM_here 19 = .ok (.iaload, 1) := by decide +kernel
theorem dM_here_20 : decode bM_here 20 = .ok (.bipush 32, 2) := by decide +kernel
theorem dM_here_22 : decode bM_here 22 = .ok (.if_icmp .ne 16, 3) := by decide +kernel
theorem dM_here_25 : decode bM_here 25 = .ok (.aload_n 0, 1) := by decide +kernel
theorem dM_here_26 : decode bM_here 26 = .ok (.dup, 1) := by decide +kernel
theorem dM_here_27 : decode bM_here 27 = .ok (.getfield 109, 3) := by decide +kernel
theorem dM_here_30 : decode bM_here 30 = .ok (.iconst 1, 1) := by decide +kernel
theorem dM_here_31 : decode bM_here 31 = .ok (.iadd, 1) := by decide +kernel
theorem dM_here_32 : decode bM_here 32 = .ok (.putfield 109, 3) := by decide +kernel
theorem dM_here_35 : decode bM_here 35 = .ok (.goto (-35), 3) := by decide +kernel
theorem dM_here_38 : decode bM_here 38 = .ok (.aload_n 0, 1) := by decide +kernel
theorem dM_here_39 : decode bM_here 39 = .ok (.getfield 109, 3) := by decide +kernel
theorem dM_here_42 : decode bM_here 42 = .ok (.aload_n 0, 1) := by decide +kernel
theorem dM_here_43 : decode bM_here 43 = .ok (.getfield 112, 3) := by decide +kernel
theorem dM_here_46 : decode bM_here 46 = .ok (.if_icmp .ge 15, 3) := by decide +kernel
theorem dM_here_49 : decode bM_here 49 = .ok (.aload_n 0, 1) := by decide +kernel
theorem dM_here_50 : decode bM_here 50 = .ok (.getfield 36, 3) := by decide +kernel
theorem dM_here_53 : decode bM_here 53 = .ok (.aload_n 0, 1) := by decide +kernel
theorem dM_here_54 : decode bM_here 54 = .ok (.getfield 109, 3) := by decide +kernel
theorem dM_here_57 : decode bM_here 57 = .ok (.iaload, 1) := by decide +kernel
theorem dM_here_58 : decode bM_here 58 = .ok (.goto 4, 3) := by decide +kernel
theorem dM_here_61 : decode bM_here 61 = .ok (.iconst (-1), 1) := by decide +kernel
theorem dM_here_62 : decode bM_here 62 = .ok (.ireturn, 1) := by decide +kernel
theorem dM_fail_0 : decode bM_fail 0 = .ok (.aload_n 0, 1) := by decide +kernel
theorem dM_fail_1 : decode bM_fail 1 = .ok (.iload_n 1, 1) := by decide +kernel
theorem dM_fail_2 : decode bM_fail 2 = .ok (.putfield 115, 3) := by decide +kernel
theorem dM_fail_5 : decode bM_fail 5 = .ok (.aload_n 0, 1) := by decide +kernel
theorem dM_fail_6 : decode bM_fail 6 = .ok (.iload_n 2, 1) := by decide +kernel
theorem dM_fail_7 : decode bM_fail 7 = .ok (.putfield 118, 3) := by decide +kernel
theorem dM_fail_10 : decode bM_fail 10 = .ok (.return_, 1) := by decide +kernel
theorem dM_isDigit_0 : decode bM_isDigit 0 = .ok (.iload_n 0, 1) := by decide +kernel
theorem dM_isDigit_1 : decode bM_isDigit 1 = .ok (.bipush 48, 2) := by decide +kernel
theorem dM_isDigit_3 : decode bM_isDigit 3 = .ok (.if_icmp .lt 13, 3) := by decide +kernel
theorem dM_isDigit_6 : decode bM_isDigit 6 = .ok (.iload_n 0, 1) := by decide +kernel
theorem dM_isDigit_7 : decode bM_isDigit 7 = .ok (.bipush 57, 2) := by decide +kernel
theorem dM_isDigit_9 : decode bM_isDigit 9 = .ok (.if_icmp .gt 7, 3) := by decide +kernel
theorem dM_isDigit_12 : decode bM_isDigit 12 = .ok (.iconst 1, 1) := by decide +kernel
theorem dM_isDigit_13 : decode bM_isDigit 13 = .ok (.goto 4, 3) := by decide +kernel
theorem dM_isDigit_16 : decode bM_isDigit 16 = .ok (.iconst 0, 1) := by decide +kernel
theorem dM_isDigit_17 : decode bM_isDigit 17 = .ok (.ireturn, 1) := by decide +kernel
theorem dM_number_0 : decode bM_number 0 = .ok (.aload_n 0, 1) := by decide +kernel
theorem dM_number_1 : decode bM_number 1 = .ok (.getfield 109, 3) := by decide +kernel
theorem dM_number_4 : decode bM_number 4 = .ok (.istore_n 2, 1) := by decide +kernel
theorem dM_number_5 : decode bM_number 5 = .ok (.lconst 0, 1) := by decide +kernel
theorem dM_number_6 : decode bM_number 6 = .ok (.lstore_n 3, 1) := by decide +kernel
theorem dM_number_7 : decode bM_number 7 = .ok (.aload_n 0, 1) := by decide +kernel
theorem dM_number_8 : decode bM_number 8 = .ok (.getfield 109, 3) := by decide +kernel
theorem dM_number_11 : decode bM_number 11 = .ok (.aload_n 0, 1) := by decide +kernel
theorem dM_number_12 : decode bM_number 12 = .ok (.getfield 112, 3) := by decide +kernel
theorem dM_number_15 : decode bM_number 15 = .ok (.if_icmp .ge 66, 3) := by decide +kernel
theorem dM_number_18 : decode bM_number 18 = .ok (.aload_n 0, 1) := by decide +kernel
theorem dM_number_19 : decode bM_number 19 = .ok (.getfield 36, 3) := by decide +kernel
theorem dM_number_22 : decode bM_number 22 = .ok (.aload_n 0, 1) := by decide +kernel
theorem dM_number_23 : decode bM_number 23 = .ok (.getfield 109, 3) := by decide +kernel
theorem dM_number_26 : decode bM_number 26 = .ok (.iaload, 1) := by decide +kernel
theorem dM_number_27 : decode bM_number 27 = .ok (.invokestatic 121, 3) := by decide +kernel
theorem dM_number_30 : decode bM_number 30 = .ok (.ifCond .eq 51, 3) := by decide +kernel
theorem dM_number_33 : decode bM_number 33 = .ok (.aload_n 0, 1) := by decide +kernel
theorem dM_number_34 : decode bM_number 34 = .ok (.getfield 109, 3) := by decide +kernel
theorem dM_number_37 : decode bM_number 37 = .ok (.iload_n 2, 1) := by decide +kernel
theorem dM_number_38 : decode bM_number 38 = .ok (.isub, 1) := by decide +kernel
theorem dM_number_39 : decode bM_number 39 = .ok (.iload_n 1, 1) := by decide +kernel
theorem dM_number_40 : decode bM_number 40 = .ok (.if_icmp .ge 26, 3) := by decide +kernel
theorem dM_number_43 : decode bM_number 43 = .ok (.ldc2_w 124, 3) := by decide +kernel
theorem dM_number_46 : decode bM_number 46 = .ok (.lload_n 3, 1) := by decide +kernel
theorem dM_number_47 : decode bM_number 47 = .ok (.lmul, 1) := by decide +kernel
theorem dM_number_48 : decode bM_number 48 = .ok (.aload_n 0, 1) := by decide +kernel
theorem dM_number_49 : decode bM_number 49 = .ok (.getfield 36, 3) := by decide +kernel
theorem dM_number_52 : decode bM_number 52 = .ok (.aload_n 0, 1) := by decide +kernel
theorem dM_number_53 : decode bM_number 53 = .ok (.getfield 109, 3) := by decide +kernel
theorem dM_number_56 : decode bM_number 56 = .ok (.iaload, 1) := by decide +kernel
theorem dM_number_57 : decode bM_number 57 = .ok (.i2l, 1) := by decide +kernel
theorem dM_number_58 : decode bM_number 58 = .ok (.ladd, 1) := by decide +kernel
theorem dM_number_59 : decode bM_number 59 = .ok (.ldc2_w 126, 3) := by decide +kernel
theorem dM_number_62 : decode bM_number 62 = .ok (.lsub, 1) := by decide +kernel
theorem dM_number_63 : decode bM_number 63 = .ok (.goto 4, 3) := by decide +kernel
theorem dM_number_66 : decode bM_number 66 = .ok (.lload_n 3, 1) := by decide +kernel
theorem dM_number_67 : decode bM_number 67 = .ok (.lstore_n 3, 1) := by decide +kernel
theorem dM_number_68 : decode bM_number 68 = .ok (.aload_n 0, 1) := by decide +kernel
theorem dM_number_69 : decode bM_number 69 = .ok (.dup, 1) := by decide +kernel
theorem dM_number_70 : decode bM_number 70 = .ok (.getfield 109, 3) := by decide +kernel
theorem dM_number_73 : decode bM_number 73 = .ok (.iconst 1, 1) := by decide +kernel
theorem dM_number_74 : decode bM_number 74 = .ok (.iadd, 1) := by decide +kernel
theorem dM_number_75 : decode bM_number 75 = .ok (.putfield 109, 3) := by decide +kernel
theorem dM_number_78 : decode bM_number 78 = .ok (.goto (-71), 3) := by decide +kernel
theorem dM_number_81 : decode bM_number 81 = .ok (.aload_n 0, 1) := by decide +kernel
theorem dM_number_82 : decode bM_number 82 = .ok (.getfield 109, 3) := by decide +kernel
theorem dM_number_85 : decode bM_number 85 = .ok (.iload_n 2, 1) := by decide +kernel
theorem dM_number_86 : decode bM_number 86 = .ok (.isub, 1) := by decide +kernel
theorem dM_number_87 : decode bM_number 87 = .ok (.iload_n 1, 1) := by decide +kernel
theorem dM_number_88 : decode bM_number 88 = .ok (.if_icmp .le 9, 3) := by decide +kernel
theorem dM_number_91 : decode bM_number 91 = .ok (.aload_n 0, 1) := by decide +kernel
theorem dM_number_92 : decode bM_number 92 = .ok (.iconst 4, 1) := by decide +kernel
theorem dM_number_93 : decode bM_number 93 = .ok (.iload_n 2, 1) := by decide +kernel
theorem dM_number_94 : decode bM_number 94 = .ok (.invokevirtual 128, 3) := by decide +kernel
theorem dM_number_97 : decode bM_number 97 = .ok (.lload_n 3, 1) := by decide +kernel
theorem dM_number_98 : decode bM_number 98 = .ok (.lreturn, 1) := by decide +kernel
theorem dM_variable_0 : decode bM_variable 0 = .ok (.iload_n 1, 1) := by decide +kernel
theorem dM_variable_1 : decode bM_variable 1 = .ok (.bipush 120, 2) := by decide +kernel
theorem dM_variable_3 : decode bM_variable 3 = .ok (.if_icmp .ne 7, 3) := by decide +kernel
theorem dM_variable_6 : decode bM_variable 6 = .ok (.iconst 0, 1) := by decide +kernel
theorem dM_variable_7 : decode bM_variable 7 = .ok (.goto 34, 3) := by decide +kernel
theorem dM_variable_10 : decode bM_variable 10 = .ok (.iload_n 1, 1) := by decide +kernel
theorem dM_variable_11 : decode bM_variable 11 = .ok (.bipush 121, 2) := by decide +kernel
theorem dM_variable_13 : decode bM_variable 13 = .ok (.if_icmp .ne 7, 3) := by decide +kernel
theorem dM_variable_16 : decode bM_variable 16 = .ok (.iconst 1, 1) := by decide +kernel
theorem dM_variable_17 : decode bM_variable 17 = .ok (.goto 24, 3) := by decide +kernel
theorem dM_variable_20 : decode bM_variable 20 = .ok (.iload_n 1, 1) := by decide +kernel
theorem dM_variable_21 : decode bM_variable 21 = .ok (.bipush 122, 2) := by decide +kernel
theorem dM_variable_23 : decode bM_variable 23 = .ok (.if_icmp .ne 7, 3) := by decide +kernel
theorem dM_variable_26 : decode bM_variable 26 = .ok (.iconst 2, 1) := by decide +kernel
theorem dM_variable_27 : decode bM_variable 27 = .ok (.goto 14, 3) := by decide +kernel
theorem dM_variable_30 : decode bM_variable 30 = .ok (.iload_n 1, 1) := by decide +kernel
theorem dM_variable_31 : decode bM_variable 31 = .ok (.bipush 119, 2) := by decide +kernel
theorem dM_variable_33 : decode bM_variable 33 = .ok (.if_icmp .ne 7, 3) := by decide +kernel
theorem dM_variable_36 : decode bM_variable 36 = .ok (.iconst 3, 1) := by decide +kernel
theorem dM_variable_37 : decode bM_variable 37 = .ok (.goto 4, 3) := by decide +kernel
theorem dM_variable_40 : decode bM_variable 40 = .ok (.iconst 4, 1) := by decide +kernel
theorem dM_variable_41 : decode bM_variable 41 = .ok (.istore_n 2, 1) := by decide +kernel
theorem dM_variable_42 : decode bM_variable 42 = .ok (.iload_n 2, 1) := by decide +kernel
theorem dM_variable_43 : decode bM_variable 43 = .ok (.aload_n 0, 1) := by decide +kernel
theorem dM_variable_44 : decode bM_variable 44 = .ok (.getfield 55, 3) := by decide +kernel
theorem dM_variable_47 : decode bM_variable 47 = .ok (.if_icmp .ge 7, 3) := by decide +kernel
theorem dM_variable_50 : decode bM_variable 50 = .ok (.iload_n 2, 1) := by decide +kernel
theorem dM_variable_51 : decode bM_variable 51 = .ok (.goto 4, 3) := by decide +kernel
theorem dM_variable_54 : decode bM_variable 54 = .ok (.iconst (-1), 1) := by decide +kernel
theorem dM_variable_55 : decode bM_variable 55 = .ok (.ireturn, 1) := by decide +kernel
theorem dM_begin_0 : decode bM_begin 0 = .ok (.aload_n 0, 1) := by decide +kernel
theorem dM_begin_1 : decode bM_begin 1 = .ok (.aload_n 0, 1) := by decide +kernel
theorem dM_begin_2 : decode bM_begin 2 = .ok (.invokevirtual 132, 3) := by decide +kernel
theorem dM_begin_5 : decode bM_begin 5 = .ok (.invokevirtual 100, 3) := by decide +kernel
theorem dM_begin_8 : decode bM_begin 8 = .ok (.aload_n 0, 1) := by decide +kernel
theorem dM_begin_9 : decode bM_begin 9 = .ok (.getfield 39, 3) := by decide +kernel
theorem dM_begin_12 : decode bM_begin 12 = .ok (.aload_n 0, 1) := by decide +kernel
theorem dM_begin_13 : decode bM_begin 13 = .ok (.getfield 106, 3) := by decide +kernel
theorem dM_begin_16 : decode bM_begin 16 = .ok (.iconst 1, 1) := by decide +kernel
theorem dM_begin_17 : decode bM_begin 17 = .ok (.iastore, 1) := by decide +kernel
theorem dM_begin_18 : decode bM_begin 18 = .ok (.aload_n 0, 1) := by decide +kernel
theorem dM_begin_19 : decode bM_begin 19 = .ok (.getfield 42, 3) := by decide +kernel
theorem dM_begin_22 : decode bM_begin 22 = .ok (.aload_n 0, 1) := by decide +kernel
theorem dM_begin_23 : decode bM_begin 23 = .ok (.getfield 106, 3) := by decide +kernel
theorem dM_begin_26 : decode bM_begin 26 = .ok (.iconst (-1), 1) := by decide +kernel
theorem dM_begin_27 : decode bM_begin 27 = .ok (.iastore, 1) := by decide +kernel
theorem dM_begin_28 : decode bM_begin 28 = .ok (.aload_n 0, 1) := by decide +kernel
theorem dM_begin_29 : decode bM_begin 29 = .ok (.iconst 0, 1) := by decide +kernel
theorem dM_begin_30 : decode bM_begin 30 = .ok (.putfield 136, 3) := by decide +kernel
theorem dM_begin_33 : decode bM_begin 33 = .ok (.return_, 1) := by decide +kernel
theorem dM_readFactor_0 : decode bM_readFactor 0 = .ok (.iload_n 1, 1) := by decide +kernel
theorem dM_readFactor_1 : decode bM_readFactor 1 = .ok (.bipush 40, 2) := by decide +kernel
theorem dM_readFactor_3 : decode bM_readFactor 3 = .ok (.if_icmp .ne 47, 3) := by decide +kernel
theorem dM_readFactor_6 : decode bM_readFactor 6 = .ok (.aload_n 0, 1) := by decide +kernel
theorem dM_readFactor_7 : decode bM_readFactor 7 = .ok (.getfield 106, 3) := by decide +kernel
theorem dM_readFactor_10 : decode bM_readFactor 10 = .ok (.bipush 20, 2) := by decide +kernel
theorem dM_readFactor_12 : decode bM_readFactor 12 = .ok (.if_icmp .ne 13, 3) := by decide +kernel
theorem dM_readFactor_15 : decode bM_readFactor 15 = .ok (.aload_n 0, 1) := by decide +kernel
theorem dM_readFactor_16 : decode bM_readFactor 16 = .ok (.iconst 2, 1) := by decide +kernel
theorem dM_readFactor_17 : decode bM_readFactor 17 = .ok (.aload_n 0, 1) := by decide +kernel
theorem dM_readFactor_18 : decode bM_readFactor 18 = .ok (.getfield 109, 3) := by decide +kernel
theorem dM_readFactor_21 : decode bM_readFactor 21 = .ok (.invokevirtual 128, 3) := by decide +kernel
theorem dM_readFactor_24 : decode bM_readFactor 24 = .ok (.return_, 1) := by decide +kernel
theorem dM_readFactor_25 : decode bM_readFactor 25 = .ok (.aload_n 0, 1) := by decide +kernel
theorem dM_readFactor_26 : decode bM_readFactor 26 = .ok (.dup, 1) := by decide +kernel
theorem dM_readFactor_27 : decode bM_readFactor 27 = .ok (.getfield 109, 3) := by decide +kernel
theorem dM_readFactor_30 : decode bM_readFactor 30 = .ok (.iconst 1, 1) := by decide +kernel
theorem dM_readFactor_31 : decode bM_readFactor 31 = .ok (.iadd, 1) := by decide +kernel
theorem dM_readFactor_32 : decode bM_readFactor 32 = .ok (.putfield 109, 3) := by decide +kernel
theorem dM_readFactor_35 : decode bM_readFactor 35 = .ok (.aload_n 0, 1) := by decide +kernel
theorem dM_readFactor_36 : decode bM_readFactor 36 = .ok (.dup, 1) := by decide +kernel
theorem dM_readFactor_37 : decode bM_readFactor 37 = .ok (.getfield 106, 3) := by decide +kernel
theorem dM_readFactor_40 : decode bM_readFactor 40 = .ok (.iconst 1, 1) := by decide +kernel
theorem dM_readFactor_41 : decode bM_readFactor 41 = .ok (.iadd, 1) := by decide +kernel
theorem dM_readFactor_42 : decode bM_readFactor 42 = .ok (.putfield 106, 3) := by decide +kernel
theorem dM_readFactor_45 : decode bM_readFactor 45 = .ok (.aload_n 0, 1) := by decide +kernel
theorem dM_readFactor_46 : decode bM_readFactor 46 = .ok (.invokevirtual 139, 3) := by decide +kernel
theorem dM_readFactor_49 : decode bM_readFactor 49 = .ok (.return_, 1) := by decide +kernel
theorem dM_readFactor_50 : decode bM_readFactor 50 = .ok (.aload_n 0, 1) := by decide +kernel
theorem dM_readFactor_51 : decode bM_readFactor 51 = .ok (.iload_n 1, 1) := by decide +kernel
theorem dM_readFactor_52 : decode bM_readFactor 52 = .ok (.invokevirtual 142, 3) := by decide +kernel
theorem dM_readFactor_55 : decode bM_readFactor 55 = .ok (.istore_n 2, 1) := by decide +kernel
theorem dM_readFactor_56 : decode bM_readFactor 56 = .ok (.iload_n 1, 1) := by decide +kernel
theorem dM_readFactor_57 : decode bM_readFactor 57 = .ok (.invokestatic 121, 3) := by decide +kernel
theorem dM_readFactor_60 : decode bM_readFactor 60 = .ok (.ifCond .ne 17, 3) := by decide +kernel
theorem dM_readFactor_63 : decode bM_readFactor 63 = .ok (.iload_n 2, 1) := by decide +kernel
theorem dM_readFactor_64 : decode bM_readFactor 64 = .ok (.ifCond .ge 13, 3) := by decide +kernel
theorem dM_readFactor_67 : decode bM_readFactor 67 = .ok (.aload_n 0, 1) := by decide +kernel
theorem dM_readFactor_68 : decode bM_readFactor 68 = .ok (.iconst 1, 1) := by decide +kernel
theorem dM_readFactor_69 : decode bM_readFactor 69 = .ok (.aload_n 0, 1) := by decide +kernel
theorem dM_readFactor_70 : decode bM_readFactor 70 = .ok (.getfield 109, 3) := by decide +kernel
theorem dM_readFactor_73 : decode bM_readFactor 73 = .ok (.invokevirtual 128, 3) := by decide +kernel
theorem dM_readFactor_76 : decode bM_readFactor 76 = .ok (.return_, 1) := by decide +kernel
theorem dM_readFactor_77 : decode bM_readFactor 77 = .ok (.aload_n 0, 1) := by decide +kernel
theorem dM_readFactor_78 : decode bM_readFactor 78 = .ok (.aload_n 0, 1) := by decide +kernel
theorem dM_readFactor_79 : decode bM_readFactor 79 = .ok (.invokevirtual 145, 3) := by decide +kernel
theorem dM_readFactor_82 : decode bM_readFactor 82 = .ok (.invokevirtual 100, 3) := by decide +kernel
theorem dM_readFactor_85 : decode bM_readFactor 85 = .ok (.iload_n 2, 1) := by decide +kernel
theorem dM_readFactor_86 : decode bM_readFactor 86 = .ok (.ifCond .lt 31, 3) := by decide +kernel
theorem dM_readFactor_89 : decode bM_readFactor 89 = .ok (.aload_n 0, 1) := by decide +kernel
theorem dM_readFactor_90 : decode bM_readFactor 90 = .ok (.aload_n 0, 1) := by decide +kernel
theorem dM_readFactor_91 : decode bM_readFactor 91 = .ok (.invokevirtual 145, 3) := by decide +kernel
theorem dM_readFactor_94 : decode bM_readFactor 94 = .ok (.aload_n 0, 1) := by decide +kernel
theorem dM_readFactor_95 : decode bM_readFactor 95 = .ok (.getfield 23, 3) := by decide +kernel
theorem dM_readFactor_98 : decode bM_readFactor 98 = .ok (.iload_n 2, 1) := by decide +kernel
theorem dM_readFactor_99 : decode bM_readFactor 99 = .ok (.iaload, 1) := by decide +kernel
theorem dM_readFactor_100 : decode bM_readFactor 100 = .ok (.iconst 1, 1) := by decide +kernel
theorem dM_readFactor_101 : decode bM_readFactor 101 = .ok (.invokevirtual 85, 3) := by decide +kernel
theorem dM_readFactor_104 : decode bM_readFactor 104 = .ok (.aload_n 0, 1) := by decide +kernel
theorem dM_readFactor_105 : decode bM_readFactor 105 = .ok (.dup, 1) := by decide +kernel
theorem dM_readFactor_106 : decode bM_readFactor 106 = .ok (.getfield 109, 3) := by decide +kernel
theorem dM_readFactor_109 : decode bM_readFactor 109 = .ok (.iconst 1, 1) := by decide +kernel
theorem dM_readFactor_110 : decode bM_readFactor 110 = .ok (.iadd, 1) := by decide +kernel
theorem dM_readFactor_111 : decode bM_readFactor 111 = .ok (.putfield 109, 3) := by decide +kernel
theorem dM_readFactor_114 : decode bM_readFactor 114 = .ok (.goto 22, 3) := by decide +kernel
theorem dM_readFactor_117 : decode bM_readFactor 117 = .ok (.aload_n 0, 1) := by decide +kernel
theorem dM_readFactor_118 : decode bM_readFactor 118 = .ok (.aload_n 0, 1) := by decide +kernel
theorem dM_readFactor_119 : decode bM_readFactor 119 = .ok (.invokevirtual 145, 3) := by decide +kernel
theorem dM_readFactor_122 : decode bM_readFactor 122 = .ok (.iconst 0, 1) := by decide +kernel
theorem dM_readFactor_123 : decode bM_readFactor 123 = .ok (.aload_n 0, 1) := by decide +kernel
theorem dM_readFactor_124 : decode bM_readFactor 124 = .ok (.aload_n 0, 1) := by decide +kernel
theorem dM_readFactor_125 : decode bM_readFactor 125 = .ok (.bipush 9, 2) := by decide +kernel
theorem dM_readFactor_127 : decode bM_readFactor 127 = .ok (.invokevirtual 148, 3) := by decide +kernel
theorem dM_readFactor_130 : decode bM_readFactor 130 = .ok (.invokevirtual 92, 3) := by decide +kernel
theorem dM_readFactor_133 : decode bM_readFactor 133 = .ok (.invokevirtual 85, 3) := by decide +kernel
theorem dM_readFactor_136 : decode bM_readFactor 136 = .ok (.aload_n 0, 1) := by decide +kernel
theorem dM_readFactor_137 : decode bM_readFactor 137 = .ok (.iconst 2, 1) := by decide +kernel
theorem dM_readFactor_138 : decode bM_readFactor 138 = .ok (.putfield 136, 3) := by decide +kernel
theorem dM_readFactor_141 : decode bM_readFactor 141 = .ok (.return_, 1) := by decide +kernel
theorem dM_readPower_0 : decode bM_readPower 0 = .ok (.aload_n 0, 1) := by decide +kernel
theorem dM_readPower_1 : decode bM_readPower 1 = .ok (.iconst 3, 1) := by decide +kernel
theorem dM_readPower_2 : decode bM_readPower 2 = .ok (.putfield 136, 3) := by decide +kernel
theorem dM_readPower_5 : decode bM_readPower 5 = .ok (.iload_n 1, 1) := by decide +kernel
theorem dM_readPower_6 : decode bM_readPower 6 = .ok (.bipush 94, 2) := by decide +kernel
theorem dM_readPower_8 : decode bM_readPower 8 = .ok (.if_icmp .eq 4, 3) := by decide +kernel
theorem dM_readPower_11 : decode bM_readPower 11 = .ok (.return_, 1) := by decide +kernel
theorem dM_readPower_12 : decode bM_readPower 12 = .ok (.aload_n 0, 1) := by decide +kernel
theorem dM_readPower_13 : decode bM_readPower 13 = .ok (.getfield 109, 3) := by decide +kernel
theorem dM_readPower_16 : decode bM_readPower 16 = .ok (.istore_n 2, 1) := by decide +kernel
theorem dM_readPower_17 : decode bM_readPower 17 = .ok (.aload_n 0, 1) := by decide +kernel
theorem dM_readPower_18 : decode bM_readPower 18 = .ok (.dup, 1) := by decide +kernel
theorem dM_readPower_19 : decode bM_readPower 19 = .ok (.getfield 109, 3) := by decide +kernel
theorem dM_readPower_22 : decode bM_readPower 22 = .ok (.iconst 1, 1) := by decide +kernel
theorem dM_readPower_23 : decode bM_readPower 23 = .ok (.iadd, 1) := by decide +kernel
theorem dM_readPower_24 : decode bM_readPower 24 = .ok (.putfield 109, 3) := by decide +kernel
theorem dM_readPower_27 : decode bM_readPower 27 = .ok (.aload_n 0, 1) := by decide +kernel
theorem dM_readPower_28 : decode bM_readPower 28 = .ok (.invokevirtual 152, 3) := by decide +kernel
theorem dM_readPower_31 : decode bM_readPower 31 = .ok (.invokestatic 121, 3) := by decide +kernel
theorem dM_readPower_34 : decode bM_readPower 34 = .ok (.ifCond .ne 13, 3) := by decide +kernel
theorem dM_readPower_37 : decode bM_readPower 37 = .ok (.aload_n 0, 1) := by decide +kernel
theorem dM_readPower_38 : decode bM_readPower 38 = .ok (.iconst 1, 1) := by decide +kernel
theorem dM_readPower_39 : decode bM_readPower 39 = .ok (.aload_n 0, 1) := by decide +kernel
theorem dM_readPower_40 : decode bM_readPower 40 = .ok (.getfield 109, 3) := by decide +kernel
theorem dM_readPower_43 : decode bM_readPower 43 = .ok (.invokevirtual 128, 3) := by decide +kernel
theorem dM_readPower_46 : decode bM_readPower 46 = .ok (.return_, 1) := by decide +kernel
theorem dM_readPower_47 : decode bM_readPower 47 = .ok (.aload_n 0, 1) := by decide +kernel
theorem dM_readPower_48 : decode bM_readPower 48 = .ok (.iconst 2, 1) := by decide +kernel
theorem dM_readPower_49 : decode bM_readPower 49 = .ok (.invokevirtual 148, 3) := by decide +kernel
theorem dM_readPower_52 : decode bM_readPower 52 = .ok (.l2i, 1) := by decide +kernel
theorem dM_readPower_53 : decode bM_readPower 53 = .ok (.istore_n 3, 1) := by decide +kernel
theorem dM_readPower_54 : decode bM_readPower 54 = .ok (.aload_n 0, 1) := by decide +kernel
theorem dM_readPower_55 : decode bM_readPower 55 = .ok (.getfield 115, 3) := by decide +kernel
theorem dM_readPower_58 : decode bM_readPower 58 = .ok (.ifCond .le 4, 3) := by decide +kernel
theorem dM_readPower_61 : decode bM_readPower 61 = .ok (.return_, 1) := by decide +kernel
theorem dM_readPower_62 : decode bM_readPower 62 = .ok (.aload_n 0, 1) := by decide +kernel
theorem dM_readPower_63 : decode bM_readPower 63 = .ok (.aload_n 0, 1) := by decide +kernel
theorem dM_readPower_64 : decode bM_readPower 64 = .ok (.invokevirtual 145, 3) := by decide +kernel
theorem dM_readPower_67 : decode bM_readPower 67 = .ok (.invokevirtual 96, 3) := by decide +kernel
theorem dM_readPower_70 : decode bM_readPower 70 = .ok (.istore 4, 2) := by decide +kernel
theorem dM_readPower_72 : decode bM_readPower 72 = .ok (.iload 4, 2) := by decide +kernel
theorem dM_readPower_74 : decode bM_readPower 74 = .ok (.ifCond .le 21, 3) := by decide +kernel
theorem dM_readPower_77 : decode bM_readPower 77 = .ok (.iload 4, 2) := by decide +kernel
theorem dM_readPower_79 : decode bM_readPower 79 = .ok (.iload_n 3, 1) := by decide +kernel
theorem dM_readPower_80 : decode bM_readPower 80 = .ok (.imul, 1) := by decide +kernel
theorem dM_readPower_81 : decode bM_readPower 81 = .ok (.aload_n 0, 1) := by decide +kernel
theorem dM_readPower_82 : decode bM_readPower 82 = .ok (.getfield 61, 3) := by decide +kernel
theorem dM_readPower_85 : decode bM_readPower 85 = .ok (.if_icmp .le 10, 3) := by decide +kernel
theorem dM_readPower_88 : decode bM_readPower 88 = .ok (.aload_n 0, 1) := by decide +kernel
theorem dM_readPower_89 : decode bM_readPower 89 = .ok (.iconst 3, 1) := by decide +kernel
theorem dM_readPower_90 : decode bM_readPower 90 = .ok (.iload_n 2, 1) := by decide +kernel
theorem dM_readPower_91 : decode bM_readPower 91 = .ok (.invokevirtual 128, 3) := by decide +kernel
theorem dM_readPower_94 : decode bM_readPower 94 = .ok (.return_, 1) := by decide +kernel
theorem dM_readPower_95 : decode bM_readPower 95 = .ok (.aload_n 0, 1) := by decide +kernel
theorem dM_readPower_96 : decode bM_readPower 96 = .ok (.bipush 71, 2) := by decide +kernel
theorem dM_readPower_98 : decode bM_readPower 98 = .ok (.invokevirtual 100, 3) := by decide +kernel
theorem dM_readPower_101 : decode bM_readPower 101 = .ok (.aload_n 0, 1) := by decide +kernel
theorem dM_readPower_102 : decode bM_readPower 102 = .ok (.bipush 71, 2) := by decide +kernel
theorem dM_readPower_104 : decode bM_readPower 104 = .ok (.iconst 0, 1) := by decide +kernel
theorem dM_readPower_105 : decode bM_readPower 105 = .ok (.iconst 1, 1) := by decide +kernel
theorem dM_readPower_106 : decode bM_readPower 106 = .ok (.invokevirtual 85, 3) := by decide +kernel
theorem dM_readPower_109 : decode bM_readPower 109 = .ok (.iconst 0, 1) := by decide +kernel
theorem dM_readPower_110 : decode bM_readPower 110 = .ok (.istore 5, 2) := by decide +kernel
theorem dM_readPower_112 : decode bM_readPower 112 = .ok (.iload 5, 2) := by decide +kernel
theorem dM_readPower_114 : decode bM_readPower 114 = .ok (.iload_n 3, 1) := by decide +kernel
theorem dM_readPower_115 : decode bM_readPower 115 = .ok (.if_icmp .ge 29, 3) := by decide +kernel
theorem dM_readPower_118 : decode bM_readPower 118 = .ok (.aload_n 0, 1) := by decide +kernel
theorem dM_readPower_119 : decode bM_readPower 119 = .ok (.bipush 71, 2) := by decide +kernel
theorem dM_readPower_121 : decode bM_readPower 121 = .ok (.aload_n 0, 1) := by decide +kernel
theorem dM_readPower_122 : decode bM_readPower 122 = .ok (.invokevirtual 145, 3) := by decide +kernel
theorem dM_readPower_125 : decode bM_readPower 125 = .ok (.bipush 72, 2) := by decide +kernel
theorem dM_readPower_127 : decode bM_readPower 127 = .ok (.invokevirtual 155, 3) := by decide +kernel
theorem dM_readPower_130 : decode bM_readPower 130 = .ok (.aload_n 0, 1) := by decide +kernel
theorem dM_readPower_131 : decode bM_readPower 131 = .ok (.bipush 72, 2) := by decide +kernel
theorem dM_readPower_133 : decode bM_readPower 133 = .ok (.bipush 71, 2) := by decide +kernel
theorem dM_readPower_135 : decode bM_readPower 135 = .ok (.invokevirtual 158, 3) := by decide +kernel
theorem dM_readPower_138 : decode bM_readPower 138 = .ok (.iinc 5 1, 3) := by decide +kernel
theorem dM_readPower_141 : decode bM_readPower 141 = .ok (.goto (-29), 3) := by decide +kernel
theorem dM_readPower_144 : decode bM_readPower 144 = .ok (.aload_n 0, 1) := by decide +kernel
theorem dM_readPower_145 : decode bM_readPower 145 = .ok (.bipush 71, 2) := by decide +kernel
theorem dM_readPower_147 : decode bM_readPower 147 = .ok (.aload_n 0, 1) := by decide +kernel
theorem dM_readPower_148 : decode bM_readPower 148 = .ok (.invokevirtual 145, 3) := by decide +kernel
theorem dM_readPower_151 : decode bM_readPower 151 = .ok (.invokevirtual 158, 3) := by decide +kernel
theorem dM_readPower_154 : decode bM_readPower 154 = .ok (.return_, 1) := by decide +kernel
theorem dM_thrown_0 : decode bM_thrown 0 = .ok (.aload_n 0, 1) := by decide +kernel
theorem dM_thrown_1 : decode bM_thrown 1 = .ok (.getfield 52, 3) := by decide +kernel
theorem dM_thrown_4 : decode bM_thrown 4 = .ok (.ireturn, 1) := by decide +kernel
theorem dM_goOn_0 : decode bM_goOn 0 = .ok (.aload_n 0, 1) := by decide +kernel
theorem dM_goOn_1 : decode bM_goOn 1 = .ok (.getfield 42, 3) := by decide +kernel
theorem dM_goOn_4 : decode bM_goOn 4 = .ok (.aload_n 0, 1) := by decide +kernel
theorem dM_goOn_5 : decode bM_goOn 5 = .ok (.getfield 106, 3) := by decide +kernel
theorem dM_goOn_8 : decode bM_goOn 8 = .ok (.iaload, 1) := by decide +kernel
theorem dM_goOn_9 : decode bM_goOn 9 = .ok (.ifCond .lt 60, 3) := by decide +kernel
theorem dM_goOn_12 : decode bM_goOn 12 = .ok (.aload_n 0, 1) := by decide +kernel
theorem dM_goOn_13 : decode bM_goOn 13 = .ok (.aload_n 0, 1) := by decide +kernel
theorem dM_goOn_14 : decode bM_goOn 14 = .ok (.invokevirtual 161, 3) := by decide +kernel
theorem dM_goOn_17 : decode bM_goOn 17 = .ok (.aload_n 0, 1) := by decide +kernel
theorem dM_goOn_18 : decode bM_goOn 18 = .ok (.invokevirtual 145, 3) := by decide +kernel
theorem dM_goOn_21 : decode bM_goOn 21 = .ok (.invokevirtual 164, 3) := by decide +kernel
theorem dM_goOn_24 : decode bM_goOn 24 = .ok (.ifCond .eq 18, 3) := by decide +kernel
theorem dM_goOn_27 : decode bM_goOn 27 = .ok (.aload_n 0, 1) := by decide +kernel
theorem dM_goOn_28 : decode bM_goOn 28 = .ok (.iconst 3, 1) := by decide +kernel
theorem dM_goOn_29 : decode bM_goOn 29 = .ok (.aload_n 0, 1) := by decide +kernel
theorem dM_goOn_30 : decode bM_goOn 30 = .ok (.getfield 42, 3) := by decide +kernel
theorem dM_goOn_33 : decode bM_goOn 33 = .ok (.aload_n 0, 1) := by decide +kernel
theorem dM_goOn_34 : decode bM_goOn 34 = .ok (.getfield 106, 3) := by decide +kernel
theorem dM_goOn_37 : decode bM_goOn 37 = .ok (.iaload, 1) := by decide +kernel
theorem dM_goOn_38 : decode bM_goOn 38 = .ok (.invokevirtual 128, 3) := by decide +kernel
theorem dM_goOn_41 : decode bM_goOn 41 = .ok (.return_, 1) := by decide +kernel
theorem dM_goOn_42 : decode bM_goOn 42 = .ok (.aload_n 0, 1) := by decide +kernel
theorem dM_goOn_43 : decode bM_goOn 43 = .ok (.aload_n 0, 1) := by decide +kernel
theorem dM_goOn_44 : decode bM_goOn 44 = .ok (.invokevirtual 161, 3) := by decide +kernel
theorem dM_goOn_47 : decode bM_goOn 47 = .ok (.aload_n 0, 1) := by decide +kernel
theorem dM_goOn_48 : decode bM_goOn 48 = .ok (.invokevirtual 145, 3) := by decide +kernel
theorem dM_goOn_51 : decode bM_goOn 51 = .ok (.bipush 71, 2) := by decide +kernel
theorem dM_goOn_53 : decode bM_goOn 53 = .ok (.invokevirtual 155, 3) := by decide +kernel
theorem dM_goOn_56 : decode bM_goOn 56 = .ok (.aload_n 0, 1) := by decide +kernel
theorem dM_goOn_57 : decode bM_goOn 57 = .ok (.bipush 71, 2) := by decide +kernel
theorem dM_goOn_59 : decode bM_goOn 59 = .ok (.aload_n 0, 1) := by decide +kernel
theorem dM_goOn_60 : decode bM_goOn 60 = .ok (.invokevirtual 161, 3) := by decide +kernel
theorem dM_goOn_63 : decode bM_goOn 63 = .ok (.invokevirtual 158, 3) := by decide +kernel
theorem dM_goOn_66 : decode bM_goOn 66 = .ok (.goto 15, 3) := by decide +kernel
theorem dM_goOn_69 : decode bM_goOn 69 = .ok (.aload_n 0, 1) := by decide +kernel
theorem dM_goOn_70 : decode bM_goOn 70 = .ok (.aload_n 0, 1) := by decide +kernel
theorem dM_goOn_71 : decode bM_goOn 71 = .ok (.invokevirtual 145, 3) := by decide +kernel
theorem dM_goOn_74 : decode bM_goOn 74 = .ok (.aload_n 0, 1) := by decide +kernel
theorem dM_goOn_75 : decode bM_goOn 75 = .ok (.invokevirtual 161, 3) := by decide +kernel
theorem dM_goOn_78 : decode bM_goOn 78 = .ok (.invokevirtual 158, 3) := by decide +kernel
theorem dM_goOn_81 : decode bM_goOn 81 = .ok (.iload_n 1, 1) := by decide +kernel
theorem dM_goOn_82 : decode bM_goOn 82 = .ok (.bipush 42, 2) := by decide +kernel
theorem dM_goOn_84 : decode bM_goOn 84 = .ok (.if_icmp .ne 32, 3) := by decide +kernel
theorem dM_goOn_87 : decode bM_goOn 87 = .ok (.aload_n 0, 1) := by decide +kernel
theorem dM_goOn_88 : decode bM_goOn 88 = .ok (.getfield 42, 3) := by decide +kernel
theorem dM_goOn_91 : decode bM_goOn 91 = .ok (.aload_n 0, 1) := by decide +kernel
theorem dM_goOn_92 : decode bM_goOn 92 = .ok (.getfield 106, 3) := by decide +kernel
theorem dM_goOn_95 : decode bM_goOn 95 = .ok (.aload_n 0, 1) := by decide +kernel
theorem dM_goOn_96 : decode bM_goOn 96 = .ok (.getfield 109, 3) := by decide +kernel
theorem dM_goOn_99 : decode bM_goOn 99 = .ok (.iastore, 1) := by decide +kernel
theorem dM_goOn_100 : decode bM_goOn 100 = .ok (.aload_n 0, 1) := by decide +kernel
theorem dM_goOn_101 : decode bM_goOn 101 = .ok (.dup, 1) := by decide +kernel
theorem dM_goOn_102 : decode bM_goOn 102 = .ok (.getfield 109, 3) := by decide +kernel
theorem dM_goOn_105 : decode bM_goOn 105 = .ok (.iconst 1, 1) := by decide +kernel
theorem dM_goOn_106 : decode bM_goOn 106 = .ok (.iadd, 1) := by decide +kernel
theorem dM_goOn_107 : decode bM_goOn 107 = .ok (.putfield 109, 3) := by decide +kernel
theorem dM_goOn_110 : decode bM_goOn 110 = .ok (.aload_n 0, 1) := by decide +kernel
theorem dM_goOn_111 : decode bM_goOn 111 = .ok (.iconst 1, 1) := by decide +kernel
theorem dM_goOn_112 : decode bM_goOn 112 = .ok (.putfield 136, 3) := by decide +kernel
theorem dM_goOn_115 : decode bM_goOn 115 = .ok (.return_, 1) := by decide +kernel
theorem dM_goOn_116 : decode bM_goOn 116 = .ok (.iload_n 1, 1) := by decide +kernel
theorem dM_goOn_117 : decode bM_goOn 117 = .ok (.iconst (-1), 1) := by decide +kernel
theorem dM_goOn_118 : decode bM_goOn 118 = .ok (.if_icmp .ne 10, 3) := by decide +kernel
theorem dM_goOn_121 : decode bM_goOn 121 = .ok (.aload_n 0, 1) := by decide +kernel
theorem dM_goOn_122 : decode bM_goOn 122 = .ok (.getfield 106, 3) := by decide +kernel
theorem dM_goOn_125 : decode bM_goOn 125 = .ok (.ifCond .eq 16, 3) := by decide +kernel
theorem dM_goOn_128 : decode bM_goOn 128 = .ok (.iload_n 1, 1) := by decide +kernel
theorem dM_goOn_129 : decode bM_goOn 129 = .ok (.bipush 41, 2) := by decide +kernel
theorem dM_goOn_131 : decode bM_goOn 131 = .ok (.if_icmp .ne 14, 3) := by decide +kernel
theorem dM_goOn_134 : decode bM_goOn 134 = .ok (.aload_n 0, 1) := by decide +kernel
theorem dM_goOn_135 : decode bM_goOn 135 = .ok (.getfield 106, 3) := by decide +kernel
theorem dM_goOn_138 : decode bM_goOn 138 = .ok (.ifCond .le 7, 3) := by decide +kernel
theorem dM_goOn_141 : decode bM_goOn 141 = .ok (.iconst 1, 1) := by decide +kernel
theorem dM_goOn_142 : decode bM_goOn 142 = .ok (.goto 4, 3) := by decide +kernel
theorem dM_goOn_145 : decode bM_goOn 145 = .ok (.iconst 0, 1) := by decide +kernel
theorem dM_goOn_146 : decode bM_goOn 146 = .ok (.istore_n 2, 1) := by decide +kernel
theorem dM_goOn_147 : decode bM_goOn 147 = .ok (.iload_n 2, 1) := by decide +kernel
theorem dM_goOn_148 : decode bM_goOn 148 = .ok (.ifCond .ne 25, 3) := by decide +kernel
theorem dM_goOn_151 : decode bM_goOn 151 = .ok (.iload_n 1, 1) := by decide +kernel
theorem dM_goOn_152 : decode bM_goOn 152 = .ok (.bipush 43, 2) := by decide +kernel
theorem dM_goOn_154 : decode bM_goOn 154 = .ok (.if_icmp .eq 19, 3) := by decide +kernel
theorem dM_goOn_157 : decode bM_goOn 157 = .ok (.iload_n 1, 1) := by decide +kernel
theorem dM_goOn_158 : decode bM_goOn 158 = .ok (.bipush 45, 2) := by decide +kernel
theorem dM_goOn_160 : decode bM_goOn 160 = .ok (.if_icmp .eq 13, 3) := by decide +kernel
theorem dM_goOn_163 : decode bM_goOn 163 = .ok (.aload_n 0, 1) := by decide +kernel
theorem dM_goOn_164 : decode bM_goOn 164 = .ok (.iconst 1, 1) := by decide +kernel
theorem dM_goOn_165 : decode bM_goOn 165 = .ok (.aload_n 0, 1) := by decide +kernel
theorem dM_goOn_166 : decode bM_goOn 166 = .ok (.getfield 109, 3) := by decide +kernel
theorem dM_goOn_169 : decode bM_goOn 169 = .ok (.invokevirtual 128, 3) := by decide +kernel
theorem dM_goOn_172 : decode bM_goOn 172 = .ok (.return_, 1) := by decide +kernel
theorem dM_goOn_173 : decode bM_goOn 173 = .ok (.aload_n 0, 1) := by decide +kernel
theorem dM_goOn_174 : decode bM_goOn 174 = .ok (.aload_n 0, 1) := by decide +kernel
theorem dM_goOn_175 : decode bM_goOn 175 = .ok (.invokevirtual 161, 3) := by decide +kernel
theorem dM_goOn_178 : decode bM_goOn 178 = .ok (.aload_n 0, 1) := by decide +kernel
theorem dM_goOn_179 : decode bM_goOn 179 = .ok (.getfield 39, 3) := by decide +kernel
theorem dM_goOn_182 : decode bM_goOn 182 = .ok (.aload_n 0, 1) := by decide +kernel
theorem dM_goOn_183 : decode bM_goOn 183 = .ok (.getfield 106, 3) := by decide +kernel
theorem dM_goOn_186 : decode bM_goOn 186 = .ok (.iaload, 1) := by decide +kernel
theorem dM_goOn_187 : decode bM_goOn 187 = .ok (.ifCond .le 7, 3) := by decide +kernel
theorem dM_goOn_190 : decode bM_goOn 190 = .ok (.iconst 1, 1) := by decide +kernel
theorem dM_goOn_191 : decode bM_goOn 191 = .ok (.goto 9, 3) := by decide +kernel
theorem dM_goOn_194 : decode bM_goOn 194 = .ok (.aload_n 0, 1) := by decide +kernel
theorem dM_goOn_195 : decode bM_goOn 195 = .ok (.getfield 7, 3) := by decide +kernel
theorem dM_goOn_198 : decode bM_goOn 198 = .ok (.iconst 1, 1) := by decide +kernel
theorem dM_goOn_199 : decode bM_goOn 199 = .ok (.isub, 1) := by decide +kernel
theorem dM_goOn_200 : decode bM_goOn 200 = .ok (.aload_n 0, 1) := by decide +kernel
theorem dM_goOn_201 : decode bM_goOn 201 = .ok (.invokevirtual 132, 3) := by decide +kernel
theorem dM_goOn_204 : decode bM_goOn 204 = .ok (.invokevirtual 167, 3) := by decide +kernel
theorem dM_goOn_207 : decode bM_goOn 207 = .ok (.aload_n 0, 1) := by decide +kernel
theorem dM_goOn_208 : decode bM_goOn 208 = .ok (.getfield 42, 3) := by decide +kernel
theorem dM_goOn_211 : decode bM_goOn 211 = .ok (.aload_n 0, 1) := by decide +kernel
theorem dM_goOn_212 : decode bM_goOn 212 = .ok (.getfield 106, 3) := by decide +kernel
theorem dM_goOn_215 : decode bM_goOn 215 = .ok (.iconst (-1), 1) := by decide +kernel
theorem dM_goOn_216 : decode bM_goOn 216 = .ok (.iastore, 1) := by decide +kernel
theorem dM_goOn_217 : decode bM_goOn 217 = .ok (.aload_n 0, 1) := by decide +kernel
theorem dM_goOn_218 : decode bM_goOn 218 = .ok (.getfield 39, 3) := by decide +kernel
theorem dM_goOn_221 : decode bM_goOn 221 = .ok (.aload_n 0, 1) := by decide +kernel
theorem dM_goOn_222 : decode bM_goOn 222 = .ok (.getfield 106, 3) := by decide +kernel
theorem dM_goOn_225 : decode bM_goOn 225 = .ok (.iload_n 1, 1) := by decide +kernel
theorem dM_goOn_226 : decode bM_goOn 226 = .ok (.bipush 45, 2) := by decide +kernel
theorem dM_goOn_228 : decode bM_goOn 228 = .ok (.if_icmp .ne 7, 3) := by decide +kernel
theorem dM_goOn_231 : decode bM_goOn 231 = .ok (.iconst (-1), 1) := by decide +kernel
theorem dM_goOn_232 : decode bM_goOn 232 = .ok (.goto 4, 3) := by decide +kernel
theorem dM_goOn_235 : decode bM_goOn 235 = .ok (.iconst 1, 1) := by decide +kernel
theorem dM_goOn_236 : decode bM_goOn 236 = .ok (.iastore, 1) := by decide +kernel
theorem dM_goOn_237 : decode bM_goOn 237 = .ok (.aload_n 0, 1) := by decide +kernel
theorem dM_goOn_238 : decode bM_goOn 238 = .ok (.iconst 1, 1) := by decide +kernel
theorem dM_goOn_239 : decode bM_goOn 239 = .ok (.putfield 136, 3) := by decide +kernel
theorem dM_goOn_242 : decode bM_goOn 242 = .ok (.iload_n 1, 1) := by decide +kernel
theorem dM_goOn_243 : decode bM_goOn 243 = .ok (.iconst (-1), 1) := by decide +kernel
theorem dM_goOn_244 : decode bM_goOn 244 = .ok (.if_icmp .eq 13, 3) := by decide +kernel
theorem dM_goOn_247 : decode bM_goOn 247 = .ok (.aload_n 0, 1) := by decide +kernel
theorem dM_goOn_248 : decode bM_goOn 248 = .ok (.dup, 1) := by decide +kernel
theorem dM_goOn_249 : decode bM_goOn 249 = .ok (.getfield 109, 3) := by decide +kernel
theorem dM_goOn_252 : decode bM_goOn 252 = .ok (.iconst 1, 1) := by decide +kernel
theorem dM_goOn_253 : decode bM_goOn 253 = .ok (.iadd, 1) := by decide +kernel
theorem dM_goOn_254 : decode bM_goOn 254 = .ok (.putfield 109, 3) := by decide +kernel
theorem dM_goOn_257 : decode bM_goOn 257 = .ok (.iload_n 1, 1) := by decide +kernel
theorem dM_goOn_258 : decode bM_goOn 258 = .ok (.bipush 41, 2) := by decide +kernel
theorem dM_goOn_260 : decode bM_goOn 260 = .ok (.if_icmp .eq 4, 3) := by decide +kernel
theorem dM_goOn_263 : decode bM_goOn 263 = .ok (.return_, 1) := by decide +kernel
theorem dM_goOn_264 : decode bM_goOn 264 = .ok (.aload_n 0, 1) := by decide +kernel
theorem dM_goOn_265 : decode bM_goOn 265 = .ok (.invokevirtual 132, 3) := by decide +kernel
theorem dM_goOn_268 : decode bM_goOn 268 = .ok (.istore_n 3, 1) := by decide +kernel
theorem dM_goOn_269 : decode bM_goOn 269 = .ok (.aload_n 0, 1) := by decide +kernel
theorem dM_goOn_270 : decode bM_goOn 270 = .ok (.dup, 1) := by decide +kernel
theorem dM_goOn_271 : decode bM_goOn 271 = .ok (.getfield 106, 3) := by decide +kernel
theorem dM_goOn_274 : decode bM_goOn 274 = .ok (.iconst 1, 1) := by decide +kernel
theorem dM_goOn_275 : decode bM_goOn 275 = .ok (.isub, 1) := by decide +kernel
theorem dM_goOn_276 : decode bM_goOn 276 = .ok (.putfield 106, 3) := by decide +kernel
theorem dM_goOn_279 : decode bM_goOn 279 = .ok (.aload_n 0, 1) := by decide +kernel
theorem dM_goOn_280 : decode bM_goOn 280 = .ok (.iload_n 3, 1) := by decide +kernel
theorem dM_goOn_281 : decode bM_goOn 281 = .ok (.aload_n 0, 1) := by decide +kernel
theorem dM_goOn_282 : decode bM_goOn 282 = .ok (.invokevirtual 145, 3) := by decide +kernel
theorem dM_goOn_285 : decode bM_goOn 285 = .ok (.invokevirtual 158, 3) := by decide +kernel
theorem dM_goOn_288 : decode bM_goOn 288 = .ok (.aload_n 0, 1) := by decide +kernel
theorem dM_goOn_289 : decode bM_goOn 289 = .ok (.iconst 2, 1) := by decide +kernel
theorem dM_goOn_290 : decode bM_goOn 290 = .ok (.putfield 136, 3) := by decide +kernel
theorem dM_goOn_293 : decode bM_goOn 293 = .ok (.return_, 1) := by decide +kernel
theorem dM_read_0 : decode bM_read 0 = .ok (.aload_n 0, 1) := by decide +kernel
theorem dM_read_1 : decode bM_read 1 = .ok (.iload_n 1, 1) := by decide +kernel
theorem dM_read_2 : decode bM_read 2 = .ok (.invokestatic 170, 3) := by decide +kernel
theorem dM_read_5 : decode bM_read 5 = .ok (.ifCond .eq 7, 3) := by decide +kernel
theorem dM_read_8 : decode bM_read 8 = .ok (.iconst 0, 1) := by decide +kernel
theorem dM_read_9 : decode bM_read 9 = .ok (.goto 4, 3) := by decide +kernel
theorem dM_read_12 : decode bM_read 12 = .ok (.iconst 1, 1) := by decide +kernel
theorem dM_read_13 : decode bM_read 13 = .ok (.putfield 52, 3) := by decide +kernel
theorem dM_read_16 : decode bM_read 16 = .ok (.aload_n 0, 1) := by decide +kernel
theorem dM_read_17 : decode bM_read 17 = .ok (.getfield 52, 3) := by decide +kernel
theorem dM_read_20 : decode bM_read 20 = .ok (.ifCond .le 5, 3) := by decide +kernel
theorem dM_read_23 : decode bM_read 23 = .ok (.iconst 0, 1) := by decide +kernel
theorem dM_read_24 : decode bM_read 24 = .ok (.ireturn, 1) := by decide +kernel
theorem dM_read_25 : decode bM_read 25 = .ok (.aload_n 0, 1) := by decide +kernel
theorem dM_read_26 : decode bM_read 26 = .ok (.aload_n 0, 1) := by decide +kernel
theorem dM_read_27 : decode bM_read 27 = .ok (.getfield 103, 3) := by decide +kernel
theorem dM_read_30 : decode bM_read 30 = .ok (.putfield 112, 3) := by decide +kernel
theorem dM_read_33 : decode bM_read 33 = .ok (.iconst 0, 1) := by decide +kernel
theorem dM_read_34 : decode bM_read 34 = .ok (.istore_n 2, 1) := by decide +kernel
theorem dM_read_35 : decode bM_read 35 = .ok (.iload_n 2, 1) := by decide +kernel
theorem dM_read_36 : decode bM_read 36 = .ok (.aload_n 0, 1) := by decide +kernel
theorem dM_read_37 : decode bM_read 37 = .ok (.getfield 112, 3) := by decide +kernel
theorem dM_read_40 : decode bM_read 40 = .ok (.if_icmp .ge 21, 3) := by decide +kernel
theorem dM_read_43 : decode bM_read 43 = .ok (.aload_n 0, 1) := by decide +kernel
theorem dM_read_44 : decode bM_read 44 = .ok (.getfield 36, 3) := by decide +kernel
theorem dM_read_47 : decode bM_read 47 = .ok (.iload_n 2, 1) := by decide +kernel
theorem dM_read_48 : decode bM_read 48 = .ok (.aload_n 0, 1) := by decide +kernel
theorem dM_read_49 : decode bM_read 49 = .ok (.getfield 30, 3) := by decide +kernel
theorem dM_read_52 : decode bM_read 52 = .ok (.iload_n 2, 1) := by decide +kernel
theorem dM_read_53 : decode bM_read 53 = .ok (.iaload, 1) := by decide +kernel
theorem dM_read_54 : decode bM_read 54 = .ok (.iastore, 1) := by decide +kernel
theorem dM_read_55 : decode bM_read 55 = .ok (.iinc 2 1, 3) := by decide +kernel
theorem dM_read_58 : decode bM_read 58 = .ok (.goto (-23), 3) := by decide +kernel
theorem dM_read_61 : decode bM_read 61 = .ok (.aload_n 0, 1) := by decide +kernel
theorem dM_read_62 : decode bM_read 62 = .ok (.iconst 0, 1) := by decide +kernel
theorem dM_read_63 : decode bM_read 63 = .ok (.putfield 103, 3) := by decide +kernel
theorem dM_read_66 : decode bM_read 66 = .ok (.aload_n 0, 1) := by decide +kernel
theorem dM_read_67 : decode bM_read 67 = .ok (.iconst 0, 1) := by decide +kernel
theorem dM_read_68 : decode bM_read 68 = .ok (.putfield 109, 3) := by decide +kernel
theorem dM_read_71 : decode bM_read 71 = .ok (.aload_n 0, 1) := by decide +kernel
theorem dM_read_72 : decode bM_read 72 = .ok (.iconst 0, 1) := by decide +kernel
theorem dM_read_73 : decode bM_read 73 = .ok (.putfield 106, 3) := by decide +kernel
theorem dM_read_76 : decode bM_read 76 = .ok (.aload_n 0, 1) := by decide +kernel
theorem dM_read_77 : decode bM_read 77 = .ok (.iconst 0, 1) := by decide +kernel
theorem dM_read_78 : decode bM_read 78 = .ok (.putfield 115, 3) := by decide +kernel
theorem dM_read_81 : decode bM_read 81 = .ok (.aload_n 0, 1) := by decide +kernel
theorem dM_read_82 : decode bM_read 82 = .ok (.iconst (-1), 1) := by decide +kernel
theorem dM_read_83 : decode bM_read 83 = .ok (.putfield 118, 3) := by decide +kernel
theorem dM_read_86 : decode bM_read 86 = .ok (.aload_n 0, 1) := by decide +kernel
theorem dM_read_87 : decode bM_read 87 = .ok (.invokevirtual 139, 3) := by decide +kernel
theorem dM_read_90 : decode bM_read 90 = .ok (.iconst 1, 1) := by decide +kernel
theorem dM_read_91 : decode bM_read 91 = .ok (.istore_n 2, 1) := by decide +kernel
theorem dM_read_92 : decode bM_read 92 = .ok (.iload_n 2, 1) := by decide +kernel
theorem dM_read_93 : decode bM_read 93 = .ok (.ifCond .eq 117, 3) := by decide +kernel
theorem dM_read_96 : decode bM_read 96 = .ok (.aload_n 0, 1) := by decide +kernel
theorem dM_read_97 : decode bM_read 97 = .ok (.invokevirtual 152, 3) := by decide +kernel
theorem dM_read_100 : decode bM_read 100 = .ok (.istore_n 3, 1) := by decide +kernel
theorem dM_read_101 : decode bM_read 101 = .ok (.aload_n 0, 1) := by decide +kernel
theorem dM_read_102 : decode bM_read 102 = .ok (.getfield 136, 3) := by decide +kernel
theorem dM_read_105 : decode bM_read 105 = .ok (.ifCond .ne 37, 3) := by decide +kernel
theorem dM_read_108 : decode bM_read 108 = .ok (.iload_n 3, 1) := by decide +kernel
theorem dM_read_109 : decode bM_read 109 = .ok (.bipush 45, 2) := by decide +kernel
theorem dM_read_111 : decode bM_read 111 = .ok (.if_icmp .ne 23, 3) := by decide +kernel
theorem dM_read_114 : decode bM_read 114 = .ok (.aload_n 0, 1) := by decide +kernel
theorem dM_read_115 : decode bM_read 115 = .ok (.getfield 39, 3) := by decide +kernel
theorem dM_read_118 : decode bM_read 118 = .ok (.aload_n 0, 1) := by decide +kernel
theorem dM_read_119 : decode bM_read 119 = .ok (.getfield 106, 3) := by decide +kernel
theorem dM_read_122 : decode bM_read 122 = .ok (.iconst (-1), 1) := by decide +kernel
theorem dM_read_123 : decode bM_read 123 = .ok (.iastore, 1) := by decide +kernel
theorem dM_read_124 : decode bM_read 124 = .ok (.aload_n 0, 1) := by decide +kernel
theorem dM_read_125 : decode bM_read 125 = .ok (.dup, 1) := by decide +kernel
theorem dM_read_126 : decode bM_read 126 = .ok (.getfield 109, 3) := by decide +kernel
theorem dM_read_129 : decode bM_read 129 = .ok (.iconst 1, 1) := by decide +kernel
theorem dM_read_130 : decode bM_read 130 = .ok (.iadd, 1) := by decide +kernel
theorem dM_read_131 : decode bM_read 131 = .ok (.putfield 109, 3) := by decide +kernel
theorem dM_read_134 : decode bM_read 134 = .ok (.aload_n 0, 1) := by decide +kernel
theorem dM_read_135 : decode bM_read 135 = .ok (.iconst 1, 1) := by decide +kernel
theorem dM_read_136 : decode bM_read 136 = .ok (.putfield 136, 3) := by decide +kernel
theorem dM_read_139 : decode bM_read 139 = .ok (.goto 51, 3) := by decide +kernel
theorem dM_read_142 : decode bM_read 142 = .ok (.aload_n 0, 1) := by decide +kernel
theorem dM_read_143 : decode bM_read 143 = .ok (.getfield 136, 3) := by decide +kernel
theorem dM_read_146 : decode bM_read 146 = .ok (.iconst 1, 1) := by decide +kernel
theorem dM_read_147 : decode bM_read 147 = .ok (.if_icmp .ne 11, 3) := by decide +kernel
theorem dM_read_150 : decode bM_read 150 = .ok (.aload_n 0, 1) := by decide +kernel
theorem dM_read_151 : decode bM_read 151 = .ok (.iload_n 3, 1) := by decide +kernel
theorem dM_read_152 : decode bM_read 152 = .ok (.invokevirtual 173, 3) := by decide +kernel
theorem dM_read_155 : decode bM_read 155 = .ok (.goto 35, 3) := by decide +kernel
theorem dM_read_158 : decode bM_read 158 = .ok (.aload_n 0, 1) := by decide +kernel
theorem dM_read_159 : decode bM_read 159 = .ok (.getfield 136, 3) := by decide +kernel
theorem dM_read_162 : decode bM_read 162 = .ok (.iconst 2, 1) := by decide +kernel
theorem dM_read_163 : decode bM_read 163 = .ok (.if_icmp .ne 11, 3) := by decide +kernel
theorem dM_read_166 : decode bM_read 166 = .ok (.aload_n 0, 1) := by decide +kernel
theorem dM_read_167 : decode bM_read 167 = .ok (.iload_n 3, 1) := by decide +kernel
theorem dM_read_168 : decode bM_read 168 = .ok (.invokevirtual 176, 3) := by decide +kernel
theorem dM_read_171 : decode bM_read 171 = .ok (.goto 19, 3) := by decide +kernel
theorem dM_read_174 : decode bM_read 174 = .ok (.aload_n 0, 1) := by decide +kernel
theorem dM_read_175 : decode bM_read 175 = .ok (.iload_n 3, 1) := by decide +kernel
theorem dM_read_176 : decode bM_read 176 = .ok (.invokevirtual 179, 3) := by decide +kernel
theorem dM_read_179 : decode bM_read 179 = .ok (.iload_n 3, 1) := by decide +kernel
theorem dM_read_180 : decode bM_read 180 = .ok (.iconst (-1), 1) := by decide +kernel
theorem dM_read_181 : decode bM_read 181 = .ok (.if_icmp .eq 7, 3) := by decide +kernel
theorem dM_read_184 : decode bM_read 184 = .ok (.iconst 1, 1) := by decide +kernel
theorem dM_read_185 : decode bM_read 185 = .ok (.goto 4, 3) := by decide +kernel
theorem dM_read_188 : decode bM_read 188 = .ok (.iconst 0, 1) := by decide +kernel
theorem dM_read_189 : decode bM_read 189 = .ok (.istore_n 2, 1) := by decide +kernel
theorem dM_read_190 : decode bM_read 190 = .ok (.iload_n 2, 1) := by decide +kernel
theorem dM_read_191 : decode bM_read 191 = .ok (.ifCond .eq 14, 3) := by decide +kernel
theorem dM_read_194 : decode bM_read 194 = .ok (.aload_n 0, 1) := by decide +kernel
theorem dM_read_195 : decode bM_read 195 = .ok (.getfield 115, 3) := by decide +kernel
theorem dM_read_198 : decode bM_read 198 = .ok (.ifCond .ne 7, 3) := by decide +kernel
theorem dM_read_201 : decode bM_read 201 = .ok (.iconst 1, 1) := by decide +kernel
theorem dM_read_202 : decode bM_read 202 = .ok (.goto 4, 3) := by decide +kernel
theorem dM_read_205 : decode bM_read 205 = .ok (.iconst 0, 1) := by decide +kernel
theorem dM_read_206 : decode bM_read 206 = .ok (.istore_n 2, 1) := by decide +kernel
theorem dM_read_207 : decode bM_read 207 = .ok (.goto (-115), 3) := by decide +kernel
theorem dM_read_210 : decode bM_read 210 = .ok (.aload_n 0, 1) := by decide +kernel
theorem dM_read_211 : decode bM_read 211 = .ok (.aload_n 0, 1) := by decide +kernel
theorem dM_read_212 : decode bM_read 212 = .ok (.getfield 115, 3) := by decide +kernel
theorem dM_read_215 : decode bM_read 215 = .ok (.putfield 182, 3) := by decide +kernel
theorem dM_read_218 : decode bM_read 218 = .ok (.aload_n 0, 1) := by decide +kernel
theorem dM_read_219 : decode bM_read 219 = .ok (.aload_n 0, 1) := by decide +kernel
theorem dM_read_220 : decode bM_read 220 = .ok (.getfield 118, 3) := by decide +kernel
theorem dM_read_223 : decode bM_read 223 = .ok (.putfield 33, 3) := by decide +kernel
theorem dM_read_226 : decode bM_read 226 = .ok (.aload_n 0, 1) := by decide +kernel
theorem dM_read_227 : decode bM_read 227 = .ok (.aload_n 0, 1) := by decide +kernel
theorem dM_read_228 : decode bM_read 228 = .ok (.getfield 115, 3) := by decide +kernel
theorem dM_read_231 : decode bM_read 231 = .ok (.ifCond .le 7, 3) := by decide +kernel
theorem dM_read_234 : decode bM_read 234 = .ok (.iconst 2, 1) := by decide +kernel
theorem dM_read_235 : decode bM_read 235 = .ok (.goto 4, 3) := by decide +kernel
theorem dM_read_238 : decode bM_read 238 = .ok (.iconst 0, 1) := by decide +kernel
theorem dM_read_239 : decode bM_read 239 = .ok (.putfield 52, 3) := by decide +kernel
theorem dM_read_242 : decode bM_read 242 = .ok (.aload_n 0, 1) := by decide +kernel
theorem dM_read_243 : decode bM_read 243 = .ok (.getfield 52, 3) := by decide +kernel
theorem dM_read_246 : decode bM_read 246 = .ok (.ifCond .le 5, 3) := by decide +kernel
theorem dM_read_249 : decode bM_read 249 = .ok (.iconst 0, 1) := by decide +kernel
theorem dM_read_250 : decode bM_read 250 = .ok (.ireturn, 1) := by decide +kernel
theorem dM_read_251 : decode bM_read 251 = .ok (.aload_n 0, 1) := by decide +kernel
theorem dM_read_252 : decode bM_read 252 = .ok (.aload_n 0, 1) := by decide +kernel
theorem dM_read_253 : decode bM_read 253 = .ok (.invokevirtual 132, 3) := by decide +kernel
theorem dM_read_256 : decode bM_read 256 = .ok (.iload_n 1, 1) := by decide +kernel
theorem dM_read_257 : decode bM_read 257 = .ok (.invokevirtual 158, 3) := by decide +kernel
theorem dM_read_260 : decode bM_read 260 = .ok (.aload_n 0, 1) := by decide +kernel
theorem dM_read_261 : decode bM_read 261 = .ok (.iload_n 1, 1) := by decide +kernel
theorem dM_read_262 : decode bM_read 262 = .ok (.invokevirtual 185, 3) := by decide +kernel
theorem dM_read_265 : decode bM_read 265 = .ok (.ireturn, 1) := by decide +kernel
theorem dM_fault_0 : decode bM_fault 0 = .ok (.aload_n 0, 1) := by decide +kernel
theorem dM_fault_1 : decode bM_fault 1 = .ok (.iconst 0, 1) := by decide +kernel
theorem dM_fault_2 : decode bM_fault 2 = .ok (.putfield 52, 3) := by decide +kernel
theorem dM_fault_5 : decode bM_fault 5 = .ok (.iload_n 1, 1) := by decide +kernel
theorem dM_fault_6 : decode bM_fault 6 = .ok (.ifCond .ne 10, 3) := by decide +kernel
theorem dM_fault_9 : decode bM_fault 9 = .ok (.aload_n 0, 1) := by decide +kernel
theorem dM_fault_10 : decode bM_fault 10 = .ok (.getfield 182, 3) := by decide +kernel
theorem dM_fault_13 : decode bM_fault 13 = .ok (.goto 16, 3) := by decide +kernel
theorem dM_fault_16 : decode bM_fault 16 = .ok (.iload_n 1, 1) := by decide +kernel
theorem dM_fault_17 : decode bM_fault 17 = .ok (.iconst 1, 1) := by decide +kernel
theorem dM_fault_18 : decode bM_fault 18 = .ok (.if_icmp .ne 10, 3) := by decide +kernel
theorem dM_fault_21 : decode bM_fault 21 = .ok (.aload_n 0, 1) := by decide +kernel
theorem dM_fault_22 : decode bM_fault 22 = .ok (.getfield 33, 3) := by decide +kernel
theorem dM_fault_25 : decode bM_fault 25 = .ok (.goto 4, 3) := by decide +kernel
theorem dM_fault_28 : decode bM_fault 28 = .ok (.iconst (-1), 1) := by decide +kernel
theorem dM_fault_29 : decode bM_fault 29 = .ok (.ireturn, 1) := by decide +kernel
theorem dM_isPolynomial_0 : decode bM_isPolynomial 0 = .ok (.iload_n 0, 1) := by decide +kernel
theorem dM_isPolynomial_1 : decode bM_isPolynomial 1 = .ok (.ifCond .lt 13, 3) := by decide +kernel
theorem dM_isPolynomial_4 : decode bM_isPolynomial 4 = .ok (.iload_n 0, 1) := by decide +kernel
theorem dM_isPolynomial_5 : decode bM_isPolynomial 5 = .ok (.bipush 8, 2) := by decide +kernel
theorem dM_isPolynomial_7 : decode bM_isPolynomial 7 = .ok (.if_icmp .ge 7, 3) := by decide +kernel
theorem dM_isPolynomial_10 : decode bM_isPolynomial 10 = .ok (.iconst 1, 1) := by decide +kernel
theorem dM_isPolynomial_11 : decode bM_isPolynomial 11 = .ok (.goto 4, 3) := by decide +kernel
theorem dM_isPolynomial_14 : decode bM_isPolynomial 14 = .ok (.iconst 0, 1) := by decide +kernel
theorem dM_isPolynomial_15 : decode bM_isPolynomial 15 = .ok (.ireturn, 1) := by decide +kernel
theorem dM_lacks_0 : decode bM_lacks 0 = .ok (.aload_n 0, 1) := by decide +kernel
theorem dM_lacks_1 : decode bM_lacks 1 = .ok (.iload_n 1, 1) := by decide +kernel
theorem dM_lacks_2 : decode bM_lacks 2 = .ok (.invokestatic 170, 3) := by decide +kernel
theorem dM_lacks_5 : decode bM_lacks 5 = .ok (.ifCond .eq 18, 3) := by decide +kernel
theorem dM_lacks_8 : decode bM_lacks 8 = .ok (.iload_n 2, 1) := by decide +kernel
theorem dM_lacks_9 : decode bM_lacks 9 = .ok (.invokestatic 170, 3) := by decide +kernel
theorem dM_lacks_12 : decode bM_lacks 12 = .ok (.ifCond .eq 11, 3) := by decide +kernel
theorem dM_lacks_15 : decode bM_lacks 15 = .ok (.iload_n 3, 1) := by decide +kernel
theorem dM_lacks_16 : decode bM_lacks 16 = .ok (.ifCond .ne 7, 3) := by decide +kernel
theorem dM_lacks_19 : decode bM_lacks 19 = .ok (.iconst 0, 1) := by decide +kernel
theorem dM_lacks_20 : decode bM_lacks 20 = .ok (.goto 4, 3) := by decide +kernel
theorem dM_lacks_23 : decode bM_lacks 23 = .ok (.iconst 1, 1) := by decide +kernel
theorem dM_lacks_24 : decode bM_lacks 24 = .ok (.putfield 52, 3) := by decide +kernel
theorem dM_lacks_27 : decode bM_lacks 27 = .ok (.aload_n 0, 1) := by decide +kernel
theorem dM_lacks_28 : decode bM_lacks 28 = .ok (.getfield 52, 3) := by decide +kernel
theorem dM_lacks_31 : decode bM_lacks 31 = .ok (.ifCond .le 7, 3) := by decide +kernel
theorem dM_lacks_34 : decode bM_lacks 34 = .ok (.iconst 1, 1) := by decide +kernel
theorem dM_lacks_35 : decode bM_lacks 35 = .ok (.goto 4, 3) := by decide +kernel
theorem dM_lacks_38 : decode bM_lacks 38 = .ok (.iconst 0, 1) := by decide +kernel
theorem dM_lacks_39 : decode bM_lacks 39 = .ok (.ireturn, 1) := by decide +kernel
theorem dM_add_0 : decode bM_add 0 = .ok (.aload_n 0, 1) := by decide +kernel
theorem dM_add_1 : decode bM_add 1 = .ok (.iload_n 1, 1) := by decide +kernel
theorem dM_add_2 : decode bM_add 2 = .ok (.iload_n 3, 1) := by decide +kernel
theorem dM_add_3 : decode bM_add 3 = .ok (.iload 4, 2) := by decide +kernel
theorem dM_add_5 : decode bM_add 5 = .ok (.invokestatic 170, 3) := by decide +kernel
theorem dM_add_8 : decode bM_add 8 = .ok (.ifCond .ne 7, 3) := by decide +kernel
theorem dM_add_11 : decode bM_add 11 = .ok (.iconst 1, 1) := by decide +kernel
theorem dM_add_12 : decode bM_add 12 = .ok (.goto 4, 3) := by decide +kernel
theorem dM_add_15 : decode bM_add 15 = .ok (.iconst 0, 1) := by decide +kernel
theorem dM_add_16 : decode bM_add 16 = .ok (.invokevirtual 188, 3) := by decide +kernel
theorem dM_add_19 : decode bM_add 19 = .ok (.ifCond .eq 4, 3) := by decide +kernel
theorem dM_add_22 : decode bM_add 22 = .ok (.return_, 1) := by decide +kernel
theorem dM_add_23 : decode bM_add 23 = .ok (.aload_n 0, 1) := by decide +kernel
theorem dM_add_24 : decode bM_add 24 = .ok (.iload_n 1, 1) := by decide +kernel
theorem dM_add_25 : decode bM_add 25 = .ok (.bipush 71, 2) := by decide +kernel
theorem dM_add_27 : decode bM_add 27 = .ok (.invokevirtual 158, 3) := by decide +kernel
theorem dM_add_30 : decode bM_add 30 = .ok (.aload_n 0, 1) := by decide +kernel
theorem dM_add_31 : decode bM_add 31 = .ok (.iload_n 3, 1) := by decide +kernel
theorem dM_add_32 : decode bM_add 32 = .ok (.aload_n 0, 1) := by decide +kernel
theorem dM_add_33 : decode bM_add 33 = .ok (.iload_n 2, 1) := by decide +kernel
theorem dM_add_34 : decode bM_add 34 = .ok (.i2l, 1) := by decide +kernel
theorem dM_add_35 : decode bM_add 35 = .ok (.invokevirtual 92, 3) := by decide +kernel
theorem dM_add_38 : decode bM_add 38 = .ok (.bipush 71, 2) := by decide +kernel
theorem dM_add_40 : decode bM_add 40 = .ok (.invokevirtual 167, 3) := by decide +kernel
theorem dM_add_43 : decode bM_add 43 = .ok (.aload_n 0, 1) := by decide +kernel
theorem dM_add_44 : decode bM_add 44 = .ok (.bipush 71, 2) := by decide +kernel
theorem dM_add_46 : decode bM_add 46 = .ok (.iload 4, 2) := by decide +kernel
theorem dM_add_48 : decode bM_add 48 = .ok (.invokevirtual 158, 3) := by decide +kernel
theorem dM_add_51 : decode bM_add 51 = .ok (.return_, 1) := by decide +kernel
theorem dM_multiply_0 : decode bM_multiply 0 = .ok (.aload_n 0, 1) := by decide +kernel
theorem dM_multiply_1 : decode bM_multiply 1 = .ok (.iload_n 1, 1) := by decide +kernel
theorem dM_multiply_2 : decode bM_multiply 2 = .ok (.iload_n 2, 1) := by decide +kernel
theorem dM_multiply_3 : decode bM_multiply 3 = .ok (.iload_n 3, 1) := by decide +kernel
theorem dM_multiply_4 : decode bM_multiply 4 = .ok (.invokestatic 170, 3) := by decide +kernel
theorem dM_multiply_7 : decode bM_multiply 7 = .ok (.ifCond .ne 7, 3) := by decide +kernel
theorem dM_multiply_10 : decode bM_multiply 10 = .ok (.iconst 1, 1) := by decide +kernel
theorem dM_multiply_11 : decode bM_multiply 11 = .ok (.goto 4, 3) := by decide +kernel
theorem dM_multiply_14 : decode bM_multiply 14 = .ok (.iconst 0, 1) := by decide +kernel
theorem dM_multiply_15 : decode bM_multiply 15 = .ok (.invokevirtual 188, 3) := by decide +kernel
theorem dM_multiply_18 : decode bM_multiply 18 = .ok (.ifCond .eq 4, 3) := by decide +kernel
theorem dM_multiply_21 : decode bM_multiply 21 = .ok (.return_, 1) := by decide +kernel
theorem dM_multiply_22 : decode bM_multiply 22 = .ok (.aload_n 0, 1) := by decide +kernel
theorem dM_multiply_23 : decode bM_multiply 23 = .ok (.iload_n 1, 1) := by decide +kernel
theorem dM_multiply_24 : decode bM_multiply 24 = .ok (.iload_n 2, 1) := by decide +kernel
theorem dM_multiply_25 : decode bM_multiply 25 = .ok (.invokevirtual 164, 3) := by decide +kernel
theorem dM_multiply_28 : decode bM_multiply 28 = .ok (.ifCond .eq 9, 3) := by decide +kernel
theorem dM_multiply_31 : decode bM_multiply 31 = .ok (.aload_n 0, 1) := by decide +kernel
theorem dM_multiply_32 : decode bM_multiply 32 = .ok (.iconst 2, 1) := by decide +kernel
theorem dM_multiply_33 : decode bM_multiply 33 = .ok (.putfield 52, 3) := by decide +kernel
theorem dM_multiply_36 : decode bM_multiply 36 = .ok (.return_, 1) := by decide +kernel
theorem dM_multiply_37 : decode bM_multiply 37 = .ok (.aload_n 0, 1) := by decide +kernel
theorem dM_multiply_38 : decode bM_multiply 38 = .ok (.iload_n 1, 1) := by decide +kernel
theorem dM_multiply_39 : decode bM_multiply 39 = .ok (.iload_n 2, 1) := by decide +kernel
theorem dM_multiply_40 : decode bM_multiply 40 = .ok (.bipush 71, 2) := by decide +kernel
theorem dM_multiply_42 : decode bM_multiply 42 = .ok (.invokevirtual 155, 3) := by decide +kernel
theorem dM_multiply_45 : decode bM_multiply 45 = .ok (.aload_n 0, 1) := by decide +kernel
theorem dM_multiply_46 : decode bM_multiply 46 = .ok (.bipush 71, 2) := by decide +kernel
theorem dM_multiply_48 : decode bM_multiply 48 = .ok (.iload_n 3, 1) := by decide +kernel
theorem dM_multiply_49 : decode bM_multiply 49 = .ok (.invokevirtual 158, 3) := by decide +kernel
theorem dM_multiply_52 : decode bM_multiply 52 = .ok (.return_, 1) := by decide +kernel
theorem dM_derive_0 : decode bM_derive 0 = .ok (.aload_n 0, 1) := by decide +kernel
theorem dM_derive_1 : decode bM_derive 1 = .ok (.iload_n 1, 1) := by decide +kernel
theorem dM_derive_2 : decode bM_derive 2 = .ok (.iload_n 3, 1) := by decide +kernel
theorem dM_derive_3 : decode bM_derive 3 = .ok (.iload_n 2, 1) := by decide +kernel
theorem dM_derive_4 : decode bM_derive 4 = .ok (.ifCond .lt 11, 3) := by decide +kernel
theorem dM_derive_7 : decode bM_derive 7 = .ok (.iload_n 2, 1) := by decide +kernel
theorem dM_derive_8 : decode bM_derive 8 = .ok (.aload_n 0, 1) := by decide +kernel
theorem dM_derive_9 : decode bM_derive 9 = .ok (.getfield 55, 3) := by decide +kernel
theorem dM_derive_12 : decode bM_derive 12 = .ok (.if_icmp .lt 7, 3) := by decide +kernel
theorem dM_derive_15 : decode bM_derive 15 = .ok (.iconst 1, 1) := by decide +kernel
theorem dM_derive_16 : decode bM_derive 16 = .ok (.goto 4, 3) := by decide +kernel
theorem dM_derive_19 : decode bM_derive 19 = .ok (.iconst 0, 1) := by decide +kernel
theorem dM_derive_20 : decode bM_derive 20 = .ok (.invokevirtual 188, 3) := by decide +kernel
theorem dM_derive_23 : decode bM_derive 23 = .ok (.ifCond .eq 4, 3) := by decide +kernel
theorem dM_derive_26 : decode bM_derive 26 = .ok (.return_, 1) := by decide +kernel
theorem dM_derive_27 : decode bM_derive 27 = .ok (.aload_n 0, 1) := by decide +kernel
theorem dM_derive_28 : decode bM_derive 28 = .ok (.bipush 71, 2) := by decide +kernel
theorem dM_derive_30 : decode bM_derive 30 = .ok (.invokevirtual 100, 3) := by decide +kernel
theorem dM_derive_33 : decode bM_derive 33 = .ok (.iconst 0, 1) := by decide +kernel
theorem dM_derive_34 : decode bM_derive 34 = .ok (.istore 4, 2) := by decide +kernel
theorem dM_derive_36 : decode bM_derive 36 = .ok (.iload 4, 2) := by decide +kernel
theorem dM_derive_38 : decode bM_derive 38 = .ok (.aload_n 0, 1) := by decide +kernel
theorem dM_derive_39 : decode bM_derive 39 = .ok (.getfield 67, 3) := by decide +kernel
theorem dM_derive_42 : decode bM_derive 42 = .ok (.if_icmp .ge 67, 3) := by decide +kernel
theorem dM_derive_45 : decode bM_derive 45 = .ok (.aload_n 0, 1) := by decide +kernel
theorem dM_derive_46 : decode bM_derive 46 = .ok (.getfield 20, 3) := by decide +kernel
theorem dM_derive_49 : decode bM_derive 49 = .ok (.iload 4, 2) := by decide +kernel
theorem dM_derive_51 : decode bM_derive 51 = .ok (.iaload, 1) := by decide +kernel
theorem dM_derive_52 : decode bM_derive 52 = .ok (.istore 5, 2) := by decide +kernel
theorem dM_derive_54 : decode bM_derive 54 = .ok (.aload_n 0, 1) := by decide +kernel
theorem dM_derive_55 : decode bM_derive 55 = .ok (.getfield 17, 3) := by decide +kernel
theorem dM_derive_58 : decode bM_derive 58 = .ok (.iconst 4, 1) := by decide +kernel
theorem dM_derive_59 : decode bM_derive 59 = .ok (.iload 5, 2) := by decide +kernel
theorem dM_derive_61 : decode bM_derive 61 = .ok (.imul, 1) := by decide +kernel
theorem dM_derive_62 : decode bM_derive 62 = .ok (.iload_n 2, 1) := by decide +kernel
theorem dM_derive_63 : decode bM_derive 63 = .ok (.iadd, 1) := by decide +kernel
theorem dM_derive_64 : decode bM_derive 64 = .ok (.iaload, 1) := by decide +kernel
theorem dM_derive_65 : decode bM_derive 65 = .ok (.istore 6, 2) := by decide +kernel
theorem dM_derive_67 : decode bM_derive 67 = .ok (.iload 6, 2) := by decide +kernel
theorem dM_derive_69 : decode bM_derive 69 = .ok (.ifCond .le 34, 3) := by decide +kernel
theorem dM_derive_72 : decode bM_derive 72 = .ok (.aload_n 0, 1) := by decide +kernel
theorem dM_derive_73 : decode bM_derive 73 = .ok (.bipush 71, 2) := by decide +kernel
theorem dM_derive_75 : decode bM_derive 75 = .ok (.iload 5, 2) := by decide +kernel
theorem dM_derive_77 : decode bM_derive 77 = .ok (.aload_n 0, 1) := by decide +kernel
theorem dM_derive_78 : decode bM_derive 78 = .ok (.getfield 23, 3) := by decide +kernel
theorem dM_derive_81 : decode bM_derive 81 = .ok (.iload_n 2, 1) := by decide +kernel
theorem dM_derive_82 : decode bM_derive 82 = .ok (.iaload, 1) := by decide +kernel
theorem dM_derive_83 : decode bM_derive 83 = .ok (.isub, 1) := by decide +kernel
theorem dM_derive_84 : decode bM_derive 84 = .ok (.aload_n 0, 1) := by decide +kernel
theorem dM_derive_85 : decode bM_derive 85 = .ok (.iload 6, 2) := by decide +kernel
theorem dM_derive_87 : decode bM_derive 87 = .ok (.i2l, 1) := by decide +kernel
theorem dM_derive_88 : decode bM_derive 88 = .ok (.aload_n 0, 1) := by decide +kernel
theorem dM_derive_89 : decode bM_derive 89 = .ok (.iload_n 1, 1) := by decide +kernel
theorem dM_derive_90 : decode bM_derive 90 = .ok (.iload 5, 2) := by decide +kernel
theorem dM_derive_92 : decode bM_derive 92 = .ok (.invokevirtual 88, 3) := by decide +kernel
theorem dM_derive_95 : decode bM_derive 95 = .ok (.i2l, 1) := by decide +kernel
theorem dM_derive_96 : decode bM_derive 96 = .ok (.lmul, 1) := by decide +kernel
theorem dM_derive_97 : decode bM_derive 97 = .ok (.invokevirtual 92, 3) := by decide +kernel
theorem dM_derive_100 : decode bM_derive 100 = .ok (.invokevirtual 85, 3) := by decide +kernel
theorem dM_derive_103 : decode bM_derive 103 = .ok (.iinc 4 1, 3) := by decide +kernel
theorem dM_derive_106 : decode bM_derive 106 = .ok (.goto (-70), 3) := by decide +kernel
theorem dM_derive_109 : decode bM_derive 109 = .ok (.aload_n 0, 1) := by decide +kernel
theorem dM_derive_110 : decode bM_derive 110 = .ok (.bipush 71, 2) := by decide +kernel
theorem dM_derive_112 : decode bM_derive 112 = .ok (.iload_n 3, 1) := by decide +kernel
theorem dM_derive_113 : decode bM_derive 113 = .ok (.invokevirtual 158, 3) := by decide +kernel
theorem dM_derive_116 : decode bM_derive 116 = .ok (.return_, 1) := by decide +kernel
theorem dM_power_0 : decode bM_power 0 = .ok (.aload_n 0, 1) := by decide +kernel
theorem dM_power_1 : decode bM_power 1 = .ok (.lconst 1, 1) := by decide +kernel
theorem dM_power_2 : decode bM_power 2 = .ok (.invokevirtual 92, 3) := by decide +kernel
theorem dM_power_5 : decode bM_power 5 = .ok (.istore_n 3, 1) := by decide +kernel
theorem dM_power_6 : decode bM_power 6 = .ok (.iconst 0, 1) := by decide +kernel
theorem dM_power_7 : decode bM_power 7 = .ok (.istore 4, 2) := by decide +kernel
theorem dM_power_9 : decode bM_power 9 = .ok (.iload 4, 2) := by decide +kernel
theorem dM_power_11 : decode bM_power 11 = .ok (.iload_n 2, 1) := by decide +kernel
theorem dM_power_12 : decode bM_power 12 = .ok (.if_icmp .ge 24, 3) := by decide +kernel
theorem dM_power_15 : decode bM_power 15 = .ok (.aload_n 0, 1) := by decide +kernel
theorem dM_power_16 : decode bM_power 16 = .ok (.iload_n 3, 1) := by decide +kernel
theorem dM_power_17 : decode bM_power 17 = .ok (.i2l, 1) := by decide +kernel
theorem dM_power_18 : decode bM_power 18 = .ok (.aload_n 0, 1) := by decide +kernel
theorem dM_power_19 : decode bM_power 19 = .ok (.iload_n 1, 1) := by decide +kernel
theorem dM_power_20 : decode bM_power 20 = .ok (.i2l, 1) := by decide +kernel
theorem dM_power_21 : decode bM_power 21 = .ok (.invokevirtual 92, 3) := by decide +kernel
theorem dM_power_24 : decode bM_power 24 = .ok (.i2l, 1) := by decide +kernel
theorem dM_power_25 : decode bM_power 25 = .ok (.lmul, 1) := by decide +kernel
theorem dM_power_26 : decode bM_power 26 = .ok (.invokevirtual 92, 3) := by decide +kernel
theorem dM_power_29 : decode bM_power 29 = .ok (.istore_n 3, 1) := by decide +kernel
theorem dM_power_30 : decode bM_power 30 = .ok (.iinc 4 1, 3) := by decide +kernel
theorem dM_power_33 : decode bM_power 33 = .ok (.goto (-24), 3) := by decide +kernel
theorem dM_power_36 : decode bM_power 36 = .ok (.iload_n 3, 1) := by decide +kernel
theorem dM_power_37 : decode bM_power 37 = .ok (.ireturn, 1) := by decide +kernel
theorem dM_set_0 : decode bM_set 0 = .ok (.aload_n 0, 1) := by decide +kernel
theorem dM_set_1 : decode bM_set 1 = .ok (.iload_n 1, 1) := by decide +kernel
theorem dM_set_2 : decode bM_set 2 = .ok (.iload 4, 2) := by decide +kernel
theorem dM_set_4 : decode bM_set 4 = .ok (.iload_n 2, 1) := by decide +kernel
theorem dM_set_5 : decode bM_set 5 = .ok (.ifCond .lt 11, 3) := by decide +kernel
theorem dM_set_8 : decode bM_set 8 = .ok (.iload_n 2, 1) := by decide +kernel
theorem dM_set_9 : decode bM_set 9 = .ok (.aload_n 0, 1) := by decide +kernel
theorem dM_set_10 : decode bM_set 10 = .ok (.getfield 55, 3) := by decide +kernel
theorem dM_set_13 : decode bM_set 13 = .ok (.if_icmp .lt 7, 3) := by decide +kernel
theorem dM_set_16 : decode bM_set 16 = .ok (.iconst 1, 1) := by decide +kernel
theorem dM_set_17 : decode bM_set 17 = .ok (.goto 4, 3) := by decide +kernel
theorem dM_set_20 : decode bM_set 20 = .ok (.iconst 0, 1) := by decide +kernel
theorem dM_set_21 : decode bM_set 21 = .ok (.invokevirtual 188, 3) := by decide +kernel
theorem dM_set_24 : decode bM_set 24 = .ok (.ifCond .eq 4, 3) := by decide +kernel
theorem dM_set_27 : decode bM_set 27 = .ok (.return_, 1) := by decide +kernel
theorem dM_set_28 : decode bM_set 28 = .ok (.aload_n 0, 1) := by decide +kernel
theorem dM_set_29 : decode bM_set 29 = .ok (.bipush 71, 2) := by decide +kernel
theorem dM_set_31 : decode bM_set 31 = .ok (.invokevirtual 100, 3) := by decide +kernel
theorem dM_set_34 : decode bM_set 34 = .ok (.iconst 0, 1) := by decide +kernel
theorem dM_set_35 : decode bM_set 35 = .ok (.istore 5, 2) := by decide +kernel
theorem dM_set_37 : decode bM_set 37 = .ok (.iload 5, 2) := by decide +kernel
theorem dM_set_39 : decode bM_set 39 = .ok (.aload_n 0, 1) := by decide +kernel
theorem dM_set_40 : decode bM_set 40 = .ok (.getfield 67, 3) := by decide +kernel
theorem dM_set_43 : decode bM_set 43 = .ok (.if_icmp .ge 84, 3) := by decide +kernel
theorem dM_set_46 : decode bM_set 46 = .ok (.aload_n 0, 1) := by decide +kernel
theorem dM_set_47 : decode bM_set 47 = .ok (.getfield 20, 3) := by decide +kernel
theorem dM_set_50 : decode bM_set 50 = .ok (.iload 5, 2) := by decide +kernel
theorem dM_set_52 : decode bM_set 52 = .ok (.iaload, 1) := by decide +kernel
theorem dM_set_53 : decode bM_set 53 = .ok (.istore 6, 2) := by decide +kernel
theorem dM_set_55 : decode bM_set 55 = .ok (.aload_n 0, 1) := by decide +kernel
theorem dM_set_56 : decode bM_set 56 = .ok (.getfield 17, 3) := by decide +kernel
theorem dM_set_59 : decode bM_set 59 = .ok (.iconst 4, 1) := by decide +kernel
theorem dM_set_60 : decode bM_set 60 = .ok (.iload 6, 2) := by decide +kernel
theorem dM_set_62 : decode bM_set 62 = .ok (.imul, 1) := by decide +kernel
theorem dM_set_63 : decode bM_set 63 = .ok (.iload_n 2, 1) := by decide +kernel
theorem dM_set_64 : decode bM_set 64 = .ok (.iadd, 1) := by decide +kernel
theorem dM_set_65 : decode bM_set 65 = .ok (.iaload, 1) := by decide +kernel
theorem dM_set_66 : decode bM_set 66 = .ok (.istore 7, 2) := by decide +kernel
theorem dM_set_68 : decode bM_set 68 = .ok (.iload 6, 2) := by decide +kernel
theorem dM_set_70 : decode bM_set 70 = .ok (.iload 7, 2) := by decide +kernel
theorem dM_set_72 : decode bM_set 72 = .ok (.aload_n 0, 1) := by decide +kernel
theorem dM_set_73 : decode bM_set 73 = .ok (.getfield 23, 3) := by decide +kernel
theorem dM_set_76 : decode bM_set 76 = .ok (.iload_n 2, 1) := by decide +kernel
theorem dM_set_77 : decode bM_set 77 = .ok (.iaload, 1) := by decide +kernel
theorem dM_set_78 : decode bM_set 78 = .ok (.imul, 1) := by decide +kernel
theorem dM_set_79 : decode bM_set 79 = .ok (.isub, 1) := by decide +kernel
theorem dM_set_80 : decode bM_set 80 = .ok (.istore 8, 2) := by decide +kernel
theorem dM_set_82 : decode bM_set 82 = .ok (.aload_n 0, 1) := by decide +kernel
theorem dM_set_83 : decode bM_set 83 = .ok (.bipush 71, 2) := by decide +kernel
theorem dM_set_85 : decode bM_set 85 = .ok (.iload 8, 2) := by decide +kernel
theorem dM_set_87 : decode bM_set 87 = .ok (.aload_n 0, 1) := by decide +kernel
theorem dM_set_88 : decode bM_set 88 = .ok (.aload_n 0, 1) := by decide +kernel
theorem dM_set_89 : decode bM_set 89 = .ok (.bipush 71, 2) := by decide +kernel
theorem dM_set_91 : decode bM_set 91 = .ok (.iload 8, 2) := by decide +kernel
theorem dM_set_93 : decode bM_set 93 = .ok (.invokevirtual 88, 3) := by decide +kernel
theorem dM_set_96 : decode bM_set 96 = .ok (.i2l, 1) := by decide +kernel
theorem dM_set_97 : decode bM_set 97 = .ok (.aload_n 0, 1) := by decide +kernel
theorem dM_set_98 : decode bM_set 98 = .ok (.iload_n 1, 1) := by decide +kernel
theorem dM_set_99 : decode bM_set 99 = .ok (.iload 6, 2) := by decide +kernel
theorem dM_set_101 : decode bM_set 101 = .ok (.invokevirtual 88, 3) := by decide +kernel
theorem dM_set_104 : decode bM_set 104 = .ok (.i2l, 1) := by decide +kernel
theorem dM_set_105 : decode bM_set 105 = .ok (.aload_n 0, 1) := by decide +kernel
theorem dM_set_106 : decode bM_set 106 = .ok (.iload_n 3, 1) := by decide +kernel
theorem dM_set_107 : decode bM_set 107 = .ok (.iload 7, 2) := by decide +kernel
theorem dM_set_109 : decode bM_set 109 = .ok (.invokevirtual 192, 3) := by decide +kernel
theorem dM_set_112 : decode bM_set 112 = .ok (.i2l, 1) := by decide +kernel
theorem dM_set_113 : decode bM_set 113 = .ok (.lmul, 1) := by decide +kernel
theorem dM_set_114 : decode bM_set 114 = .ok (.ladd, 1) := by decide +kernel
theorem dM_set_115 : decode bM_set 115 = .ok (.invokevirtual 92, 3) := by decide +kernel
theorem dM_set_118 : decode bM_set 118 = .ok (.invokevirtual 85, 3) := by decide +kernel
theorem dM_set_121 : decode bM_set 121 = .ok (.iinc 5 1, 3) := by decide +kernel
theorem dM_set_124 : decode bM_set 124 = .ok (.goto (-87), 3) := by decide +kernel
theorem dM_set_127 : decode bM_set 127 = .ok (.aload_n 0, 1) := by decide +kernel
theorem dM_set_128 : decode bM_set 128 = .ok (.bipush 71, 2) := by decide +kernel
theorem dM_set_130 : decode bM_set 130 = .ok (.iload 4, 2) := by decide +kernel
theorem dM_set_132 : decode bM_set 132 = .ok (.invokevirtual 158, 3) := by decide +kernel
theorem dM_set_135 : decode bM_set 135 = .ok (.return_, 1) := by decide +kernel
theorem dM_isPrime_0 : decode bM_isPrime 0 = .ok (.iload_n 0, 1) := by decide +kernel
theorem dM_isPrime_1 : decode bM_isPrime 1 = .ok (.iconst 2, 1) := by decide +kernel
theorem dM_isPrime_2 : decode bM_isPrime 2 = .ok (.if_icmp .lt 10, 3) := by decide +kernel
theorem dM_isPrime_5 : decode bM_isPrime 5 = .ok (.iload_n 0, 1) := by decide +kernel
theorem dM_isPrime_6 : decode bM_isPrime 6 = .ok (.sipush 32003, 3) := by decide +kernel
theorem dM_isPrime_9 : decode bM_isPrime 9 = .ok (.if_icmp .le 5, 3) := by decide +kernel
theorem dM_isPrime_12 : decode bM_isPrime 12 = .ok (.iconst 0, 1) := by decide +kernel
theorem dM_isPrime_13 : decode bM_isPrime 13 = .ok (.ireturn, 1) := by decide +kernel
theorem dM_isPrime_14 : decode bM_isPrime 14 = .ok (.iconst 2, 1) := by decide +kernel
theorem dM_isPrime_15 : decode bM_isPrime 15 = .ok (.istore_n 1, 1) := by decide +kernel
theorem dM_isPrime_16 : decode bM_isPrime 16 = .ok (.iload_n 1, 1) := by decide +kernel
theorem dM_isPrime_17 : decode bM_isPrime 17 = .ok (.iload_n 1, 1) := by decide +kernel
theorem dM_isPrime_18 : decode bM_isPrime 18 = .ok (.imul, 1) := by decide +kernel
theorem dM_isPrime_19 : decode bM_isPrime 19 = .ok (.iload_n 0, 1) := by decide +kernel
theorem dM_isPrime_20 : decode bM_isPrime 20 = .ok (.if_icmp .gt 17, 3) := by decide +kernel
theorem dM_isPrime_23 : decode bM_isPrime 23 = .ok (.iload_n 0, 1) := by decide +kernel
theorem dM_isPrime_24 : decode bM_isPrime 24 = .ok (.iload_n 1, 1) := by decide +kernel
theorem dM_isPrime_25 : decode bM_isPrime 25 = .ok (.irem, 1) := by decide +kernel
theorem dM_isPrime_26 : decode bM_isPrime 26 = .ok (.ifCond .ne 5, 3) := by decide +kernel
theorem dM_isPrime_29 : decode bM_isPrime 29 = .ok (.iconst 0, 1) := by decide +kernel
theorem dM_isPrime_30 : decode bM_isPrime 30 = .ok (.ireturn, 1) := by decide +kernel
theorem dM_isPrime_31 : decode bM_isPrime 31 = .ok (.iinc 1 1, 3) := by decide +kernel
theorem dM_isPrime_34 : decode bM_isPrime 34 = .ok (.goto (-18), 3) := by decide +kernel
theorem dM_isPrime_37 : decode bM_isPrime 37 = .ok (.iconst 1, 1) := by decide +kernel
theorem dM_isPrime_38 : decode bM_isPrime 38 = .ok (.ireturn, 1) := by decide +kernel
theorem dM_value_0 : decode bM_value 0 = .ok (.aload_n 0, 1) := by decide +kernel
theorem dM_value_1 : decode bM_value 1 = .ok (.iload_n 1, 1) := by decide +kernel
theorem dM_value_2 : decode bM_value 2 = .ok (.iload_n 1, 1) := by decide +kernel
theorem dM_value_3 : decode bM_value 3 = .ok (.iconst 0, 1) := by decide +kernel
theorem dM_value_4 : decode bM_value 4 = .ok (.invokevirtual 188, 3) := by decide +kernel
theorem dM_value_7 : decode bM_value 7 = .ok (.ifCond .eq 5, 3) := by decide +kernel
theorem dM_value_10 : decode bM_value 10 = .ok (.iconst 0, 1) := by decide +kernel
theorem dM_value_11 : decode bM_value 11 = .ok (.ireturn, 1) := by decide +kernel
theorem dM_value_12 : decode bM_value 12 = .ok (.iconst 0, 1) := by decide +kernel
theorem dM_value_13 : decode bM_value 13 = .ok (.istore 6, 2) := by decide +kernel
theorem dM_value_15 : decode bM_value 15 = .ok (.iconst 0, 1) := by decide +kernel
theorem dM_value_16 : decode bM_value 16 = .ok (.istore 7, 2) := by decide +kernel
theorem dM_value_18 : decode bM_value 18 = .ok (.iload 7, 2) := by decide +kernel
theorem dM_value_20 : decode bM_value 20 = .ok (.aload_n 0, 1) := by decide +kernel
theorem dM_value_21 : decode bM_value 21 = .ok (.getfield 67, 3) := by decide +kernel
theorem dM_value_24 : decode bM_value 24 = .ok (.if_icmp .ge 148, 3) := by decide +kernel
theorem dM_value_27 : decode bM_value 27 = .ok (.aload_n 0, 1) := by decide +kernel
theorem dM_value_28 : decode bM_value 28 = .ok (.getfield 20, 3) := by decide +kernel
theorem dM_value_31 : decode bM_value 31 = .ok (.iload 7, 2) := by decide +kernel
theorem dM_value_33 : decode bM_value 33 = .ok (.iaload, 1) := by decide +kernel
theorem dM_value_34 : decode bM_value 34 = .ok (.istore 8, 2) := by decide +kernel
theorem dM_value_36 : decode bM_value 36 = .ok (.aload_n 0, 1) := by decide +kernel
theorem dM_value_37 : decode bM_value 37 = .ok (.iload_n 1, 1) := by decide +kernel
theorem dM_value_38 : decode bM_value 38 = .ok (.iload 8, 2) := by decide +kernel
theorem dM_value_40 : decode bM_value 40 = .ok (.invokevirtual 88, 3) := by decide +kernel
theorem dM_value_43 : decode bM_value 43 = .ok (.ifCond .ne 6, 3) := by decide +kernel
theorem dM_value_46 : decode bM_value 46 = .ok (.goto 120, 3) := by decide +kernel
theorem dM_value_49 : decode bM_value 49 = .ok (.aload_n 0, 1) := by decide +kernel
theorem dM_value_50 : decode bM_value 50 = .ok (.aload_n 0, 1) := by decide +kernel
theorem dM_value_51 : decode bM_value 51 = .ok (.iload_n 1, 1) := by decide +kernel
theorem dM_value_52 : decode bM_value 52 = .ok (.iload 8, 2) := by decide +kernel
theorem dM_value_54 : decode bM_value 54 = .ok (.invokevirtual 88, 3) := by decide +kernel
theorem dM_value_57 : decode bM_value 57 = .ok (.i2l, 1) := by decide +kernel
theorem dM_value_58 : decode bM_value 58 = .ok (.aload_n 0, 1) := by decide +kernel
theorem dM_value_59 : decode bM_value 59 = .ok (.iload_n 2, 1) := by decide +kernel
theorem dM_value_60 : decode bM_value 60 = .ok (.aload_n 0, 1) := by decide +kernel
theorem dM_value_61 : decode bM_value 61 = .ok (.getfield 17, 3) := by decide +kernel
theorem dM_value_64 : decode bM_value 64 = .ok (.iconst 4, 1) := by decide +kernel
theorem dM_value_65 : decode bM_value 65 = .ok (.iload 8, 2) := by decide +kernel
theorem dM_value_67 : decode bM_value 67 = .ok (.imul, 1) := by decide +kernel
theorem dM_value_68 : decode bM_value 68 = .ok (.iaload, 1) := by decide +kernel
theorem dM_value_69 : decode bM_value 69 = .ok (.invokevirtual 192, 3) := by decide +kernel
theorem dM_value_72 : decode bM_value 72 = .ok (.i2l, 1) := by decide +kernel
theorem dM_value_73 : decode bM_value 73 = .ok (.lmul, 1) := by decide +kernel
theorem dM_value_74 : decode bM_value 74 = .ok (.invokevirtual 92, 3) := by decide +kernel
theorem dM_value_77 : decode bM_value 77 = .ok (.istore 9, 2) := by decide +kernel
theorem dM_value_79 : decode bM_value 79 = .ok (.aload_n 0, 1) := by decide +kernel
theorem dM_value_80 : decode bM_value 80 = .ok (.iload 9, 2) := by decide +kernel
theorem dM_value_82 : decode bM_value 82 = .ok (.i2l, 1) := by decide +kernel
theorem dM_value_83 : decode bM_value 83 = .ok (.aload_n 0, 1) := by decide +kernel
theorem dM_value_84 : decode bM_value 84 = .ok (.iload_n 3, 1) := by decide +kernel
theorem dM_value_85 : decode bM_value 85 = .ok (.aload_n 0, 1) := by decide +kernel
theorem dM_value_86 : decode bM_value 86 = .ok (.getfield 17, 3) := by decide +kernel
theorem dM_value_89 : decode bM_value 89 = .ok (.iconst 4, 1) := by decide +kernel
theorem dM_value_90 : decode bM_value 90 = .ok (.iload 8, 2) := by decide +kernel
theorem dM_value_92 : decode bM_value 92 = .ok (.imul, 1) := by decide +kernel
theorem dM_value_93 : decode bM_value 93 = .ok (.iconst 1, 1) := by decide +kernel
theorem dM_value_94 : decode bM_value 94 = .ok (.iadd, 1) := by decide +kernel
theorem dM_value_95 : decode bM_value 95 = .ok (.iaload, 1) := by decide +kernel
theorem dM_value_96 : decode bM_value 96 = .ok (.invokevirtual 192, 3) := by decide +kernel
theorem dM_value_99 : decode bM_value 99 = .ok (.i2l, 1) := by decide +kernel
theorem dM_value_100 : decode bM_value 100 = .ok (.lmul, 1) := by decide +kernel
theorem dM_value_101 : decode bM_value 101 = .ok (.invokevirtual 92, 3) := by decide +kernel
theorem dM_value_104 : decode bM_value 104 = .ok (.istore 9, 2) := by decide +kernel
theorem dM_value_106 : decode bM_value 106 = .ok (.aload_n 0, 1) := by decide +kernel
theorem dM_value_107 : decode bM_value 107 = .ok (.iload 9, 2) := by decide +kernel
theorem dM_value_109 : decode bM_value 109 = .ok (.i2l, 1) := by decide +kernel
theorem dM_value_110 : decode bM_value 110 = .ok (.aload_n 0, 1) := by decide +kernel
theorem dM_value_111 : decode bM_value 111 = .ok (.iload 4, 2) := by decide +kernel
theorem dM_value_113 : decode bM_value 113 = .ok (.aload_n 0, 1) := by decide +kernel
theorem dM_value_114 : decode bM_value 114 = .ok (.getfield 17, 3) := by decide +kernel
theorem dM_value_117 : decode bM_value 117 = .ok (.iconst 4, 1) := by decide +kernel
theorem dM_value_118 : decode bM_value 118 = .ok (.iload 8, 2) := by decide +kernel
theorem dM_value_120 : decode bM_value 120 = .ok (.imul, 1) := by decide +kernel
theorem dM_value_121 : decode bM_value 121 = .ok (.iconst 2, 1) := by decide +kernel
theorem dM_value_122 : decode bM_value 122 = .ok (.iadd, 1) := by decide +kernel
theorem dM_value_123 : decode bM_value 123 = .ok (.iaload, 1) := by decide +kernel
theorem dM_value_124 : decode bM_value 124 = .ok (.invokevirtual 192, 3) := by decide +kernel
theorem dM_value_127 : decode bM_value 127 = .ok (.i2l, 1) := by decide +kernel
theorem dM_value_128 : decode bM_value 128 = .ok (.lmul, 1) := by decide +kernel
theorem dM_value_129 : decode bM_value 129 = .ok (.invokevirtual 92, 3) := by decide +kernel
theorem dM_value_132 : decode bM_value 132 = .ok (.istore 9, 2) := by decide +kernel
theorem dM_value_134 : decode bM_value 134 = .ok (.aload_n 0, 1) := by decide +kernel
theorem dM_value_135 : decode bM_value 135 = .ok (.iload 6, 2) := by decide +kernel
theorem dM_value_137 : decode bM_value 137 = .ok (.i2l, 1) := by decide +kernel
theorem dM_value_138 : decode bM_value 138 = .ok (.iload 9, 2) := by decide +kernel
theorem dM_value_140 : decode bM_value 140 = .ok (.i2l, 1) := by decide +kernel
theorem dM_value_141 : decode bM_value 141 = .ok (.aload_n 0, 1) := by decide +kernel
theorem dM_value_142 : decode bM_value 142 = .ok (.iload 5, 2) := by decide +kernel
theorem dM_value_144 : decode bM_value 144 = .ok (.aload_n 0, 1) := by decide +kernel
theorem dM_value_145 : decode bM_value 145 = .ok (.getfield 17, 3) := by decide +kernel
theorem dM_value_148 : decode bM_value 148 = .ok (.iconst 4, 1) := by decide +kernel
theorem dM_value_149 : decode bM_value 149 = .ok (.iload 8, 2) := by decide +kernel
theorem dM_value_151 : decode bM_value 151 = .ok (.imul, 1) := by decide +kernel
theorem dM_value_152 : decode bM_value 152 = .ok (.iconst 3, 1) := by decide +kernel
theorem dM_value_153 : decode bM_value 153 = .ok (.iadd, 1) := by decide +kernel
theorem dM_value_154 : decode bM_value 154 = .ok (.iaload, 1) := by decide +kernel
theorem dM_value_155 : decode bM_value 155 = .ok (.invokevirtual 192, 3) := by decide +kernel
theorem dM_value_158 : decode bM_value 158 = .ok (.i2l, 1) := by decide +kernel
theorem dM_value_159 : decode bM_value 159 = .ok (.lmul, 1) := by decide +kernel
theorem dM_value_160 : decode bM_value 160 = .ok (.ladd, 1) := by decide +kernel
theorem dM_value_161 : decode bM_value 161 = .ok (.invokevirtual 92, 3) := by decide +kernel
theorem dM_value_164 : decode bM_value 164 = .ok (.istore 6, 2) := by decide +kernel
theorem dM_value_166 : decode bM_value 166 = .ok (.iinc 7 1, 3) := by decide +kernel
theorem dM_value_169 : decode bM_value 169 = .ok (.goto (-151), 3) := by decide +kernel
theorem dM_value_172 : decode bM_value 172 = .ok (.iload 6, 2) := by decide +kernel
theorem dM_value_174 : decode bM_value 174 = .ok (.ireturn, 1) := by decide +kernel
theorem dM_about_0 : decode bM_about 0 = .ok (.aload_n 0, 1) := by decide +kernel
theorem dM_about_1 : decode bM_about 1 = .ok (.iconst 0, 1) := by decide +kernel
theorem dM_about_2 : decode bM_about 2 = .ok (.putfield 52, 3) := by decide +kernel
theorem dM_about_5 : decode bM_about 5 = .ok (.iload_n 1, 1) := by decide +kernel
theorem dM_about_6 : decode bM_about 6 = .ok (.invokestatic 170, 3) := by decide +kernel
theorem dM_about_9 : decode bM_about 9 = .ok (.ifCond .ne 5, 3) := by decide +kernel
theorem dM_about_12 : decode bM_about 12 = .ok (.iconst (-1), 1) := by decide +kernel
theorem dM_about_13 : decode bM_about 13 = .ok (.ireturn, 1) := by decide +kernel
theorem dM_about_14 : decode bM_about 14 = .ok (.iload_n 2, 1) := by decide +kernel
theorem dM_about_15 : decode bM_about 15 = .ok (.ifCond .ne 11, 3) := by decide +kernel
theorem dM_about_18 : decode bM_about 18 = .ok (.aload_n 0, 1) := by decide +kernel
theorem dM_about_19 : decode bM_about 19 = .ok (.iload_n 1, 1) := by decide +kernel
theorem dM_about_20 : decode bM_about 20 = .ok (.invokevirtual 185, 3) := by decide +kernel
theorem dM_about_23 : decode bM_about 23 = .ok (.goto 17, 3) := by decide +kernel
theorem dM_about_26 : decode bM_about 26 = .ok (.iload_n 2, 1) := by decide +kernel
theorem dM_about_27 : decode bM_about 27 = .ok (.iconst 1, 1) := by decide +kernel
theorem dM_about_28 : decode bM_about 28 = .ok (.if_icmp .ne 11, 3) := by decide +kernel
theorem dM_about_31 : decode bM_about 31 = .ok (.aload_n 0, 1) := by decide +kernel
theorem dM_about_32 : decode bM_about 32 = .ok (.iload_n 1, 1) := by decide +kernel
theorem dM_about_33 : decode bM_about 33 = .ok (.invokevirtual 96, 3) := by decide +kernel
theorem dM_about_36 : decode bM_about 36 = .ok (.goto 4, 3) := by decide +kernel
theorem dM_about_39 : decode bM_about 39 = .ok (.iconst (-1), 1) := by decide +kernel
theorem dM_about_40 : decode bM_about 40 = .ok (.ireturn, 1) := by decide +kernel
theorem dM_placeOf_0 : decode bM_placeOf 0 = .ok (.iload_n 2, 1) := by decide +kernel
theorem dM_placeOf_1 : decode bM_placeOf 1 = .ok (.istore_n 3, 1) := by decide +kernel
theorem dM_placeOf_2 : decode bM_placeOf 2 = .ok (.iconst 0, 1) := by decide +kernel
theorem dM_placeOf_3 : decode bM_placeOf 3 = .ok (.istore 4, 2) := by decide +kernel
theorem dM_placeOf_5 : decode bM_placeOf 5 = .ok (.iload 4, 2) := by decide +kernel
theorem dM_placeOf_7 : decode bM_placeOf 7 = .ok (.aload_n 0, 1) := by decide +kernel
theorem dM_placeOf_8 : decode bM_placeOf 8 = .ok (.getfield 67, 3) := by decide +kernel
theorem dM_placeOf_11 : decode bM_placeOf 11 = .ok (.if_icmp .ge 42, 3) := by decide +kernel
theorem dM_placeOf_14 : decode bM_placeOf 14 = .ok (.aload_n 0, 1) := by decide +kernel
theorem dM_placeOf_15 : decode bM_placeOf 15 = .ok (.iload_n 1, 1) := by decide +kernel
theorem dM_placeOf_16 : decode bM_placeOf 16 = .ok (.aload_n 0, 1) := by decide +kernel
theorem dM_placeOf_17 : decode bM_placeOf 17 = .ok (.getfield 20, 3) := by decide +kernel
theorem dM_placeOf_20 : decode bM_placeOf 20 = .ok (.iload 4, 2) := by decide +kernel
theorem dM_placeOf_22 : decode bM_placeOf 22 = .ok (.iaload, 1) := by decide +kernel
theorem dM_placeOf_23 : decode bM_placeOf 23 = .ok (.invokevirtual 88, 3) := by decide +kernel
theorem dM_placeOf_26 : decode bM_placeOf 26 = .ok (.ifCond .ne 6, 3) := by decide +kernel
theorem dM_placeOf_29 : decode bM_placeOf 29 = .ok (.goto 18, 3) := by decide +kernel
theorem dM_placeOf_32 : decode bM_placeOf 32 = .ok (.iload_n 3, 1) := by decide +kernel
theorem dM_placeOf_33 : decode bM_placeOf 33 = .ok (.ifCond .ne 11, 3) := by decide +kernel
theorem dM_placeOf_36 : decode bM_placeOf 36 = .ok (.aload_n 0, 1) := by decide +kernel
theorem dM_placeOf_37 : decode bM_placeOf 37 = .ok (.getfield 20, 3) := by decide +kernel
theorem dM_placeOf_40 : decode bM_placeOf 40 = .ok (.iload 4, 2) := by decide +kernel
theorem dM_placeOf_42 : decode bM_placeOf 42 = .ok (.iaload, 1) := by decide +kernel
theorem dM_placeOf_43 : decode bM_placeOf 43 = .ok (.ireturn, 1) := by decide +kernel
theorem dM_placeOf_44 : decode bM_placeOf 44 = .ok (.iinc 3 (-1), 3) := by decide +kernel
theorem dM_placeOf_47 : decode bM_placeOf 47 = .ok (.iinc 4 1, 3) := by decide +kernel
theorem dM_placeOf_50 : decode bM_placeOf 50 = .ok (.goto (-45), 3) := by decide +kernel
theorem dM_placeOf_53 : decode bM_placeOf 53 = .ok (.iconst (-1), 1) := by decide +kernel
theorem dM_placeOf_54 : decode bM_placeOf 54 = .ok (.ireturn, 1) := by decide +kernel
theorem dM_term_0 : decode bM_term 0 = .ok (.aload_n 0, 1) := by decide +kernel
theorem dM_term_1 : decode bM_term 1 = .ok (.iconst 0, 1) := by decide +kernel
theorem dM_term_2 : decode bM_term 2 = .ok (.putfield 52, 3) := by decide +kernel
theorem dM_term_5 : decode bM_term 5 = .ok (.iload_n 1, 1) := by decide +kernel
theorem dM_term_6 : decode bM_term 6 = .ok (.invokestatic 170, 3) := by decide +kernel
theorem dM_term_9 : decode bM_term 9 = .ok (.ifCond .eq 16, 3) := by decide +kernel
theorem dM_term_12 : decode bM_term 12 = .ok (.iload_n 2, 1) := by decide +kernel
theorem dM_term_13 : decode bM_term 13 = .ok (.ifCond .lt 12, 3) := by decide +kernel
theorem dM_term_16 : decode bM_term 16 = .ok (.aload_n 0, 1) := by decide +kernel
theorem dM_term_17 : decode bM_term 17 = .ok (.iload_n 1, 1) := by decide +kernel
theorem dM_term_18 : decode bM_term 18 = .ok (.iload_n 2, 1) := by decide +kernel
theorem dM_term_19 : decode bM_term 19 = .ok (.invokevirtual 195, 3) := by decide +kernel
theorem dM_term_22 : decode bM_term 22 = .ok (.goto 4, 3) := by decide +kernel
theorem dM_term_25 : decode bM_term 25 = .ok (.iconst (-1), 1) := by decide +kernel
theorem dM_term_26 : decode bM_term 26 = .ok (.istore 4, 2) := by decide +kernel
theorem dM_term_28 : decode bM_term 28 = .ok (.iload 4, 2) := by decide +kernel
theorem dM_term_30 : decode bM_term 30 = .ok (.ifCond .lt 12, 3) := by decide +kernel
theorem dM_term_33 : decode bM_term 33 = .ok (.iload_n 3, 1) := by decide +kernel
theorem dM_term_34 : decode bM_term 34 = .ok (.ifCond .lt 8, 3) := by decide +kernel
theorem dM_term_37 : decode bM_term 37 = .ok (.iload_n 3, 1) := by decide +kernel
theorem dM_term_38 : decode bM_term 38 = .ok (.iconst 4, 1) := by decide +kernel
theorem dM_term_39 : decode bM_term 39 = .ok (.if_icmp .le 5, 3) := by decide +kernel
theorem dM_term_42 : decode bM_term 42 = .ok (.iconst (-1), 1) := by decide +kernel
theorem dM_term_43 : decode bM_term 43 = .ok (.ireturn, 1) := by decide +kernel
theorem dM_term_44 : decode bM_term 44 = .ok (.iload_n 3, 1) := by decide +kernel
theorem dM_term_45 : decode bM_term 45 = .ok (.iconst 4, 1) := by decide +kernel
theorem dM_term_46 : decode bM_term 46 = .ok (.if_icmp .ne 13, 3) := by decide +kernel
theorem dM_term_49 : decode bM_term 49 = .ok (.aload_n 0, 1) := by decide +kernel
theorem dM_term_50 : decode bM_term 50 = .ok (.iload_n 1, 1) := by decide +kernel
theorem dM_term_51 : decode bM_term 51 = .ok (.iload 4, 2) := by decide +kernel
theorem dM_term_53 : decode bM_term 53 = .ok (.invokevirtual 88, 3) := by decide +kernel
theorem dM_term_56 : decode bM_term 56 = .ok (.goto 14, 3) := by decide +kernel
theorem dM_term_59 : decode bM_term 59 = .ok (.aload_n 0, 1) := by decide +kernel
theorem dM_term_60 : decode bM_term 60 = .ok (.getfield 17, 3) := by decide +kernel
theorem dM_term_63 : decode bM_term 63 = .ok (.iconst 4, 1) := by decide +kernel
theorem dM_term_64 : decode bM_term 64 = .ok (.iload 4, 2) := by decide +kernel
theorem dM_term_66 : decode bM_term 66 = .ok (.imul, 1) := by decide +kernel
theorem dM_term_67 : decode bM_term 67 = .ok (.iload_n 3, 1) := by decide +kernel
theorem dM_term_68 : decode bM_term 68 = .ok (.iadd, 1) := by decide +kernel
theorem dM_term_69 : decode bM_term 69 = .ok (.iaload, 1) := by decide +kernel
theorem dM_term_70 : decode bM_term 70 = .ok (.ireturn, 1) := by decide +kernel
theorem dM_say_0 : decode bM_say 0 = .ok (.aload_n 0, 1) := by decide +kernel
theorem dM_say_1 : decode bM_say 1 = .ok (.getfield 45, 3) := by decide +kernel
theorem dM_say_4 : decode bM_say 4 = .ok (.aload_n 0, 1) := by decide +kernel
theorem dM_say_5 : decode bM_say 5 = .ok (.getfield 74, 3) := by decide +kernel
theorem dM_say_8 : decode bM_say 8 = .ok (.iload_n 1, 1) := by decide +kernel
theorem dM_say_9 : decode bM_say 9 = .ok (.iastore, 1) := by decide +kernel
theorem dM_say_10 : decode bM_say 10 = .ok (.aload_n 0, 1) := by decide +kernel
theorem dM_say_11 : decode bM_say 11 = .ok (.dup, 1) := by decide +kernel
theorem dM_say_12 : decode bM_say 12 = .ok (.getfield 74, 3) := by decide +kernel
theorem dM_say_15 : decode bM_say 15 = .ok (.iconst 1, 1) := by decide +kernel
theorem dM_say_16 : decode bM_say 16 = .ok (.iadd, 1) := by decide +kernel
theorem dM_say_17 : decode bM_say 17 = .ok (.putfield 74, 3) := by decide +kernel
theorem dM_say_20 : decode bM_say 20 = .ok (.return_, 1) := by decide +kernel
theorem dM_sayNumber_0 : decode bM_sayNumber 0 = .ok (.sipush 10000, 3) := by decide +kernel
theorem dM_sayNumber_3 : decode bM_sayNumber 3 = .ok (.istore_n 2, 1) := by decide +kernel
theorem dM_sayNumber_4 : decode bM_sayNumber 4 = .ok (.iload_n 2, 1) := by decide +kernel
theorem dM_sayNumber_5 : decode bM_sayNumber 5 = .ok (.ifCond .le 34, 3) := by decide +kernel
theorem dM_sayNumber_8 : decode bM_sayNumber 8 = .ok (.iload_n 1, 1) := by decide +kernel
theorem dM_sayNumber_9 : decode bM_sayNumber 9 = .ok (.iload_n 2, 1) := by decide +kernel
theorem dM_sayNumber_10 : decode bM_sayNumber 10 = .ok (.if_icmp .ge 8, 3) := by decide +kernel
theorem dM_sayNumber_13 : decode bM_sayNumber 13 = .ok (.iload_n 2, 1) := by decide +kernel
theorem dM_sayNumber_14 : decode bM_sayNumber 14 = .ok (.iconst 1, 1) := by decide +kernel
theorem dM_sayNumber_15 : decode bM_sayNumber 15 = .ok (.if_icmp .ne 16, 3) := by decide +kernel
theorem dM_sayNumber_18 : decode bM_sayNumber 18 = .ok (.aload_n 0, 1) := by decide +kernel
theorem dM_sayNumber_19 : decode bM_sayNumber 19 = .ok (.bipush 48, 2) := by decide +kernel
theorem dM_sayNumber_21 : decode bM_sayNumber 21 = .ok (.iload_n 1, 1) := by decide +kernel
theorem dM_sayNumber_22 : decode bM_sayNumber 22 = .ok (.iload_n 2, 1) := by decide +kernel
theorem dM_sayNumber_23 : decode bM_sayNumber 23 = .ok (.idiv, 1) := by decide +kernel
theorem dM_sayNumber_24 : decode bM_sayNumber 24 = .ok (.bipush 10, 2) := by decide +kernel
theorem dM_sayNumber_26 : decode bM_sayNumber 26 = .ok (.irem, 1) := by decide +kernel
theorem dM_sayNumber_27 : decode bM_sayNumber 27 = .ok (.iadd, 1) := by decide +kernel
theorem dM_sayNumber_28 : decode bM_sayNumber 28 = .ok (.invokevirtual 198, 3) := by decide +kernel
theorem dM_sayNumber_31 : decode bM_sayNumber 31 = .ok (.iload_n 2, 1) := by decide +kernel
theorem dM_sayNumber_32 : decode bM_sayNumber 32 = .ok (.bipush 10, 2) := by decide +kernel
theorem dM_sayNumber_34 : decode bM_sayNumber 34 = .ok (.idiv, 1) := by decide +kernel
theorem dM_sayNumber_35 : decode bM_sayNumber 35 = .ok (.istore_n 2, 1) := by decide +kernel
theorem dM_sayNumber_36 : decode bM_sayNumber 36 = .ok (.goto (-32), 3) := by decide +kernel
theorem dM_sayNumber_39 : decode bM_sayNumber 39 = .ok (.return_, 1) := by decide +kernel
theorem dM_sayTerm_0 : decode bM_sayTerm 0 = .ok (.aload_n 0, 1) := by decide +kernel
theorem dM_sayTerm_1 : decode bM_sayTerm 1 = .ok (.iload_n 1, 1) := by decide +kernel
theorem dM_sayTerm_2 : decode bM_sayTerm 2 = .ok (.iload_n 2, 1) := by decide +kernel
theorem dM_sayTerm_3 : decode bM_sayTerm 3 = .ok (.invokevirtual 88, 3) := by decide +kernel
theorem dM_sayTerm_6 : decode bM_sayTerm 6 = .ok (.istore_n 3, 1) := by decide +kernel
theorem dM_sayTerm_7 : decode bM_sayTerm 7 = .ok (.iload_n 3, 1) := by decide +kernel
theorem dM_sayTerm_8 : decode bM_sayTerm 8 = .ok (.iconst 1, 1) := by decide +kernel
theorem dM_sayTerm_9 : decode bM_sayTerm 9 = .ok (.if_icmp .ne 16, 3) := by decide +kernel
theorem dM_sayTerm_12 : decode bM_sayTerm 12 = .ok (.aload_n 0, 1) := by decide +kernel
theorem dM_sayTerm_13 : decode bM_sayTerm 13 = .ok (.getfield 13, 3) := by decide +kernel
theorem dM_sayTerm_16 : decode bM_sayTerm 16 = .ok (.iload_n 2, 1) := by decide +kernel
theorem dM_sayTerm_17 : decode bM_sayTerm 17 = .ok (.iaload, 1) := by decide +kernel
theorem dM_sayTerm_18 : decode bM_sayTerm 18 = .ok (.ifCond .le 7, 3) := by decide +kernel
theorem dM_sayTerm_21 : decode bM_sayTerm 21 = .ok (.iconst 1, 1) := by decide +kernel
theorem dM_sayTerm_22 : decode bM_sayTerm 22 = .ok (.goto 4, 3) := by decide +kernel
theorem dM_sayTerm_25 : decode bM_sayTerm 25 = .ok (.iconst 0, 1) := by decide +kernel
theorem dM_sayTerm_26 : decode bM_sayTerm 26 = .ok (.istore 4, 2) := by decide +kernel
theorem dM_sayTerm_28 : decode bM_sayTerm 28 = .ok (.iload 4, 2) := by decide +kernel
theorem dM_sayTerm_30 : decode bM_sayTerm 30 = .ok (.ifCond .ne 8, 3) := by decide +kernel
theorem dM_sayTerm_33 : decode bM_sayTerm 33 = .ok (.aload_n 0, 1) := by decide +kernel
theorem dM_sayTerm_34 : decode bM_sayTerm 34 = .ok (.iload_n 3, 1) := by decide +kernel
theorem dM_sayTerm_35 : decode bM_sayTerm 35 = .ok (.invokevirtual 201, 3) := by decide +kernel
theorem dM_sayTerm_38 : decode bM_sayTerm 38 = .ok (.iconst 0, 1) := by decide +kernel
theorem dM_sayTerm_39 : decode bM_sayTerm 39 = .ok (.istore 5, 2) := by decide +kernel
theorem dM_sayTerm_41 : decode bM_sayTerm 41 = .ok (.iload 5, 2) := by decide +kernel
theorem dM_sayTerm_43 : decode bM_sayTerm 43 = .ok (.aload_n 0, 1) := by decide +kernel
theorem dM_sayTerm_44 : decode bM_sayTerm 44 = .ok (.getfield 55, 3) := by decide +kernel
theorem dM_sayTerm_47 : decode bM_sayTerm 47 = .ok (.if_icmp .ge 103, 3) := by decide +kernel
theorem dM_sayTerm_50 : decode bM_sayTerm 50 = .ok (.aload_n 0, 1) := by decide +kernel
theorem dM_sayTerm_51 : decode bM_sayTerm 51 = .ok (.getfield 17, 3) := by decide +kernel
theorem dM_sayTerm_54 : decode bM_sayTerm 54 = .ok (.iconst 4, 1) := by decide +kernel
theorem dM_sayTerm_55 : decode bM_sayTerm 55 = .ok (.iload_n 2, 1) := by decide +kernel
theorem dM_sayTerm_56 : decode bM_sayTerm 56 = .ok (.imul, 1) := by decide +kernel
theorem dM_sayTerm_57 : decode bM_sayTerm 57 = .ok (.iload 5, 2) := by decide +kernel
theorem dM_sayTerm_59 : decode bM_sayTerm 59 = .ok (.iadd, 1) := by decide +kernel
theorem dM_sayTerm_60 : decode bM_sayTerm 60 = .ok (.iaload, 1) := by decide +kernel
theorem dM_sayTerm_61 : decode bM_sayTerm 61 = .ok (.istore 6, 2) := by decide +kernel
theorem dM_sayTerm_63 : decode bM_sayTerm 63 = .ok (.iload 6, 2) := by decide +kernel
theorem dM_sayTerm_65 : decode bM_sayTerm 65 = .ok (.ifCond .ne 6, 3) := by decide +kernel
theorem dM_sayTerm_68 : decode bM_sayTerm 68 = .ok (.goto 76, 3) := by decide +kernel
theorem dM_sayTerm_71 : decode bM_sayTerm 71 = .ok (.iload 4, 2) := by decide +kernel
theorem dM_sayTerm_73 : decode bM_sayTerm 73 = .ok (.ifCond .ne 9, 3) := by decide +kernel
theorem dM_sayTerm_76 : decode bM_sayTerm 76 = .ok (.aload_n 0, 1) := by decide +kernel
theorem dM_sayTerm_77 : decode bM_sayTerm 77 = .ok (.bipush 42, 2) := by decide +kernel
theorem dM_sayTerm_79 : decode bM_sayTerm 79 = .ok (.invokevirtual 198, 3) := by decide +kernel
theorem dM_sayTerm_82 : decode bM_sayTerm 82 = .ok (.iconst 0, 1) := by decide +kernel
theorem dM_sayTerm_83 : decode bM_sayTerm 83 = .ok (.istore 4, 2) := by decide +kernel
theorem dM_sayTerm_85 : decode bM_sayTerm 85 = .ok (.aload_n 0, 1) := by decide +kernel
theorem dM_sayTerm_86 : decode bM_sayTerm 86 = .ok (.iload 5, 2) := by decide +kernel
theorem dM_sayTerm_88 : decode bM_sayTerm 88 = .ok (.ifCond .ne 8, 3) := by decide +kernel
theorem dM_sayTerm_91 : decode bM_sayTerm 91 = .ok (.bipush 120, 2) := by decide +kernel
theorem dM_sayTerm_93 : decode bM_sayTerm 93 = .ok (.goto 27, 3) := by decide +kernel
theorem dM_sayTerm_96 : decode bM_sayTerm 96 = .ok (.iload 5, 2) := by decide +kernel
theorem dM_sayTerm_98 : decode bM_sayTerm 98 = .ok (.iconst 1, 1) := by decide +kernel
theorem dM_sayTerm_99 : decode bM_sayTerm 99 = .ok (.if_icmp .ne 8, 3) := by decide +kernel
theorem dM_sayTerm_102 : decode bM_sayTerm 102 = .ok (.bipush 121, 2) := by decide +kernel
theorem dM_sayTerm_104 : decode bM_sayTerm 104 = .ok (.goto 16, 3) := by decide +kernel
theorem dM_sayTerm_107 : decode bM_sayTerm 107 = .ok (.iload 5, 2) := by decide +kernel
theorem dM_sayTerm_109 : decode bM_sayTerm 109 = .ok (.iconst 2, 1) := by decide +kernel
theorem dM_sayTerm_110 : decode bM_sayTerm 110 = .ok (.if_icmp .ne 8, 3) := by decide +kernel
theorem dM_sayTerm_113 : decode bM_sayTerm 113 = .ok (.bipush 122, 2) := by decide +kernel
theorem dM_sayTerm_115 : decode bM_sayTerm 115 = .ok (.goto 5, 3) := by decide +kernel
theorem dM_sayTerm_118 : decode bM_sayTerm 118 = .ok (.bipush 119, 2) := by decide +kernel
theorem dM_sayTerm_120 : decode bM_sayTerm 120 = .ok (.invokevirtual 198, 3) := by decide +kernel
theorem dM_sayTerm_123 : decode bM_sayTerm 123 = .ok (.iload 6, 2) := by decide +kernel
theorem dM_sayTerm_125 : decode bM_sayTerm 125 = .ok (.iconst 2, 1) := by decide +kernel
theorem dM_sayTerm_126 : decode bM_sayTerm 126 = .ok (.if_icmp .ge 6, 3) := by decide +kernel
theorem dM_sayTerm_129 : decode bM_sayTerm 129 = .ok (.goto 15, 3) := by decide +kernel
theorem dM_sayTerm_132 : decode bM_sayTerm 132 = .ok (.aload_n 0, 1) := by decide +kernel
theorem dM_sayTerm_133 : decode bM_sayTerm 133 = .ok (.bipush 94, 2) := by decide +kernel
theorem dM_sayTerm_135 : decode bM_sayTerm 135 = .ok (.invokevirtual 198, 3) := by decide +kernel
theorem dM_sayTerm_138 : decode bM_sayTerm 138 = .ok (.aload_n 0, 1) := by decide +kernel
theorem dM_sayTerm_139 : decode bM_sayTerm 139 = .ok (.iload 6, 2) := by decide +kernel
theorem dM_sayTerm_141 : decode bM_sayTerm 141 = .ok (.invokevirtual 201, 3) := by decide +kernel
theorem dM_sayTerm_144 : decode bM_sayTerm 144 = .ok (.iinc 5 1, 3) := by decide +kernel
theorem dM_sayTerm_147 : decode bM_sayTerm 147 = .ok (.goto (-106), 3) := by decide +kernel
theorem dM_sayTerm_150 : decode bM_sayTerm 150 = .ok (.return_, 1) := by decide +kernel
theorem dM_print_0 : decode bM_print 0 = .ok (.aload_n 0, 1) := by decide +kernel
theorem dM_print_1 : decode bM_print 1 = .ok (.iload_n 1, 1) := by decide +kernel
theorem dM_print_2 : decode bM_print 2 = .ok (.iload_n 1, 1) := by decide +kernel
theorem dM_print_3 : decode bM_print 3 = .ok (.iconst 0, 1) := by decide +kernel
theorem dM_print_4 : decode bM_print 4 = .ok (.invokevirtual 188, 3) := by decide +kernel
theorem dM_print_7 : decode bM_print 7 = .ok (.ifCond .eq 5, 3) := by decide +kernel
theorem dM_print_10 : decode bM_print 10 = .ok (.iconst 0, 1) := by decide +kernel
theorem dM_print_11 : decode bM_print 11 = .ok (.ireturn, 1) := by decide +kernel
theorem dM_print_12 : decode bM_print 12 = .ok (.aload_n 0, 1) := by decide +kernel
theorem dM_print_13 : decode bM_print 13 = .ok (.iconst 0, 1) := by decide +kernel
theorem dM_print_14 : decode bM_print 14 = .ok (.putfield 74, 3) := by decide +kernel
theorem dM_print_17 : decode bM_print 17 = .ok (.iconst 0, 1) := by decide +kernel
theorem dM_print_18 : decode bM_print 18 = .ok (.istore_n 2, 1) := by decide +kernel
theorem dM_print_19 : decode bM_print 19 = .ok (.iload_n 2, 1) := by decide +kernel
theorem dM_print_20 : decode bM_print 20 = .ok (.aload_n 0, 1) := by decide +kernel
theorem dM_print_21 : decode bM_print 21 = .ok (.getfield 67, 3) := by decide +kernel
theorem dM_print_24 : decode bM_print 24 = .ok (.if_icmp .ge 50, 3) := by decide +kernel
theorem dM_print_27 : decode bM_print 27 = .ok (.aload_n 0, 1) := by decide +kernel
theorem dM_print_28 : decode bM_print 28 = .ok (.iload_n 1, 1) := by decide +kernel
theorem dM_print_29 : decode bM_print 29 = .ok (.aload_n 0, 1) := by decide +kernel
theorem dM_print_30 : decode bM_print 30 = .ok (.getfield 20, 3) := by decide +kernel
theorem dM_print_33 : decode bM_print 33 = .ok (.iload_n 2, 1) := by decide +kernel
theorem dM_print_34 : decode bM_print 34 = .ok (.iaload, 1) := by decide +kernel
theorem dM_print_35 : decode bM_print 35 = .ok (.invokevirtual 88, 3) := by decide +kernel
theorem dM_print_38 : decode bM_print 38 = .ok (.ifCond .ne 6, 3) := by decide +kernel
theorem dM_print_41 : decode bM_print 41 = .ok (.goto 27, 3) := by decide +kernel
theorem dM_print_44 : decode bM_print 44 = .ok (.aload_n 0, 1) := by decide +kernel
theorem dM_print_45 : decode bM_print 45 = .ok (.getfield 74, 3) := by decide +kernel
theorem dM_print_48 : decode bM_print 48 = .ok (.ifCond .le 9, 3) := by decide +kernel
theorem dM_print_51 : decode bM_print 51 = .ok (.aload_n 0, 1) := by decide +kernel
theorem dM_print_52 : decode bM_print 52 = .ok (.bipush 43, 2) := by decide +kernel
theorem dM_print_54 : decode bM_print 54 = .ok (.invokevirtual 198, 3) := by decide +kernel
theorem dM_print_57 : decode bM_print 57 = .ok (.aload_n 0, 1) := by decide +kernel
theorem dM_print_58 : decode bM_print 58 = .ok (.iload_n 1, 1) := by decide +kernel
theorem dM_print_59 : decode bM_print 59 = .ok (.aload_n 0, 1) := by decide +kernel
theorem dM_print_60 : decode bM_print 60 = .ok (.getfield 20, 3) := by decide +kernel
theorem dM_print_63 : decode bM_print 63 = .ok (.iload_n 2, 1) := by decide +kernel
theorem dM_print_64 : decode bM_print 64 = .ok (.iaload, 1) := by decide +kernel
theorem dM_print_65 : decode bM_print 65 = .ok (.invokevirtual 204, 3) := by decide +kernel
theorem dM_print_68 : decode bM_print 68 = .ok (.iinc 2 1, 3) := by decide +kernel
theorem dM_print_71 : decode bM_print 71 = .ok (.goto (-52), 3) := by decide +kernel
theorem dM_print_74 : decode bM_print 74 = .ok (.aload_n 0, 1) := by decide +kernel
theorem dM_print_75 : decode bM_print 75 = .ok (.getfield 74, 3) := by decide +kernel
theorem dM_print_78 : decode bM_print 78 = .ok (.ifCond .ne 9, 3) := by decide +kernel
theorem dM_print_81 : decode bM_print 81 = .ok (.aload_n 0, 1) := by decide +kernel
theorem dM_print_82 : decode bM_print 82 = .ok (.bipush 48, 2) := by decide +kernel
theorem dM_print_84 : decode bM_print 84 = .ok (.invokevirtual 198, 3) := by decide +kernel
theorem dM_print_87 : decode bM_print 87 = .ok (.aload_n 0, 1) := by decide +kernel
theorem dM_print_88 : decode bM_print 88 = .ok (.getfield 74, 3) := by decide +kernel
theorem dM_print_91 : decode bM_print 91 = .ok (.ireturn, 1) := by decide +kernel
theorem dM_output_0 : decode bM_output 0 = .ok (.aload_n 0, 1) := by decide +kernel
theorem dM_output_1 : decode bM_output 1 = .ok (.iconst 0, 1) := by decide +kernel
theorem dM_output_2 : decode bM_output 2 = .ok (.putfield 52, 3) := by decide +kernel
theorem dM_output_5 : decode bM_output 5 = .ok (.iload_n 1, 1) := by decide +kernel
theorem dM_output_6 : decode bM_output 6 = .ok (.ifCond .lt 11, 3) := by decide +kernel
theorem dM_output_9 : decode bM_output 9 = .ok (.iload_n 1, 1) := by decide +kernel
theorem dM_output_10 : decode bM_output 10 = .ok (.aload_n 0, 1) := by decide +kernel
theorem dM_output_11 : decode bM_output 11 = .ok (.getfield 74, 3) := by decide +kernel
theorem dM_output_14 : decode bM_output 14 = .ok (.if_icmp .lt 7, 3) := by decide +kernel
theorem dM_output_17 : decode bM_output 17 = .ok (.iconst (-1), 1) := by decide +kernel
theorem dM_output_18 : decode bM_output 18 = .ok (.goto 9, 3) := by decide +kernel
theorem dM_output_21 : decode bM_output 21 = .ok (.aload_n 0, 1) := by decide +kernel
theorem dM_output_22 : decode bM_output 22 = .ok (.getfield 45, 3) := by decide +kernel
theorem dM_output_25 : decode bM_output 25 = .ok (.iload_n 1, 1) := by decide +kernel
theorem dM_output_26 : decode bM_output 26 = .ok (.iaload, 1) := by decide +kernel
theorem dM_output_27 : decode bM_output 27 = .ok (.ireturn, 1) := by decide +kernel
theorem dM_prepare_0 : decode bM_prepare 0 = .ok (.aload_n 0, 1) := by decide +kernel
theorem dM_prepare_1 : decode bM_prepare 1 = .ok (.iload_n 1, 1) := by decide +kernel
theorem dM_prepare_2 : decode bM_prepare 2 = .ok (.putfield 7, 3) := by decide +kernel
theorem dM_prepare_5 : decode bM_prepare 5 = .ok (.aload_n 0, 1) := by decide +kernel
theorem dM_prepare_6 : decode bM_prepare 6 = .ok (.iload_n 2, 1) := by decide +kernel
theorem dM_prepare_7 : decode bM_prepare 7 = .ok (.putfield 55, 3) := by decide +kernel
theorem dM_prepare_10 : decode bM_prepare 10 = .ok (.aload_n 0, 1) := by decide +kernel
theorem dM_prepare_11 : decode bM_prepare 11 = .ok (.iload_n 3, 1) := by decide +kernel
theorem dM_prepare_12 : decode bM_prepare 12 = .ok (.putfield 58, 3) := by decide +kernel
theorem dM_prepare_15 : decode bM_prepare 15 = .ok (.aload_n 0, 1) := by decide +kernel
theorem dM_prepare_16 : decode bM_prepare 16 = .ok (.iload_n 2, 1) := by decide +kernel
theorem dM_prepare_17 : decode bM_prepare 17 = .ok (.iconst 1, 1) := by decide +kernel
theorem dM_prepare_18 : decode bM_prepare 18 = .ok (.if_icmp .ne 8, 3) := by decide +kernel
theorem dM_prepare_21 : decode bM_prepare 21 = .ok (.bipush 30, 2) := by decide +kernel
theorem dM_prepare_23 : decode bM_prepare 23 = .ok (.goto 24, 3) := by decide +kernel
theorem dM_prepare_26 : decode bM_prepare 26 = .ok (.iload_n 2, 1) := by decide +kernel
theorem dM_prepare_27 : decode bM_prepare 27 = .ok (.iconst 2, 1) := by decide +kernel
theorem dM_prepare_28 : decode bM_prepare 28 = .ok (.if_icmp .ne 8, 3) := by decide +kernel
theorem dM_prepare_31 : decode bM_prepare 31 = .ok (.bipush 12, 2) := by decide +kernel
theorem dM_prepare_33 : decode bM_prepare 33 = .ok (.goto 14, 3) := by decide +kernel
theorem dM_prepare_36 : decode bM_prepare 36 = .ok (.iload_n 2, 1) := by decide +kernel
theorem dM_prepare_37 : decode bM_prepare 37 = .ok (.iconst 3, 1) := by decide +kernel
theorem dM_prepare_38 : decode bM_prepare 38 = .ok (.if_icmp .ne 8, 3) := by decide +kernel
theorem dM_prepare_41 : decode bM_prepare 41 = .ok (.bipush 7, 2) := by decide +kernel
theorem dM_prepare_43 : decode bM_prepare 43 = .ok (.goto 4, 3) := by decide +kernel
theorem dM_prepare_46 : decode bM_prepare 46 = .ok (.iconst 5, 1) := by decide +kernel
theorem dM_prepare_47 : decode bM_prepare 47 = .ok (.putfield 61, 3) := by decide +kernel
theorem dM_prepare_50 : decode bM_prepare 50 = .ok (.aload_n 0, 1) := by decide +kernel
theorem dM_prepare_51 : decode bM_prepare 51 = .ok (.aload_n 0, 1) := by decide +kernel
theorem dM_prepare_52 : decode bM_prepare 52 = .ok (.getfield 61, 3) := by decide +kernel
theorem dM_prepare_55 : decode bM_prepare 55 = .ok (.iconst 1, 1) := by decide +kernel
theorem dM_prepare_56 : decode bM_prepare 56 = .ok (.iadd, 1) := by decide +kernel
theorem dM_prepare_57 : decode bM_prepare 57 = .ok (.putfield 64, 3) := by decide +kernel
theorem dM_prepare_60 : decode bM_prepare 60 = .ok (.iconst 1, 1) := by decide +kernel
theorem dM_prepare_61 : decode bM_prepare 61 = .ok (.istore 4, 2) := by decide +kernel
theorem dM_prepare_63 : decode bM_prepare 63 = .ok (.iconst 0, 1) := by decide +kernel
theorem dM_prepare_64 : decode bM_prepare 64 = .ok (.istore 5, 2) := by decide +kernel
theorem dM_prepare_66 : decode bM_prepare 66 = .ok (.iload 5, 2) := by decide +kernel
theorem dM_prepare_68 : decode bM_prepare 68 = .ok (.iconst 4, 1) := by decide +kernel
theorem dM_prepare_69 : decode bM_prepare 69 = .ok (.if_icmp .ge 37, 3) := by decide +kernel
theorem dM_prepare_72 : decode bM_prepare 72 = .ok (.aload_n 0, 1) := by decide +kernel
theorem dM_prepare_73 : decode bM_prepare 73 = .ok (.getfield 23, 3) := by decide +kernel
theorem dM_prepare_76 : decode bM_prepare 76 = .ok (.iload 5, 2) := by decide +kernel
theorem dM_prepare_78 : decode bM_prepare 78 = .ok (.iload 4, 2) := by decide +kernel
theorem dM_prepare_80 : decode bM_prepare 80 = .ok (.iastore, 1) := by decide +kernel
theorem dM_prepare_81 : decode bM_prepare 81 = .ok (.iload 4, 2) := by decide +kernel
theorem dM_prepare_83 : decode bM_prepare 83 = .ok (.iload 5, 2) := by decide +kernel
theorem dM_prepare_85 : decode bM_prepare 85 = .ok (.iload_n 2, 1) := by decide +kernel
theorem dM_prepare_86 : decode bM_prepare 86 = .ok (.if_icmp .ge 10, 3) := by decide +kernel
theorem dM_prepare_89 : decode bM_prepare 89 = .ok (.aload_n 0, 1) := by decide +kernel
theorem dM_prepare_90 : decode bM_prepare 90 = .ok (.getfield 64, 3) := by decide +kernel
theorem dM_prepare_93 : decode bM_prepare 93 = .ok (.goto 4, 3) := by decide +kernel
theorem dM_prepare_96 : decode bM_prepare 96 = .ok (.iconst 1, 1) := by decide +kernel
theorem dM_prepare_97 : decode bM_prepare 97 = .ok (.imul, 1) := by decide +kernel
theorem dM_prepare_98 : decode bM_prepare 98 = .ok (.istore 4, 2) := by decide +kernel
theorem dM_prepare_100 : decode bM_prepare 100 = .ok (.iinc 5 1, 3) := by decide +kernel
theorem dM_prepare_103 : decode bM_prepare 103 = .ok (.goto (-37), 3) := by decide +kernel
theorem dM_prepare_106 : decode bM_prepare 106 = .ok (.aload_n 0, 1) := by decide +kernel
theorem dM_prepare_107 : decode bM_prepare 107 = .ok (.iconst 0, 1) := by decide +kernel
theorem dM_prepare_108 : decode bM_prepare 108 = .ok (.putfield 67, 3) := by decide +kernel
theorem dM_prepare_111 : decode bM_prepare 111 = .ok (.iconst 0, 1) := by decide +kernel
theorem dM_prepare_112 : decode bM_prepare 112 = .ok (.istore 5, 2) := by decide +kernel
theorem dM_prepare_114 : decode bM_prepare 114 = .ok (.iload 5, 2) := by decide +kernel
theorem dM_prepare_116 : decode bM_prepare 116 = .ok (.iload 4, 2) := by decide +kernel
theorem dM_prepare_118 : decode bM_prepare 118 = .ok (.if_icmp .ge 111, 3) := by decide +kernel
theorem dM_prepare_121 : decode bM_prepare 121 = .ok (.aload_n 0, 1) := by decide +kernel
theorem dM_prepare_122 : decode bM_prepare 122 = .ok (.getfield 13, 3) := by decide +kernel
theorem dM_prepare_125 : decode bM_prepare 125 = .ok (.iload 5, 2) := by decide +kernel
theorem dM_prepare_127 : decode bM_prepare 127 = .ok (.iconst 0, 1) := by decide +kernel
theorem dM_prepare_128 : decode bM_prepare 128 = .ok (.iastore, 1) := by decide +kernel
theorem dM_prepare_129 : decode bM_prepare 129 = .ok (.iconst 0, 1) := by decide +kernel
theorem dM_prepare_130 : decode bM_prepare 130 = .ok (.istore 6, 2) := by decide +kernel
theorem dM_prepare_132 : decode bM_prepare 132 = .ok (.iload 6, 2) := by decide +kernel
theorem dM_prepare_134 : decode bM_prepare 134 = .ok (.iconst 4, 1) := by decide +kernel
theorem dM_prepare_135 : decode bM_prepare 135 = .ok (.if_icmp .ge 68, 3) := by decide +kernel
theorem dM_prepare_138 : decode bM_prepare 138 = .ok (.aload_n 0, 1) := by decide +kernel
theorem dM_prepare_139 : decode bM_prepare 139 = .ok (.getfield 17, 3) := by decide +kernel
theorem dM_prepare_142 : decode bM_prepare 142 = .ok (.iconst 4, 1) := by decide +kernel
theorem dM_prepare_143 : decode bM_prepare 143 = .ok (.iload 5, 2) := by decide +kernel
theorem dM_prepare_145 : decode bM_prepare 145 = .ok (.imul, 1) := by decide +kernel
theorem dM_prepare_146 : decode bM_prepare 146 = .ok (.iload 6, 2) := by decide +kernel
theorem dM_prepare_148 : decode bM_prepare 148 = .ok (.iadd, 1) := by decide +kernel
theorem dM_prepare_149 : decode bM_prepare 149 = .ok (.iload 6, 2) := by decide +kernel
theorem dM_prepare_151 : decode bM_prepare 151 = .ok (.iload_n 2, 1) := by decide +kernel
theorem dM_prepare_152 : decode bM_prepare 152 = .ok (.if_icmp .ge 21, 3) := by decide +kernel
theorem dM_prepare_155 : decode bM_prepare 155 = .ok (.iload 5, 2) := by decide +kernel
theorem dM_prepare_157 : decode bM_prepare 157 = .ok (.aload_n 0, 1) := by decide +kernel
theorem dM_prepare_158 : decode bM_prepare 158 = .ok (.getfield 23, 3) := by decide +kernel
theorem dM_prepare_161 : decode bM_prepare 161 = .ok (.iload 6, 2) := by decide +kernel
theorem dM_prepare_163 : decode bM_prepare 163 = .ok (.iaload, 1) := by decide +kernel
theorem dM_prepare_164 : decode bM_prepare 164 = .ok (.idiv, 1) := by decide +kernel
theorem dM_prepare_165 : decode bM_prepare 165 = .ok (.aload_n 0, 1) := by decide +kernel
theorem dM_prepare_166 : decode bM_prepare 166 = .ok (.getfield 64, 3) := by decide +kernel
theorem dM_prepare_169 : decode bM_prepare 169 = .ok (.irem, 1) := by decide +kernel
theorem dM_prepare_170 : decode bM_prepare 170 = .ok (.goto 4, 3) := by decide +kernel
theorem dM_prepare_173 : decode bM_prepare 173 = .ok (.iconst 0, 1) := by decide +kernel
theorem dM_prepare_174 : decode bM_prepare 174 = .ok (.iastore, 1) := by decide +kernel
theorem dM_prepare_175 : decode bM_prepare 175 = .ok (.aload_n 0, 1) := by decide +kernel
theorem dM_prepare_176 : decode bM_prepare 176 = .ok (.getfield 13, 3) := by decide +kernel
theorem dM_prepare_179 : decode bM_prepare 179 = .ok (.iload 5, 2) := by decide +kernel
theorem dM_prepare_181 : decode bM_prepare 181 = .ok (.dup2, 1) := by decide +kernel
theorem dM_prepare_182 : decode bM_prepare 182 = .ok (.iaload, 1) := by decide +kernel
theorem dM_prepare_183 : decode bM_prepare 183 = .ok (.aload_n 0, 1) := by decide +kernel
theorem dM_prepare_184 : decode bM_prepare 184 = .ok (.getfield 17, 3) := by decide +kernel
theorem dM_prepare_187 : decode bM_prepare 187 = .ok (.iconst 4, 1) := by decide +kernel
theorem dM_prepare_188 : decode bM_prepare 188 = .ok (.iload 5, 2) := by decide +kernel
theorem dM_prepare_190 : decode bM_prepare 190 = .ok (.imul, 1) := by decide +kernel
theorem dM_prepare_191 : decode bM_prepare 191 = .ok (.iload 6, 2) := by decide +kernel
theorem dM_prepare_193 : decode bM_prepare 193 = .ok (.iadd, 1) := by decide +kernel
theorem dM_prepare_194 : decode bM_prepare 194 = .ok (.iaload, 1) := by decide +kernel
theorem dM_prepare_195 : decode bM_prepare 195 = .ok (.iadd, 1) := by decide +kernel
theorem dM_prepare_196 : decode bM_prepare 196 = .ok (.iastore, 1) := by decide +kernel
theorem dM_prepare_197 : decode bM_prepare 197 = .ok (.iinc 6 1, 3) := by decide +kernel
theorem dM_prepare_200 : decode bM_prepare 200 = .ok (.goto (-68), 3) := by decide +kernel
theorem dM_prepare_203 : decode bM_prepare 203 = .ok (.aload_n 0, 1) := by decide +kernel
theorem dM_prepare_204 : decode bM_prepare 204 = .ok (.getfield 13, 3) := by decide +kernel
theorem dM_prepare_207 : decode bM_prepare 207 = .ok (.iload 5, 2) := by decide +kernel
theorem dM_prepare_209 : decode bM_prepare 209 = .ok (.iaload, 1) := by decide +kernel
theorem dM_prepare_210 : decode bM_prepare 210 = .ok (.aload_n 0, 1) := by decide +kernel
theorem dM_prepare_211 : decode bM_prepare 211 = .ok (.getfield 61, 3) := by decide +kernel
theorem dM_prepare_214 : decode bM_prepare 214 = .ok (.if_icmp .gt 9, 3) := by decide +kernel
theorem dM_prepare_217 : decode bM_prepare 217 = .ok (.aload_n 0, 1) := by decide +kernel
theorem dM_prepare_218 : decode bM_prepare 218 = .ok (.iload 5, 2) := by decide +kernel
theorem dM_prepare_220 : decode bM_prepare 220 = .ok (.invokevirtual 70, 3) := by decide +kernel
theorem dM_prepare_223 : decode bM_prepare 223 = .ok (.iinc 5 1, 3) := by decide +kernel
theorem dM_prepare_226 : decode bM_prepare 226 = .ok (.goto (-112), 3) := by decide +kernel
theorem dM_prepare_229 : decode bM_prepare 229 = .ok (.iconst 0, 1) := by decide +kernel
theorem dM_prepare_230 : decode bM_prepare 230 = .ok (.istore 5, 2) := by decide +kernel
theorem dM_prepare_232 : decode bM_prepare 232 = .ok (.iload 5, 2) := by decide +kernel
theorem dM_prepare_234 : decode bM_prepare 234 = .ok (.aload_n 0, 1) := by decide +kernel
theorem dM_prepare_235 : decode bM_prepare 235 = .ok (.getfield 27, 3) := by decide +kernel
theorem dM_prepare_238 : decode bM_prepare 238 = .ok (.arraylength, 1) := by decide +kernel
theorem dM_prepare_239 : decode bM_prepare 239 = .ok (.if_icmp .ge 17, 3) := by decide +kernel
theorem dM_prepare_242 : decode bM_prepare 242 = .ok (.aload_n 0, 1) := by decide +kernel
theorem dM_prepare_243 : decode bM_prepare 243 = .ok (.getfield 27, 3) := by decide +kernel
theorem dM_prepare_246 : decode bM_prepare 246 = .ok (.iload 5, 2) := by decide +kernel
theorem dM_prepare_248 : decode bM_prepare 248 = .ok (.iconst 0, 1) := by decide +kernel
theorem dM_prepare_249 : decode bM_prepare 249 = .ok (.iastore, 1) := by decide +kernel
theorem dM_prepare_250 : decode bM_prepare 250 = .ok (.iinc 5 1, 3) := by decide +kernel
theorem dM_prepare_253 : decode bM_prepare 253 = .ok (.goto (-21), 3) := by decide +kernel
theorem dM_prepare_256 : decode bM_prepare 256 = .ok (.aload_n 0, 1) := by decide +kernel
theorem dM_prepare_257 : decode bM_prepare 257 = .ok (.iconst 0, 1) := by decide +kernel
theorem dM_prepare_258 : decode bM_prepare 258 = .ok (.putfield 74, 3) := by decide +kernel
theorem dM_prepare_261 : decode bM_prepare 261 = .ok (.return_, 1) := by decide +kernel
theorem dM_list_0 : decode bM_list 0 = .ok (.aload_n 0, 1) := by decide +kernel
theorem dM_list_1 : decode bM_list 1 = .ok (.getfield 67, 3) := by decide +kernel
theorem dM_list_4 : decode bM_list 4 = .ok (.istore_n 2, 1) := by decide +kernel
theorem dM_list_5 : decode bM_list 5 = .ok (.iload_n 2, 1) := by decide +kernel
theorem dM_list_6 : decode bM_list 6 = .ok (.ifCond .le 39, 3) := by decide +kernel
theorem dM_list_9 : decode bM_list 9 = .ok (.aload_n 0, 1) := by decide +kernel
theorem dM_list_10 : decode bM_list 10 = .ok (.iload_n 1, 1) := by decide +kernel
theorem dM_list_11 : decode bM_list 11 = .ok (.aload_n 0, 1) := by decide +kernel
theorem dM_list_12 : decode bM_list 12 = .ok (.getfield 20, 3) := by decide +kernel
theorem dM_list_15 : decode bM_list 15 = .ok (.iload_n 2, 1) := by decide +kernel
theorem dM_list_16 : decode bM_list 16 = .ok (.iconst 1, 1) := by decide +kernel
theorem dM_list_17 : decode bM_list 17 = .ok (.isub, 1) := by decide +kernel
theorem dM_list_18 : decode bM_list 18 = .ok (.iaload, 1) := by decide +kernel
theorem dM_list_19 : decode bM_list 19 = .ok (.invokevirtual 77, 3) := by decide +kernel
theorem dM_list_22 : decode bM_list 22 = .ok (.ifCond .eq 23, 3) := by decide +kernel
theorem dM_list_25 : decode bM_list 25 = .ok (.aload_n 0, 1) := by decide +kernel
theorem dM_list_26 : decode bM_list 26 = .ok (.getfield 20, 3) := by decide +kernel
theorem dM_list_29 : decode bM_list 29 = .ok (.iload_n 2, 1) := by decide +kernel
theorem dM_list_30 : decode bM_list 30 = .ok (.aload_n 0, 1) := by decide +kernel
theorem dM_list_31 : decode bM_list 31 = .ok (.getfield 20, 3) := by decide +kernel
theorem dM_list_34 : decode bM_list 34 = .ok (.iload_n 2, 1) := by decide +kernel
theorem dM_list_35 : decode bM_list 35 = .ok (.iconst 1, 1) := by decide +kernel
theorem dM_list_36 : decode bM_list 36 = .ok (.isub, 1) := by decide +kernel
theorem dM_list_37 : decode bM_list 37 = .ok (.iaload, 1) := by decide +kernel
theorem dM_list_38 : decode bM_list 38 = .ok (.iastore, 1) := by decide +kernel
theorem dM_list_39 : decode bM_list 39 = .ok (.iinc 2 (-1), 3) := by decide +kernel
theorem dM_list_42 : decode bM_list 42 = .ok (.goto (-37), 3) := by decide +kernel
theorem dM_list_45 : decode bM_list 45 = .ok (.aload_n 0, 1) := by decide +kernel
theorem dM_list_46 : decode bM_list 46 = .ok (.getfield 20, 3) := by decide +kernel
theorem dM_list_49 : decode bM_list 49 = .ok (.iload_n 2, 1) := by decide +kernel
theorem dM_list_50 : decode bM_list 50 = .ok (.iload_n 1, 1) := by decide +kernel
theorem dM_list_51 : decode bM_list 51 = .ok (.iastore, 1) := by decide +kernel
theorem dM_list_52 : decode bM_list 52 = .ok (.aload_n 0, 1) := by decide +kernel
theorem dM_list_53 : decode bM_list 53 = .ok (.dup, 1) := by decide +kernel
theorem dM_list_54 : decode bM_list 54 = .ok (.getfield 67, 3) := by decide +kernel
theorem dM_list_57 : decode bM_list 57 = .ok (.iconst 1, 1) := by decide +kernel
theorem dM_list_58 : decode bM_list 58 = .ok (.iadd, 1) := by decide +kernel
theorem dM_list_59 : decode bM_list 59 = .ok (.putfield 67, 3) := by decide +kernel
theorem dM_list_62 : decode bM_list 62 = .ok (.return_, 1) := by decide +kernel
theorem dM_isGreater_0 : decode bM_isGreater 0 = .ok (.aload_n 0, 1) := by decide +kernel
theorem dM_isGreater_1 : decode bM_isGreater 1 = .ok (.getfield 13, 3) := by decide +kernel
theorem dM_isGreater_4 : decode bM_isGreater 4 = .ok (.iload_n 1, 1) := by decide +kernel
theorem dM_isGreater_5 : decode bM_isGreater 5 = .ok (.iaload, 1) := by decide +kernel
theorem dM_isGreater_6 : decode bM_isGreater 6 = .ok (.aload_n 0, 1) := by decide +kernel
theorem dM_isGreater_7 : decode bM_isGreater 7 = .ok (.getfield 13, 3) := by decide +kernel
theorem dM_isGreater_10 : decode bM_isGreater 10 = .ok (.iload_n 2, 1) := by decide +kernel
theorem dM_isGreater_11 : decode bM_isGreater 11 = .ok (.iaload, 1) := by decide +kernel
theorem dM_isGreater_12 : decode bM_isGreater 12 = .ok (.if_icmp .eq 24, 3) := by decide +kernel
theorem dM_isGreater_15 : decode bM_isGreater 15 = .ok (.aload_n 0, 1) := by decide +kernel
theorem dM_isGreater_16 : decode bM_isGreater 16 = .ok (.getfield 13, 3) := by decide +kernel
theorem dM_isGreater_19 : decode bM_isGreater 19 = .ok (.iload_n 1, 1) := by decide +kernel
theorem dM_isGreater_20 : decode bM_isGreater 20 = .ok (.iaload, 1) := by decide +kernel
theorem dM_isGreater_21 : decode bM_isGreater 21 = .ok (.aload_n 0, 1) := by decide +kernel
theorem dM_isGreater_22 : decode bM_isGreater 22 = .ok (.getfield 13, 3) := by decide +kernel
theorem dM_isGreater_25 : decode bM_isGreater 25 = .ok (.iload_n 2, 1) := by decide +kernel
theorem dM_isGreater_26 : decode bM_isGreater 26 = .ok (.iaload, 1) := by decide +kernel
theorem dM_isGreater_27 : decode bM_isGreater 27 = .ok (.if_icmp .le 7, 3) := by decide +kernel
theorem dM_isGreater_30 : decode bM_isGreater 30 = .ok (.iconst 1, 1) := by decide +kernel
theorem dM_isGreater_31 : decode bM_isGreater 31 = .ok (.goto 4, 3) := by decide +kernel
theorem dM_isGreater_34 : decode bM_isGreater 34 = .ok (.iconst 0, 1) := by decide +kernel
theorem dM_isGreater_35 : decode bM_isGreater 35 = .ok (.ireturn, 1) := by decide +kernel
theorem dM_isGreater_36 : decode bM_isGreater 36 = .ok (.iconst 0, 1) := by decide +kernel
theorem dM_isGreater_37 : decode bM_isGreater 37 = .ok (.istore_n 3, 1) := by decide +kernel
theorem dM_isGreater_38 : decode bM_isGreater 38 = .ok (.iload_n 3, 1) := by decide +kernel
theorem dM_isGreater_39 : decode bM_isGreater 39 = .ok (.aload_n 0, 1) := by decide +kernel
theorem dM_isGreater_40 : decode bM_isGreater 40 = .ok (.getfield 55, 3) := by decide +kernel
theorem dM_isGreater_43 : decode bM_isGreater 43 = .ok (.if_icmp .ge 91, 3) := by decide +kernel
theorem dM_isGreater_46 : decode bM_isGreater 46 = .ok (.aload_n 0, 1) := by decide +kernel
theorem dM_isGreater_47 : decode bM_isGreater 47 = .ok (.getfield 58, 3) := by decide +kernel
theorem dM_isGreater_50 : decode bM_isGreater 50 = .ok (.ifCond .ne 14, 3) := by decide +kernel
theorem dM_isGreater_53 : decode bM_isGreater 53 = .ok (.aload_n 0, 1) := by decide +kernel
theorem dM_isGreater_54 : decode bM_isGreater 54 = .ok (.getfield 55, 3) := by decide +kernel
theorem dM_isGreater_57 : decode bM_isGreater 57 = .ok (.iconst 1, 1) := by decide +kernel
theorem dM_isGreater_58 : decode bM_isGreater 58 = .ok (.isub, 1) := by decide +kernel
theorem dM_isGreater_59 : decode bM_isGreater 59 = .ok (.iload_n 3, 1) := by decide +kernel
theorem dM_isGreater_60 : decode bM_isGreater 60 = .ok (.isub, 1) := by decide +kernel
theorem dM_isGreater_61 : decode bM_isGreater 61 = .ok (.goto 4, 3) := by decide +kernel
theorem dM_isGreater_64 : decode bM_isGreater 64 = .ok (.iload_n 3, 1) := by decide +kernel
theorem dM_isGreater_65 : decode bM_isGreater 65 = .ok (.istore 4, 2) := by decide +kernel
theorem dM_isGreater_67 : decode bM_isGreater 67 = .ok (.aload_n 0, 1) := by decide +kernel
theorem dM_isGreater_68 : decode bM_isGreater 68 = .ok (.getfield 17, 3) := by decide +kernel
theorem dM_isGreater_71 : decode bM_isGreater 71 = .ok (.iconst 4, 1) := by decide +kernel
theorem dM_isGreater_72 : decode bM_isGreater 72 = .ok (.iload_n 1, 1) := by decide +kernel
theorem dM_isGreater_73 : decode bM_isGreater 73 = .ok (.imul, 1) := by decide +kernel
theorem dM_isGreater_74 : decode bM_isGreater 74 = .ok (.iload 4, 2) := by decide +kernel
theorem dM_isGreater_76 : decode bM_isGreater 76 = .ok (.iadd, 1) := by decide +kernel
theorem dM_isGreater_77 : decode bM_isGreater 77 = .ok (.iaload, 1) := by decide +kernel
theorem dM_isGreater_78 : decode bM_isGreater 78 = .ok (.aload_n 0, 1) := by decide +kernel
theorem dM_isGreater_79 : decode bM_isGreater 79 = .ok (.getfield 17, 3) := by decide +kernel
theorem dM_isGreater_82 : decode bM_isGreater 82 = .ok (.iconst 4, 1) := by decide +kernel
theorem dM_isGreater_83 : decode bM_isGreater 83 = .ok (.iload_n 2, 1) := by decide +kernel
theorem dM_isGreater_84 : decode bM_isGreater 84 = .ok (.imul, 1) := by decide +kernel
theorem dM_isGreater_85 : decode bM_isGreater 85 = .ok (.iload 4, 2) := by decide +kernel
theorem dM_isGreater_87 : decode bM_isGreater 87 = .ok (.iadd, 1) := by decide +kernel
theorem dM_isGreater_88 : decode bM_isGreater 88 = .ok (.iaload, 1) := by decide +kernel
theorem dM_isGreater_89 : decode bM_isGreater 89 = .ok (.isub, 1) := by decide +kernel
theorem dM_isGreater_90 : decode bM_isGreater 90 = .ok (.istore 5, 2) := by decide +kernel
theorem dM_isGreater_92 : decode bM_isGreater 92 = .ok (.iload 5, 2) := by decide +kernel
theorem dM_isGreater_94 : decode bM_isGreater 94 = .ok (.ifCond .eq 34, 3) := by decide +kernel
theorem dM_isGreater_97 : decode bM_isGreater 97 = .ok (.aload_n 0, 1) := by decide +kernel
theorem dM_isGreater_98 : decode bM_isGreater 98 = .ok (.getfield 58, 3) := by decide +kernel
theorem dM_isGreater_101 : decode bM_isGreater 101 = .ok (.ifCond .ne 16, 3) := by decide +kernel
theorem dM_isGreater_104 : decode bM_isGreater 104 = .ok (.iload 5, 2) := by decide +kernel
theorem dM_isGreater_106 : decode bM_isGreater 106 = .ok (.ifCond .ge 7, 3) := by decide +kernel
theorem dM_isGreater_109 : decode bM_isGreater 109 = .ok (.iconst 1, 1) := by decide +kernel
theorem dM_isGreater_110 : decode bM_isGreater 110 = .ok (.goto 17, 3) := by decide +kernel
theorem dM_isGreater_113 : decode bM_isGreater 113 = .ok (.iconst 0, 1) := by decide +kernel
theorem dM_isGreater_114 : decode bM_isGreater 114 = .ok (.goto 13, 3) := by decide +kernel
theorem dM_isGreater_117 : decode bM_isGreater 117 = .ok (.iload 5, 2) := by decide +kernel
theorem dM_isGreater_119 : decode bM_isGreater 119 = .ok (.ifCond .le 7, 3) := by decide +kernel
theorem dM_isGreater_122 : decode bM_isGreater 122 = .ok (.iconst 1, 1) := by decide +kernel
theorem dM_isGreater_123 : decode bM_isGreater 123 = .ok (.goto 4, 3) := by decide +kernel
theorem dM_isGreater_126 : decode bM_isGreater 126 = .ok (.iconst 0, 1) := by decide +kernel
theorem dM_isGreater_127 : decode bM_isGreater 127 = .ok (.ireturn, 1) := by decide +kernel
theorem dM_isGreater_128 : decode bM_isGreater 128 = .ok (.iinc 3 1, 3) := by decide +kernel
theorem dM_isGreater_131 : decode bM_isGreater 131 = .ok (.goto (-93), 3) := by decide +kernel
theorem dM_isGreater_134 : decode bM_isGreater 134 = .ok (.iconst 0, 1) := by decide +kernel
theorem dM_isGreater_135 : decode bM_isGreater 135 = .ok (.ireturn, 1) := by decide +kernel
theorem dM_field_0 : decode bM_field 0 = .ok (.aload_n 0, 1) := by decide +kernel
theorem dM_field_1 : decode bM_field 1 = .ok (.iload_n 1, 1) := by decide +kernel
theorem dM_field_2 : decode bM_field 2 = .ok (.invokestatic 81, 3) := by decide +kernel
theorem dM_field_5 : decode bM_field 5 = .ok (.ifCond .eq 22, 3) := by decide +kernel
theorem dM_field_8 : decode bM_field 8 = .ok (.iload_n 2, 1) := by decide +kernel
theorem dM_field_9 : decode bM_field 9 = .ok (.iconst 1, 1) := by decide +kernel
theorem dM_field_10 : decode bM_field 10 = .ok (.if_icmp .lt 17, 3) := by decide +kernel
theorem dM_field_13 : decode bM_field 13 = .ok (.iload_n 2, 1) := by decide +kernel
theorem dM_field_14 : decode bM_field 14 = .ok (.iconst 4, 1) := by decide +kernel
theorem dM_field_15 : decode bM_field 15 = .ok (.if_icmp .gt 12, 3) := by decide +kernel
theorem dM_field_18 : decode bM_field 18 = .ok (.iload_n 3, 1) := by decide +kernel
theorem dM_field_19 : decode bM_field 19 = .ok (.ifCond .lt 8, 3) := by decide +kernel
theorem dM_field_22 : decode bM_field 22 = .ok (.iload_n 3, 1) := by decide +kernel
theorem dM_field_23 : decode bM_field 23 = .ok (.iconst 1, 1) := by decide +kernel
theorem dM_field_24 : decode bM_field 24 = .ok (.if_icmp .le 7, 3) := by decide +kernel
theorem dM_field_27 : decode bM_field 27 = .ok (.iconst 1, 1) := by decide +kernel
theorem dM_field_28 : decode bM_field 28 = .ok (.goto 4, 3) := by decide +kernel
theorem dM_field_31 : decode bM_field 31 = .ok (.iconst 0, 1) := by decide +kernel
theorem dM_field_32 : decode bM_field 32 = .ok (.putfield 52, 3) := by decide +kernel
theorem dM_field_35 : decode bM_field 35 = .ok (.aload_n 0, 1) := by decide +kernel
theorem dM_field_36 : decode bM_field 36 = .ok (.getfield 52, 3) := by decide +kernel
theorem dM_field_39 : decode bM_field 39 = .ok (.ifCond .ne 10, 3) := by decide +kernel
theorem dM_field_42 : decode bM_field 42 = .ok (.aload_n 0, 1) := by decide +kernel
theorem dM_field_43 : decode bM_field 43 = .ok (.iload_n 1, 1) := by decide +kernel
theorem dM_field_44 : decode bM_field 44 = .ok (.iload_n 2, 1) := by decide +kernel
theorem dM_field_45 : decode bM_field 45 = .ok (.iload_n 3, 1) := by decide +kernel
theorem dM_field_46 : decode bM_field 46 = .ok (.invokevirtual 48, 3) := by decide +kernel
theorem dM_field_49 : decode bM_field 49 = .ok (.return_, 1) := by decide +kernel
theorem dM_modulo_0 : decode bM_modulo 0 = .ok (.lload_n 1, 1) := by decide +kernel
theorem dM_modulo_1 : decode bM_modulo 1 = .ok (.aload_n 0, 1) := by decide +kernel
theorem dM_modulo_2 : decode bM_modulo 2 = .ok (.getfield 7, 3) := by decide +kernel
theorem dM_modulo_5 : decode bM_modulo 5 = .ok (.i2l, 1) := by decide +kernel
theorem dM_modulo_6 : decode bM_modulo 6 = .ok (.lrem, 1) := by decide +kernel
theorem dM_modulo_7 : decode bM_modulo 7 = .ok (.l2i, 1) := by decide +kernel
theorem dM_modulo_8 : decode bM_modulo 8 = .ok (.istore_n 3, 1) := by decide +kernel
theorem dM_modulo_9 : decode bM_modulo 9 = .ok (.iload_n 3, 1) := by decide +kernel
theorem dM_modulo_10 : decode bM_modulo 10 = .ok (.ifCond .ge 12, 3) := by decide +kernel
theorem dM_modulo_13 : decode bM_modulo 13 = .ok (.iload_n 3, 1) := by decide +kernel
theorem dM_modulo_14 : decode bM_modulo 14 = .ok (.aload_n 0, 1) := by decide +kernel
theorem dM_modulo_15 : decode bM_modulo 15 = .ok (.getfield 7, 3) := by decide +kernel
theorem dM_modulo_18 : decode bM_modulo 18 = .ok (.iadd, 1) := by decide +kernel
theorem dM_modulo_19 : decode bM_modulo 19 = .ok (.goto 4, 3) := by decide +kernel
theorem dM_modulo_22 : decode bM_modulo 22 = .ok (.iload_n 3, 1) := by decide +kernel
theorem dM_modulo_23 : decode bM_modulo 23 = .ok (.ireturn, 1) := by decide +kernel
theorem dM_cell_0 : decode bM_cell 0 = .ok (.aload_n 0, 1) := by decide +kernel
theorem dM_cell_1 : decode bM_cell 1 = .ok (.getfield 27, 3) := by decide +kernel
theorem dM_cell_4 : decode bM_cell 4 = .ok (.sipush 1296, 3) := by decide +kernel
theorem dM_cell_7 : decode bM_cell 7 = .ok (.iload_n 1, 1) := by decide +kernel
theorem dM_cell_8 : decode bM_cell 8 = .ok (.imul, 1) := by decide +kernel
theorem dM_cell_9 : decode bM_cell 9 = .ok (.iload_n 2, 1) := by decide +kernel
theorem dM_cell_10 : decode bM_cell 10 = .ok (.iadd, 1) := by decide +kernel
theorem dM_cell_11 : decode bM_cell 11 = .ok (.iaload, 1) := by decide +kernel
theorem dM_cell_12 : decode bM_cell 12 = .ok (.ireturn, 1) := by decide +kernel
