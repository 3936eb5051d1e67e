/-! decode rows, by program -/
theorem dP_init_0 : decode bP_init 0 = .ok (.aload_n 0, 1) := by decide +kernel
theorem dP_init_1 : decode bP_init 1 = .ok (.invokespecial 3, 3) := by decide +kernel
theorem dP_init_4 : decode bP_init 4 = .ok (.aload_n 0, 1) := by decide +kernel
theorem dP_init_5 : decode bP_init 5 = .ok (.aload_n 1, 1) := by decide +kernel
theorem dP_init_6 : decode bP_init 6 = .ok (.putfield 9, 3) := by decide +kernel
theorem dP_init_9 : decode bP_init 9 = .ok (.aload_n 0, 1) := by decide +kernel
theorem dP_init_10 : decode bP_init 10 = .ok (.sipush 2268, 3) := by decide +kernel
theorem dP_init_13 : decode bP_init 13 = .ok (.newarray .char, 2) := by decide +kernel
theorem dP_init_15 : decode bP_init 15 = .ok (.putfield 17, 3) := by decide +kernel
theorem dP_init_18 : decode bP_init 18 = .ok (.return_, 1) := by decide +kernel
theorem dP_clear_0 : decode bP_clear 0 = .ok (.aload_n 0, 1) := by decide +kernel
theorem dP_clear_1 : decode bP_clear 1 = .ok (.iconst 0, 1) := by decide +kernel
theorem dP_clear_2 : decode bP_clear 2 = .ok (.putfield 21, 3) := by decide +kernel
theorem dP_clear_5 : decode bP_clear 5 = .ok (.return_, 1) := by decide +kernel
theorem dP_byteAt_0 : decode bP_byteAt 0 = .ok (.iload_n 1, 1) := by decide +kernel
theorem dP_byteAt_1 : decode bP_byteAt 1 = .ok (.ifCond .lt 20, 3) := by decide +kernel
theorem dP_byteAt_4 : decode bP_byteAt 4 = .ok (.iload_n 1, 1) := by decide +kernel
theorem dP_byteAt_5 : decode bP_byteAt 5 = .ok (.aload_n 0, 1) := by decide +kernel
theorem dP_byteAt_6 : decode bP_byteAt 6 = .ok (.getfield 21, 3) := by decide +kernel
theorem dP_byteAt_9 : decode bP_byteAt 9 = .ok (.if_icmp .ge 12, 3) := by decide +kernel
theorem dP_byteAt_12 : decode bP_byteAt 12 = .ok (.aload_n 0, 1) := by decide +kernel
theorem dP_byteAt_13 : decode bP_byteAt 13 = .ok (.getfield 17, 3) := by decide +kernel
theorem dP_byteAt_16 : decode bP_byteAt 16 = .ok (.iload_n 1, 1) := by decide +kernel
theorem dP_byteAt_17 : decode bP_byteAt 17 = .ok (.caload, 1) := by decide +kernel
theorem dP_byteAt_18 : decode bP_byteAt 18 = .ok (.goto 4, 3) := by decide +kernel
theorem dP_byteAt_21 : decode bP_byteAt 21 = .ok (.iconst (-1), 1) := by decide +kernel
theorem dP_byteAt_22 : decode bP_byteAt 22 = .ok (.ireturn, 1) := by decide +kernel
theorem dP_writePolynomial_0 : decode bP_writePolynomial 0 = .ok (.aload_n 0, 1) := by decide +kernel
theorem dP_writePolynomial_1 : decode bP_writePolynomial 1 = .ok (.invokevirtual 25, 3) := by decide +kernel
theorem dP_writePolynomial_4 : decode bP_writePolynomial 4 = .ok (.iconst 0, 1) := by decide +kernel
theorem dP_writePolynomial_5 : decode bP_writePolynomial 5 = .ok (.istore_n 2, 1) := by decide +kernel
theorem dP_writePolynomial_6 : decode bP_writePolynomial 6 = .ok (.iload_n 2, 1) := by decide +kernel
theorem dP_writePolynomial_7 : decode bP_writePolynomial 7 = .ok (.aload_n 1, 1) := by decide +kernel
theorem dP_writePolynomial_8 : decode bP_writePolynomial 8 = .ok (.arraylength, 1) := by decide +kernel
theorem dP_writePolynomial_9 : decode bP_writePolynomial 9 = .ok (.if_icmp .ge 36, 3) := by decide +kernel
theorem dP_writePolynomial_12 : decode bP_writePolynomial 12 = .ok (.aload_n 1, 1) := by decide +kernel
theorem dP_writePolynomial_13 : decode bP_writePolynomial 13 = .ok (.iload_n 2, 1) := by decide +kernel
theorem dP_writePolynomial_14 : decode bP_writePolynomial 14 = .ok (.iaload, 1) := by decide +kernel
theorem dP_writePolynomial_15 : decode bP_writePolynomial 15 = .ok (.ifCond .eq 24, 3) := by decide +kernel
theorem dP_writePolynomial_18 : decode bP_writePolynomial 18 = .ok (.aload_n 0, 1) := by decide +kernel
theorem dP_writePolynomial_19 : decode bP_writePolynomial 19 = .ok (.getfield 21, 3) := by decide +kernel
theorem dP_writePolynomial_22 : decode bP_writePolynomial 22 = .ok (.ifCond .le 9, 3) := by decide +kernel
theorem dP_writePolynomial_25 : decode bP_writePolynomial 25 = .ok (.aload_n 0, 1) := by decide +kernel
theorem dP_writePolynomial_26 : decode bP_writePolynomial 26 = .ok (.bipush 43, 2) := by decide +kernel
theorem dP_writePolynomial_28 : decode bP_writePolynomial 28 = .ok (.invokevirtual 28, 3) := by decide +kernel
theorem dP_writePolynomial_31 : decode bP_writePolynomial 31 = .ok (.aload_n 0, 1) := by decide +kernel
theorem dP_writePolynomial_32 : decode bP_writePolynomial 32 = .ok (.iload_n 2, 1) := by decide +kernel
theorem dP_writePolynomial_33 : decode bP_writePolynomial 33 = .ok (.aload_n 1, 1) := by decide +kernel
theorem dP_writePolynomial_34 : decode bP_writePolynomial 34 = .ok (.iload_n 2, 1) := by decide +kernel
theorem dP_writePolynomial_35 : decode bP_writePolynomial 35 = .ok (.iaload, 1) := by decide +kernel
theorem dP_writePolynomial_36 : decode bP_writePolynomial 36 = .ok (.invokevirtual 32, 3) := by decide +kernel
theorem dP_writePolynomial_39 : decode bP_writePolynomial 39 = .ok (.iinc 2 1, 3) := by decide +kernel
theorem dP_writePolynomial_42 : decode bP_writePolynomial 42 = .ok (.goto (-36), 3) := by decide +kernel
theorem dP_writePolynomial_45 : decode bP_writePolynomial 45 = .ok (.aload_n 0, 1) := by decide +kernel
theorem dP_writePolynomial_46 : decode bP_writePolynomial 46 = .ok (.getfield 21, 3) := by decide +kernel
theorem dP_writePolynomial_49 : decode bP_writePolynomial 49 = .ok (.ifCond .ne 9, 3) := by decide +kernel
theorem dP_writePolynomial_52 : decode bP_writePolynomial 52 = .ok (.aload_n 0, 1) := by decide +kernel
theorem dP_writePolynomial_53 : decode bP_writePolynomial 53 = .ok (.bipush 48, 2) := by decide +kernel
theorem dP_writePolynomial_55 : decode bP_writePolynomial 55 = .ok (.invokevirtual 28, 3) := by decide +kernel
theorem dP_writePolynomial_58 : decode bP_writePolynomial 58 = .ok (.aload_n 0, 1) := by decide +kernel
theorem dP_writePolynomial_59 : decode bP_writePolynomial 59 = .ok (.getfield 21, 3) := by decide +kernel
theorem dP_writePolynomial_62 : decode bP_writePolynomial 62 = .ok (.ireturn, 1) := by decide +kernel
theorem dP_writeTerm_0 : decode bP_writeTerm 0 = .ok (.aload_n 0, 1) := by decide +kernel
theorem dP_writeTerm_1 : decode bP_writeTerm 1 = .ok (.getfield 21, 3) := by decide +kernel
theorem dP_writeTerm_4 : decode bP_writeTerm 4 = .ok (.istore_n 3, 1) := by decide +kernel
theorem dP_writeTerm_5 : decode bP_writeTerm 5 = .ok (.iload_n 2, 1) := by decide +kernel
theorem dP_writeTerm_6 : decode bP_writeTerm 6 = .ok (.iconst 1, 1) := by decide +kernel
theorem dP_writeTerm_7 : decode bP_writeTerm 7 = .ok (.if_icmp .eq 8, 3) := by decide +kernel
theorem dP_writeTerm_10 : decode bP_writeTerm 10 = .ok (.aload_n 0, 1) := by decide +kernel
theorem dP_writeTerm_11 : decode bP_writeTerm 11 = .ok (.iload_n 2, 1) := by decide +kernel
theorem dP_writeTerm_12 : decode bP_writeTerm 12 = .ok (.invokevirtual 36, 3) := by decide +kernel
theorem dP_writeTerm_15 : decode bP_writeTerm 15 = .ok (.iconst 0, 1) := by decide +kernel
theorem dP_writeTerm_16 : decode bP_writeTerm 16 = .ok (.istore 4, 2) := by decide +kernel
theorem dP_writeTerm_18 : decode bP_writeTerm 18 = .ok (.iload 4, 2) := by decide +kernel
theorem dP_writeTerm_20 : decode bP_writeTerm 20 = .ok (.iconst 4, 1) := by decide +kernel
theorem dP_writeTerm_21 : decode bP_writeTerm 21 = .ok (.if_icmp .ge 69, 3) := by decide +kernel
theorem dP_writeTerm_24 : decode bP_writeTerm 24 = .ok (.aload_n 0, 1) := by decide +kernel
theorem dP_writeTerm_25 : decode bP_writeTerm 25 = .ok (.getfield 9, 3) := by decide +kernel
theorem dP_writeTerm_28 : decode bP_writeTerm 28 = .ok (.iload_n 1, 1) := by decide +kernel
theorem dP_writeTerm_29 : decode bP_writeTerm 29 = .ok (.iload 4, 2) := by decide +kernel
theorem dP_writeTerm_31 : decode bP_writeTerm 31 = .ok (.invokevirtual 40, 3) := by decide +kernel
theorem dP_writeTerm_34 : decode bP_writeTerm 34 = .ok (.istore 5, 2) := by decide +kernel
theorem dP_writeTerm_36 : decode bP_writeTerm 36 = .ok (.iload 5, 2) := by decide +kernel
theorem dP_writeTerm_38 : decode bP_writeTerm 38 = .ok (.ifCond .le 46, 3) := by decide +kernel
theorem dP_writeTerm_41 : decode bP_writeTerm 41 = .ok (.aload_n 0, 1) := by decide +kernel
theorem dP_writeTerm_42 : decode bP_writeTerm 42 = .ok (.getfield 21, 3) := by decide +kernel
theorem dP_writeTerm_45 : decode bP_writeTerm 45 = .ok (.iload_n 3, 1) := by decide +kernel
theorem dP_writeTerm_46 : decode bP_writeTerm 46 = .ok (.if_icmp .le 9, 3) := by decide +kernel
theorem dP_writeTerm_49 : decode bP_writeTerm 49 = .ok (.aload_n 0, 1) := by decide +kernel
theorem dP_writeTerm_50 : decode bP_writeTerm 50 = .ok (.bipush 42, 2) := by decide +kernel
theorem dP_writeTerm_52 : decode bP_writeTerm 52 = .ok (.invokevirtual 28, 3) := by decide +kernel
theorem dP_writeTerm_55 : decode bP_writeTerm 55 = .ok (.aload_n 0, 1) := by decide +kernel
theorem dP_writeTerm_56 : decode bP_writeTerm 56 = .ok (.ldc 44, 2) := by decide +kernel
theorem dP_writeTerm_58 : decode bP_writeTerm 58 = .ok (.iload 4, 2) := by decide +kernel
theorem dP_writeTerm_60 : decode bP_writeTerm 60 = .ok (.invokevirtual 46, 3) := by decide +kernel
theorem dP_writeTerm_63 : decode bP_writeTerm 63 = .ok (.invokevirtual 28, 3) := by decide +kernel
theorem dP_writeTerm_66 : decode bP_writeTerm 66 = .ok (.iload 5, 2) := by decide +kernel
theorem dP_writeTerm_68 : decode bP_writeTerm 68 = .ok (.iconst 1, 1) := by decide +kernel
theorem dP_writeTerm_69 : decode bP_writeTerm 69 = .ok (.if_icmp .le 15, 3) := by decide +kernel
theorem dP_writeTerm_72 : decode bP_writeTerm 72 = .ok (.aload_n 0, 1) := by decide +kernel
theorem dP_writeTerm_73 : decode bP_writeTerm 73 = .ok (.bipush 94, 2) := by decide +kernel
theorem dP_writeTerm_75 : decode bP_writeTerm 75 = .ok (.invokevirtual 28, 3) := by decide +kernel
theorem dP_writeTerm_78 : decode bP_writeTerm 78 = .ok (.aload_n 0, 1) := by decide +kernel
theorem dP_writeTerm_79 : decode bP_writeTerm 79 = .ok (.iload 5, 2) := by decide +kernel
theorem dP_writeTerm_81 : decode bP_writeTerm 81 = .ok (.invokevirtual 36, 3) := by decide +kernel
theorem dP_writeTerm_84 : decode bP_writeTerm 84 = .ok (.iinc 4 1, 3) := by decide +kernel
theorem dP_writeTerm_87 : decode bP_writeTerm 87 = .ok (.goto (-69), 3) := by decide +kernel
theorem dP_writeTerm_90 : decode bP_writeTerm 90 = .ok (.aload_n 0, 1) := by decide +kernel
theorem dP_writeTerm_91 : decode bP_writeTerm 91 = .ok (.getfield 21, 3) := by decide +kernel
theorem dP_writeTerm_94 : decode bP_writeTerm 94 = .ok (.iload_n 3, 1) := by decide +kernel
theorem dP_writeTerm_95 : decode bP_writeTerm 95 = .ok (.if_icmp .ne 9, 3) := by decide +kernel
theorem dP_writeTerm_98 : decode bP_writeTerm 98 = .ok (.aload_n 0, 1) := by decide +kernel
theorem dP_writeTerm_99 : decode bP_writeTerm 99 = .ok (.bipush 49, 2) := by decide +kernel
theorem dP_writeTerm_101 : decode bP_writeTerm 101 = .ok (.invokevirtual 28, 3) := by decide +kernel
theorem dP_writeTerm_104 : decode bP_writeTerm 104 = .ok (.return_, 1) := by decide +kernel
theorem dP_writeNumber_0 : decode bP_writeNumber 0 = .ok (.iconst 0, 1) := by decide +kernel
theorem dP_writeNumber_1 : decode bP_writeNumber 1 = .ok (.istore_n 2, 1) := by decide +kernel
theorem dP_writeNumber_2 : decode bP_writeNumber 2 = .ok (.sipush 10000, 3) := by decide +kernel
theorem dP_writeNumber_5 : decode bP_writeNumber 5 = .ok (.istore_n 3, 1) := by decide +kernel
theorem dP_writeNumber_6 : decode bP_writeNumber 6 = .ok (.iload_n 3, 1) := by decide +kernel
theorem dP_writeNumber_7 : decode bP_writeNumber 7 = .ok (.ifCond .le 53, 3) := by decide +kernel
theorem dP_writeNumber_10 : decode bP_writeNumber 10 = .ok (.iload_n 1, 1) := by decide +kernel
theorem dP_writeNumber_11 : decode bP_writeNumber 11 = .ok (.iload_n 3, 1) := by decide +kernel
theorem dP_writeNumber_12 : decode bP_writeNumber 12 = .ok (.idiv, 1) := by decide +kernel
theorem dP_writeNumber_13 : decode bP_writeNumber 13 = .ok (.bipush 10, 2) := by decide +kernel
theorem dP_writeNumber_15 : decode bP_writeNumber 15 = .ok (.irem, 1) := by decide +kernel
theorem dP_writeNumber_16 : decode bP_writeNumber 16 = .ok (.istore 4, 2) := by decide +kernel
theorem dP_writeNumber_18 : decode bP_writeNumber 18 = .ok (.iload_n 2, 1) := by decide +kernel
theorem dP_writeNumber_19 : decode bP_writeNumber 19 = .ok (.ifCond .ne 13, 3) := by decide +kernel
theorem dP_writeNumber_22 : decode bP_writeNumber 22 = .ok (.iload 4, 2) := by decide +kernel
theorem dP_writeNumber_24 : decode bP_writeNumber 24 = .ok (.ifCond .ne 8, 3) := by decide +kernel
theorem dP_writeNumber_27 : decode bP_writeNumber 27 = .ok (.iload_n 3, 1) := by decide +kernel
theorem dP_writeNumber_28 : decode bP_writeNumber 28 = .ok (.iconst 1, 1) := by decide +kernel
theorem dP_writeNumber_29 : decode bP_writeNumber 29 = .ok (.if_icmp .ne 7, 3) := by decide +kernel
theorem dP_writeNumber_32 : decode bP_writeNumber 32 = .ok (.iconst 1, 1) := by decide +kernel
theorem dP_writeNumber_33 : decode bP_writeNumber 33 = .ok (.goto 4, 3) := by decide +kernel
theorem dP_writeNumber_36 : decode bP_writeNumber 36 = .ok (.iconst 0, 1) := by decide +kernel
theorem dP_writeNumber_37 : decode bP_writeNumber 37 = .ok (.istore_n 2, 1) := by decide +kernel
theorem dP_writeNumber_38 : decode bP_writeNumber 38 = .ok (.iload_n 2, 1) := by decide +kernel
theorem dP_writeNumber_39 : decode bP_writeNumber 39 = .ok (.ifCond .eq 13, 3) := by decide +kernel
theorem dP_writeNumber_42 : decode bP_writeNumber 42 = .ok (.aload_n 0, 1) := by decide +kernel
theorem dP_writeNumber_43 : decode bP_writeNumber 43 = .ok (.bipush 48, 2) := by decide +kernel
theorem dP_writeNumber_45 : decode bP_writeNumber 45 = .ok (.iload 4, 2) := by decide +kernel
theorem dP_writeNumber_47 : decode bP_writeNumber 47 = .ok (.iadd, 1) := by decide +kernel
theorem dP_writeNumber_48 : decode bP_writeNumber 48 = .ok (.i2c, 1) := by decide +kernel
theorem dP_writeNumber_49 : decode bP_writeNumber 49 = .ok (.invokevirtual 28, 3) := by decide +kernel
theorem dP_writeNumber_52 : decode bP_writeNumber 52 = .ok (.iload_n 3, 1) := by decide +kernel
theorem dP_writeNumber_53 : decode bP_writeNumber 53 = .ok (.bipush 10, 2) := by decide +kernel
theorem dP_writeNumber_55 : decode bP_writeNumber 55 = .ok (.idiv, 1) := by decide +kernel
theorem dP_writeNumber_56 : decode bP_writeNumber 56 = .ok (.istore_n 3, 1) := by decide +kernel
theorem dP_writeNumber_57 : decode bP_writeNumber 57 = .ok (.goto (-51), 3) := by decide +kernel
theorem dP_writeNumber_60 : decode bP_writeNumber 60 = .ok (.return_, 1) := by decide +kernel
theorem dP_writeByte_0 : decode bP_writeByte 0 = .ok (.aload_n 0, 1) := by decide +kernel
theorem dP_writeByte_1 : decode bP_writeByte 1 = .ok (.getfield 21, 3) := by decide +kernel
theorem dP_writeByte_4 : decode bP_writeByte 4 = .ok (.aload_n 0, 1) := by decide +kernel
theorem dP_writeByte_5 : decode bP_writeByte 5 = .ok (.getfield 17, 3) := by decide +kernel
theorem dP_writeByte_8 : decode bP_writeByte 8 = .ok (.arraylength, 1) := by decide +kernel
theorem dP_writeByte_9 : decode bP_writeByte 9 = .ok (.if_icmp .ge 23, 3) := by decide +kernel
theorem dP_writeByte_12 : decode bP_writeByte 12 = .ok (.aload_n 0, 1) := by decide +kernel
theorem dP_writeByte_13 : decode bP_writeByte 13 = .ok (.getfield 17, 3) := by decide +kernel
theorem dP_writeByte_16 : decode bP_writeByte 16 = .ok (.aload_n 0, 1) := by decide +kernel
theorem dP_writeByte_17 : decode bP_writeByte 17 = .ok (.getfield 21, 3) := by decide +kernel
theorem dP_writeByte_20 : decode bP_writeByte 20 = .ok (.iload_n 1, 1) := by decide +kernel
theorem dP_writeByte_21 : decode bP_writeByte 21 = .ok (.castore, 1) := by decide +kernel
theorem dP_writeByte_22 : decode bP_writeByte 22 = .ok (.aload_n 0, 1) := by decide +kernel
theorem dP_writeByte_23 : decode bP_writeByte 23 = .ok (.dup, 1) := by decide +kernel
theorem dP_writeByte_24 : decode bP_writeByte 24 = .ok (.getfield 21, 3) := by decide +kernel
theorem dP_writeByte_27 : decode bP_writeByte 27 = .ok (.iconst 1, 1) := by decide +kernel
theorem dP_writeByte_28 : decode bP_writeByte 28 = .ok (.iadd, 1) := by decide +kernel
theorem dP_writeByte_29 : decode bP_writeByte 29 = .ok (.putfield 21, 3) := by decide +kernel
theorem dP_writeByte_32 : decode bP_writeByte 32 = .ok (.return_, 1) := by decide +kernel
theorem dE_readGroup_0 : decode bE_readGroup 0 = .ok (.iload_n 1, 1) := by decide +kernel
theorem dE_readGroup_1 : decode bE_readGroup 1 = .ok (.ifCond .lt 9, 3) := by decide +kernel
theorem dE_readGroup_4 : decode bE_readGroup 4 = .ok (.iload_n 1, 1) := by decide +kernel
theorem dE_readGroup_5 : decode bE_readGroup 5 = .ok (.bipush 20, 2) := by decide +kernel
theorem dE_readGroup_7 : decode bE_readGroup 7 = .ok (.if_icmp .le 13, 3) := by decide +kernel
theorem dE_readGroup_10 : decode bE_readGroup 10 = .ok (.aload_n 0, 1) := by decide +kernel
theorem dE_readGroup_11 : decode bE_readGroup 11 = .ok (.iconst 2, 1) := by decide +kernel
theorem dE_readGroup_12 : decode bE_readGroup 12 = .ok (.aload_n 0, 1) := by decide +kernel
theorem dE_readGroup_13 : decode bE_readGroup 13 = .ok (.getfield 45, 3) := by decide +kernel
theorem dE_readGroup_16 : decode bE_readGroup 16 = .ok (.invokevirtual 56, 3) := by decide +kernel
theorem dE_readGroup_19 : decode bE_readGroup 19 = .ok (.return_, 1) := by decide +kernel
theorem dE_readGroup_20 : decode bE_readGroup 20 = .ok (.aload_n 0, 1) := by decide +kernel
theorem dE_readGroup_21 : decode bE_readGroup 21 = .ok (.dup, 1) := by decide +kernel
theorem dE_readGroup_22 : decode bE_readGroup 22 = .ok (.getfield 45, 3) := by decide +kernel
theorem dE_readGroup_25 : decode bE_readGroup 25 = .ok (.iconst 1, 1) := by decide +kernel
theorem dE_readGroup_26 : decode bE_readGroup 26 = .ok (.iadd, 1) := by decide +kernel
theorem dE_readGroup_27 : decode bE_readGroup 27 = .ok (.putfield 45, 3) := by decide +kernel
theorem dE_readGroup_30 : decode bE_readGroup 30 = .ok (.aload_n 0, 1) := by decide +kernel
theorem dE_readGroup_31 : decode bE_readGroup 31 = .ok (.iload_n 1, 1) := by decide +kernel
theorem dE_readGroup_32 : decode bE_readGroup 32 = .ok (.invokevirtual 48, 3) := by decide +kernel
theorem dE_readGroup_35 : decode bE_readGroup 35 = .ok (.aload_n 0, 1) := by decide +kernel
theorem dE_readGroup_36 : decode bE_readGroup 36 = .ok (.getfield 42, 3) := by decide +kernel
theorem dE_readGroup_39 : decode bE_readGroup 39 = .ok (.ifCond .eq 4, 3) := by decide +kernel
theorem dE_readGroup_42 : decode bE_readGroup 42 = .ok (.return_, 1) := by decide +kernel
theorem dE_readGroup_43 : decode bE_readGroup 43 = .ok (.aload_n 0, 1) := by decide +kernel
theorem dE_readGroup_44 : decode bE_readGroup 44 = .ok (.invokevirtual 52, 3) := by decide +kernel
theorem dE_readGroup_47 : decode bE_readGroup 47 = .ok (.bipush 41, 2) := by decide +kernel
theorem dE_readGroup_49 : decode bE_readGroup 49 = .ok (.if_icmp .eq 13, 3) := by decide +kernel
theorem dE_readGroup_52 : decode bE_readGroup 52 = .ok (.aload_n 0, 1) := by decide +kernel
theorem dE_readGroup_53 : decode bE_readGroup 53 = .ok (.iconst 1, 1) := by decide +kernel
theorem dE_readGroup_54 : decode bE_readGroup 54 = .ok (.aload_n 0, 1) := by decide +kernel
theorem dE_readGroup_55 : decode bE_readGroup 55 = .ok (.getfield 45, 3) := by decide +kernel
theorem dE_readGroup_58 : decode bE_readGroup 58 = .ok (.invokevirtual 56, 3) := by decide +kernel
theorem dE_readGroup_61 : decode bE_readGroup 61 = .ok (.return_, 1) := by decide +kernel
theorem dE_readGroup_62 : decode bE_readGroup 62 = .ok (.aload_n 0, 1) := by decide +kernel
theorem dE_readGroup_63 : decode bE_readGroup 63 = .ok (.dup, 1) := by decide +kernel
theorem dE_readGroup_64 : decode bE_readGroup 64 = .ok (.getfield 45, 3) := by decide +kernel
theorem dE_readGroup_67 : decode bE_readGroup 67 = .ok (.iconst 1, 1) := by decide +kernel
theorem dE_readGroup_68 : decode bE_readGroup 68 = .ok (.iadd, 1) := by decide +kernel
theorem dE_readGroup_69 : decode bE_readGroup 69 = .ok (.putfield 45, 3) := by decide +kernel
theorem dE_readGroup_72 : decode bE_readGroup 72 = .ok (.aload_n 0, 1) := by decide +kernel
theorem dE_readGroup_73 : decode bE_readGroup 73 = .ok (.getfield 9, 3) := by decide +kernel
theorem dE_readGroup_76 : decode bE_readGroup 76 = .ok (.aload_n 0, 1) := by decide +kernel
theorem dE_readGroup_77 : decode bE_readGroup 77 = .ok (.getfield 27, 3) := by decide +kernel
theorem dE_readGroup_80 : decode bE_readGroup 80 = .ok (.iload_n 1, 1) := by decide +kernel
theorem dE_readGroup_81 : decode bE_readGroup 81 = .ok (.aaload, 1) := by decide +kernel
theorem dE_readGroup_82 : decode bE_readGroup 82 = .ok (.aload_n 0, 1) := by decide +kernel
theorem dE_readGroup_83 : decode bE_readGroup 83 = .ok (.getfield 33, 3) := by decide +kernel
theorem dE_readGroup_86 : decode bE_readGroup 86 = .ok (.invokevirtual 60, 3) := by decide +kernel
theorem dE_readGroup_89 : decode bE_readGroup 89 = .ok (.return_, 1) := by decide +kernel
theorem dE_readNumber_0 : decode bE_readNumber 0 = .ok (.aload_n 0, 1) := by decide +kernel
theorem dE_readNumber_1 : decode bE_readNumber 1 = .ok (.invokevirtual 52, 3) := by decide +kernel
theorem dE_readNumber_4 : decode bE_readNumber 4 = .ok (.invokestatic 110, 3) := by decide +kernel
theorem dE_readNumber_7 : decode bE_readNumber 7 = .ok (.ifCond .ne 14, 3) := by decide +kernel
theorem dE_readNumber_10 : decode bE_readNumber 10 = .ok (.aload_n 0, 1) := by decide +kernel
theorem dE_readNumber_11 : decode bE_readNumber 11 = .ok (.iconst 1, 1) := by decide +kernel
theorem dE_readNumber_12 : decode bE_readNumber 12 = .ok (.aload_n 0, 1) := by decide +kernel
theorem dE_readNumber_13 : decode bE_readNumber 13 = .ok (.getfield 45, 3) := by decide +kernel
theorem dE_readNumber_16 : decode bE_readNumber 16 = .ok (.invokevirtual 56, 3) := by decide +kernel
theorem dE_readNumber_19 : decode bE_readNumber 19 = .ok (.iconst 0, 1) := by decide +kernel
theorem dE_readNumber_20 : decode bE_readNumber 20 = .ok (.ireturn, 1) := by decide +kernel
theorem dE_readNumber_21 : decode bE_readNumber 21 = .ok (.aload_n 0, 1) := by decide +kernel
theorem dE_readNumber_22 : decode bE_readNumber 22 = .ok (.getfield 45, 3) := by decide +kernel
theorem dE_readNumber_25 : decode bE_readNumber 25 = .ok (.istore_n 2, 1) := by decide +kernel
theorem dE_readNumber_26 : decode bE_readNumber 26 = .ok (.iconst 0, 1) := by decide +kernel
theorem dE_readNumber_27 : decode bE_readNumber 27 = .ok (.istore_n 3, 1) := by decide +kernel
theorem dE_readNumber_28 : decode bE_readNumber 28 = .ok (.aload_n 0, 1) := by decide +kernel
theorem dE_readNumber_29 : decode bE_readNumber 29 = .ok (.getfield 45, 3) := by decide +kernel
theorem dE_readNumber_32 : decode bE_readNumber 32 = .ok (.aload_n 0, 1) := by decide +kernel
theorem dE_readNumber_33 : decode bE_readNumber 33 = .ok (.getfield 37, 3) := by decide +kernel
theorem dE_readNumber_36 : decode bE_readNumber 36 = .ok (.if_icmp .ge 67, 3) := by decide +kernel
theorem dE_readNumber_39 : decode bE_readNumber 39 = .ok (.aload_n 0, 1) := by decide +kernel
theorem dE_readNumber_40 : decode bE_readNumber 40 = .ok (.getfield 15, 3) := by decide +kernel
theorem dE_readNumber_43 : decode bE_readNumber 43 = .ok (.aload_n 0, 1) := by decide +kernel
theorem dE_readNumber_44 : decode bE_readNumber 44 = .ok (.getfield 45, 3) := by decide +kernel
theorem dE_readNumber_47 : decode bE_readNumber 47 = .ok (.caload, 1) := by decide +kernel
theorem dE_readNumber_48 : decode bE_readNumber 48 = .ok (.invokestatic 110, 3) := by decide +kernel
theorem dE_readNumber_51 : decode bE_readNumber 51 = .ok (.ifCond .eq 52, 3) := by decide +kernel
theorem dE_readNumber_54 : decode bE_readNumber 54 = .ok (.aload_n 0, 1) := by decide +kernel
theorem dE_readNumber_55 : decode bE_readNumber 55 = .ok (.getfield 45, 3) := by decide +kernel
theorem dE_readNumber_58 : decode bE_readNumber 58 = .ok (.iload_n 2, 1) := by decide +kernel
theorem dE_readNumber_59 : decode bE_readNumber 59 = .ok (.isub, 1) := by decide +kernel
theorem dE_readNumber_60 : decode bE_readNumber 60 = .ok (.iload_n 1, 1) := by decide +kernel
theorem dE_readNumber_61 : decode bE_readNumber 61 = .ok (.if_icmp .lt 11, 3) := by decide +kernel
theorem dE_readNumber_64 : decode bE_readNumber 64 = .ok (.aload_n 0, 1) := by decide +kernel
theorem dE_readNumber_65 : decode bE_readNumber 65 = .ok (.iconst 4, 1) := by decide +kernel
theorem dE_readNumber_66 : decode bE_readNumber 66 = .ok (.iload_n 2, 1) := by decide +kernel
theorem dE_readNumber_67 : decode bE_readNumber 67 = .ok (.invokevirtual 56, 3) := by decide +kernel
theorem dE_readNumber_70 : decode bE_readNumber 70 = .ok (.iconst 0, 1) := by decide +kernel
theorem dE_readNumber_71 : decode bE_readNumber 71 = .ok (.ireturn, 1) := by decide +kernel
theorem dE_readNumber_72 : decode bE_readNumber 72 = .ok (.iload_n 3, 1) := by decide +kernel
theorem dE_readNumber_73 : decode bE_readNumber 73 = .ok (.bipush 10, 2) := by decide +kernel
theorem dE_readNumber_75 : decode bE_readNumber 75 = .ok (.imul, 1) := by decide +kernel
theorem dE_readNumber_76 : decode bE_readNumber 76 = .ok (.aload_n 0, 1) := by decide +kernel
theorem dE_readNumber_77 : decode bE_readNumber 77 = .ok (.getfield 15, 3) := by decide +kernel
theorem dE_readNumber_80 : decode bE_readNumber 80 = .ok (.aload_n 0, 1) := by decide +kernel
theorem dE_readNumber_81 : decode bE_readNumber 81 = .ok (.getfield 45, 3) := by decide +kernel
theorem dE_readNumber_84 : decode bE_readNumber 84 = .ok (.caload, 1) := by decide +kernel
theorem dE_readNumber_85 : decode bE_readNumber 85 = .ok (.bipush 48, 2) := by decide +kernel
theorem dE_readNumber_87 : decode bE_readNumber 87 = .ok (.isub, 1) := by decide +kernel
theorem dE_readNumber_88 : decode bE_readNumber 88 = .ok (.iadd, 1) := by decide +kernel
theorem dE_readNumber_89 : decode bE_readNumber 89 = .ok (.istore_n 3, 1) := by decide +kernel
theorem dE_readNumber_90 : decode bE_readNumber 90 = .ok (.aload_n 0, 1) := by decide +kernel
theorem dE_readNumber_91 : decode bE_readNumber 91 = .ok (.dup, 1) := by decide +kernel
theorem dE_readNumber_92 : decode bE_readNumber 92 = .ok (.getfield 45, 3) := by decide +kernel
theorem dE_readNumber_95 : decode bE_readNumber 95 = .ok (.iconst 1, 1) := by decide +kernel
theorem dE_readNumber_96 : decode bE_readNumber 96 = .ok (.iadd, 1) := by decide +kernel
theorem dE_readNumber_97 : decode bE_readNumber 97 = .ok (.putfield 45, 3) := by decide +kernel
theorem dE_readNumber_100 : decode bE_readNumber 100 = .ok (.goto (-72), 3) := by decide +kernel
theorem dE_readNumber_103 : decode bE_readNumber 103 = .ok (.iload_n 3, 1) := by decide +kernel
theorem dE_readNumber_104 : decode bE_readNumber 104 = .ok (.ireturn, 1) := by decide +kernel
theorem dE_nextByte_0 : decode bE_nextByte 0 = .ok (.aload_n 0, 1) := by decide +kernel
theorem dE_nextByte_1 : decode bE_nextByte 1 = .ok (.getfield 45, 3) := by decide +kernel
theorem dE_nextByte_4 : decode bE_nextByte 4 = .ok (.aload_n 0, 1) := by decide +kernel
theorem dE_nextByte_5 : decode bE_nextByte 5 = .ok (.getfield 37, 3) := by decide +kernel
theorem dE_nextByte_8 : decode bE_nextByte 8 = .ok (.if_icmp .ge 30, 3) := by decide +kernel
theorem dE_nextByte_11 : decode bE_nextByte 11 = .ok (.aload_n 0, 1) := by decide +kernel
theorem dE_nextByte_12 : decode bE_nextByte 12 = .ok (.getfield 15, 3) := by decide +kernel
theorem dE_nextByte_15 : decode bE_nextByte 15 = .ok (.aload_n 0, 1) := by decide +kernel
theorem dE_nextByte_16 : decode bE_nextByte 16 = .ok (.getfield 45, 3) := by decide +kernel
theorem dE_nextByte_19 : decode bE_nextByte 19 = .ok (.caload, 1) := by decide +kernel
theorem dE_nextByte_20 : decode bE_nextByte 20 = .ok (.bipush 32, 2) := by decide +kernel
theorem dE_nextByte_22 : decode bE_nextByte 22 = .ok (.if_icmp .ne 16, 3) := by decide +kernel
theorem dE_nextByte_25 : decode bE_nextByte 25 = .ok (.aload_n 0, 1) := by decide +kernel
theorem dE_nextByte_26 : decode bE_nextByte 26 = .ok (.dup, 1) := by decide +kernel
theorem dE_nextByte_27 : decode bE_nextByte 27 = .ok (.getfield 45, 3) := by decide +kernel
theorem dE_nextByte_30 : decode bE_nextByte 30 = .ok (.iconst 1, 1) := by decide +kernel
theorem dE_nextByte_31 : decode bE_nextByte 31 = .ok (.iadd, 1) := by decide +kernel
theorem dE_nextByte_32 : decode bE_nextByte 32 = .ok (.putfield 45, 3) := by decide +kernel
theorem dE_nextByte_35 : decode bE_nextByte 35 = .ok (.goto (-35), 3) := by decide +kernel
theorem dE_nextByte_38 : decode bE_nextByte 38 = .ok (.aload_n 0, 1) := by decide +kernel
theorem dE_nextByte_39 : decode bE_nextByte 39 = .ok (.getfield 45, 3) := by decide +kernel
theorem dE_nextByte_42 : decode bE_nextByte 42 = .ok (.aload_n 0, 1) := by decide +kernel
theorem dE_nextByte_43 : decode bE_nextByte 43 = .ok (.getfield 37, 3) := by decide +kernel
theorem dE_nextByte_46 : decode bE_nextByte 46 = .ok (.if_icmp .ge 15, 3) := by decide +kernel
theorem dE_nextByte_49 : decode bE_nextByte 49 = .ok (.aload_n 0, 1) := by decide +kernel
theorem dE_nextByte_50 : decode bE_nextByte 50 = .ok (.getfield 15, 3) := by decide +kernel
theorem dE_nextByte_53 : decode bE_nextByte 53 = .ok (.aload_n 0, 1) := by decide +kernel
theorem dE_nextByte_54 : decode bE_nextByte 54 = .ok (.getfield 45, 3) := by decide +kernel
theorem dE_nextByte_57 : decode bE_nextByte 57 = .ok (.caload, 1) := by decide +kernel
theorem dE_nextByte_58 : decode bE_nextByte 58 = .ok (.goto 4, 3) := by decide +kernel
theorem dE_nextByte_61 : decode bE_nextByte 61 = .ok (.iconst (-1), 1) := by decide +kernel
theorem dE_nextByte_62 : decode bE_nextByte 62 = .ok (.ireturn, 1) := by decide +kernel
theorem dE_noteFault_0 : decode bE_noteFault 0 = .ok (.aload_n 0, 1) := by decide +kernel
theorem dE_noteFault_1 : decode bE_noteFault 1 = .ok (.iload_n 1, 1) := by decide +kernel
theorem dE_noteFault_2 : decode bE_noteFault 2 = .ok (.putfield 42, 3) := by decide +kernel
theorem dE_noteFault_5 : decode bE_noteFault 5 = .ok (.aload_n 0, 1) := by decide +kernel
theorem dE_noteFault_6 : decode bE_noteFault 6 = .ok (.iload_n 2, 1) := by decide +kernel
theorem dE_noteFault_7 : decode bE_noteFault 7 = .ok (.putfield 19, 3) := by decide +kernel
theorem dE_noteFault_10 : decode bE_noteFault 10 = .ok (.return_, 1) := by decide +kernel
theorem dE_isSign_0 : decode bE_isSign 0 = .ok (.iload_n 0, 1) := by decide +kernel
theorem dE_isSign_1 : decode bE_isSign 1 = .ok (.bipush 43, 2) := by decide +kernel
theorem dE_isSign_3 : decode bE_isSign 3 = .ok (.if_icmp .eq 9, 3) := by decide +kernel
theorem dE_isSign_6 : decode bE_isSign 6 = .ok (.iload_n 0, 1) := by decide +kernel
theorem dE_isSign_7 : decode bE_isSign 7 = .ok (.bipush 45, 2) := by decide +kernel
theorem dE_isSign_9 : decode bE_isSign 9 = .ok (.if_icmp .ne 7, 3) := by decide +kernel
theorem dE_isSign_12 : decode bE_isSign 12 = .ok (.iconst 1, 1) := by decide +kernel
theorem dE_isSign_13 : decode bE_isSign 13 = .ok (.goto 4, 3) := by decide +kernel
theorem dE_isSign_16 : decode bE_isSign 16 = .ok (.iconst 0, 1) := by decide +kernel
theorem dE_isSign_17 : decode bE_isSign 17 = .ok (.ireturn, 1) := by decide +kernel
theorem dE_isDigit_0 : decode bE_isDigit 0 = .ok (.iload_n 0, 1) := by decide +kernel
theorem dE_isDigit_1 : decode bE_isDigit 1 = .ok (.bipush 48, 2) := by decide +kernel
theorem dE_isDigit_3 : decode bE_isDigit 3 = .ok (.if_icmp .lt 13, 3) := by decide +kernel
theorem dE_isDigit_6 : decode bE_isDigit 6 = .ok (.iload_n 0, 1) := by decide +kernel
theorem dE_isDigit_7 : decode bE_isDigit 7 = .ok (.bipush 57, 2) := by decide +kernel
theorem dE_isDigit_9 : decode bE_isDigit 9 = .ok (.if_icmp .gt 7, 3) := by decide +kernel
theorem dE_isDigit_12 : decode bE_isDigit 12 = .ok (.iconst 1, 1) := by decide +kernel
theorem dE_isDigit_13 : decode bE_isDigit 13 = .ok (.goto 4, 3) := by decide +kernel
theorem dE_isDigit_16 : decode bE_isDigit 16 = .ok (.iconst 0, 1) := by decide +kernel
theorem dE_isDigit_17 : decode bE_isDigit 17 = .ok (.ireturn, 1) := by decide +kernel
theorem dE_variableOf_0 : decode bE_variableOf 0 = .ok (.iload_n 0, 1) := by decide +kernel
theorem dE_variableOf_1 : decode bE_variableOf 1 = .ok (.bipush 119, 2) := by decide +kernel
theorem dE_variableOf_3 : decode bE_variableOf 3 = .ok (.if_icmp .ne 5, 3) := by decide +kernel
theorem dE_variableOf_6 : decode bE_variableOf 6 = .ok (.iconst 3, 1) := by decide +kernel
theorem dE_variableOf_7 : decode bE_variableOf 7 = .ok (.ireturn, 1) := by decide +kernel
theorem dE_variableOf_8 : decode bE_variableOf 8 = .ok (.iload_n 0, 1) := by decide +kernel
theorem dE_variableOf_9 : decode bE_variableOf 9 = .ok (.bipush 120, 2) := by decide +kernel
theorem dE_variableOf_11 : decode bE_variableOf 11 = .ok (.if_icmp .lt 16, 3) := by decide +kernel
theorem dE_variableOf_14 : decode bE_variableOf 14 = .ok (.iload_n 0, 1) := by decide +kernel
theorem dE_variableOf_15 : decode bE_variableOf 15 = .ok (.bipush 122, 2) := by decide +kernel
theorem dE_variableOf_17 : decode bE_variableOf 17 = .ok (.if_icmp .gt 10, 3) := by decide +kernel
theorem dE_variableOf_20 : decode bE_variableOf 20 = .ok (.iload_n 0, 1) := by decide +kernel
theorem dE_variableOf_21 : decode bE_variableOf 21 = .ok (.bipush 120, 2) := by decide +kernel
theorem dE_variableOf_23 : decode bE_variableOf 23 = .ok (.isub, 1) := by decide +kernel
theorem dE_variableOf_24 : decode bE_variableOf 24 = .ok (.goto 4, 3) := by decide +kernel
theorem dE_variableOf_27 : decode bE_variableOf 27 = .ok (.iconst (-1), 1) := by decide +kernel
theorem dE_variableOf_28 : decode bE_variableOf 28 = .ok (.ireturn, 1) := by decide +kernel
theorem dE_init_0 : decode bE_init 0 = .ok (.aload_n 0, 1) := by decide +kernel
theorem dE_init_1 : decode bE_init 1 = .ok (.invokespecial 3, 3) := by decide +kernel
theorem dE_init_4 : decode bE_init 4 = .ok (.aload_n 0, 1) := by decide +kernel
theorem dE_init_5 : decode bE_init 5 = .ok (.aload_n 1, 1) := by decide +kernel
theorem dE_init_6 : decode bE_init 6 = .ok (.putfield 9, 3) := by decide +kernel
theorem dE_init_9 : decode bE_init 9 = .ok (.aload_n 0, 1) := by decide +kernel
theorem dE_init_10 : decode bE_init 10 = .ok (.sipush 200, 3) := by decide +kernel
theorem dE_init_13 : decode bE_init 13 = .ok (.newarray .char, 2) := by decide +kernel
theorem dE_init_15 : decode bE_init 15 = .ok (.putfield 15, 3) := by decide +kernel
theorem dE_init_18 : decode bE_init 18 = .ok (.aload_n 0, 1) := by decide +kernel
theorem dE_init_19 : decode bE_init 19 = .ok (.iconst (-1), 1) := by decide +kernel
theorem dE_init_20 : decode bE_init 20 = .ok (.putfield 19, 3) := by decide +kernel
theorem dE_init_23 : decode bE_init 23 = .ok (.aload_n 0, 1) := by decide +kernel
theorem dE_init_24 : decode bE_init 24 = .ok (.bipush 21, 2) := by decide +kernel
theorem dE_init_26 : decode bE_init 26 = .ok (.bipush 126, 2) := by decide +kernel
theorem dE_init_28 : decode bE_init 28 = .ok (.multianewarray 25 2, 4) := by decide +kernel
theorem dE_init_32 : decode bE_init 32 = .ok (.putfield 27, 3) := by decide +kernel
theorem dE_init_35 : decode bE_init 35 = .ok (.aload_n 0, 1) := by decide +kernel
theorem dE_init_36 : decode bE_init 36 = .ok (.bipush 21, 2) := by decide +kernel
theorem dE_init_38 : decode bE_init 38 = .ok (.bipush 126, 2) := by decide +kernel
theorem dE_init_40 : decode bE_init 40 = .ok (.multianewarray 25 2, 4) := by decide +kernel
theorem dE_init_44 : decode bE_init 44 = .ok (.putfield 30, 3) := by decide +kernel
theorem dE_init_47 : decode bE_init 47 = .ok (.aload_n 0, 1) := by decide +kernel
theorem dE_init_48 : decode bE_init 48 = .ok (.bipush 126, 2) := by decide +kernel
theorem dE_init_50 : decode bE_init 50 = .ok (.newarray .int, 2) := by decide +kernel
theorem dE_init_52 : decode bE_init 52 = .ok (.putfield 33, 3) := by decide +kernel
theorem dE_init_55 : decode bE_init 55 = .ok (.return_, 1) := by decide +kernel
theorem dE_takeBytes_0 : decode bE_takeBytes 0 = .ok (.iload_n 3, 1) := by decide +kernel
theorem dE_takeBytes_1 : decode bE_takeBytes 1 = .ok (.ifCond .lt 21, 3) := by decide +kernel
theorem dE_takeBytes_4 : decode bE_takeBytes 4 = .ok (.iload_n 3, 1) := by decide +kernel
theorem dE_takeBytes_5 : decode bE_takeBytes 5 = .ok (.bipush 8, 2) := by decide +kernel
theorem dE_takeBytes_7 : decode bE_takeBytes 7 = .ok (.if_icmp .gt 15, 3) := by decide +kernel
theorem dE_takeBytes_10 : decode bE_takeBytes 10 = .ok (.aload_n 0, 1) := by decide +kernel
theorem dE_takeBytes_11 : decode bE_takeBytes 11 = .ok (.getfield 37, 3) := by decide +kernel
theorem dE_takeBytes_14 : decode bE_takeBytes 14 = .ok (.iload_n 3, 1) := by decide +kernel
theorem dE_takeBytes_15 : decode bE_takeBytes 15 = .ok (.iadd, 1) := by decide +kernel
theorem dE_takeBytes_16 : decode bE_takeBytes 16 = .ok (.sipush 200, 3) := by decide +kernel
theorem dE_takeBytes_19 : decode bE_takeBytes 19 = .ok (.if_icmp .le 5, 3) := by decide +kernel
theorem dE_takeBytes_22 : decode bE_takeBytes 22 = .ok (.iconst 0, 1) := by decide +kernel
theorem dE_takeBytes_23 : decode bE_takeBytes 23 = .ok (.ireturn, 1) := by decide +kernel
theorem dE_takeBytes_24 : decode bE_takeBytes 24 = .ok (.iload_n 3, 1) := by decide +kernel
theorem dE_takeBytes_25 : decode bE_takeBytes 25 = .ok (.iconst 1, 1) := by decide +kernel
theorem dE_takeBytes_26 : decode bE_takeBytes 26 = .ok (.isub, 1) := by decide +kernel
theorem dE_takeBytes_27 : decode bE_takeBytes 27 = .ok (.istore 4, 2) := by decide +kernel
theorem dE_takeBytes_29 : decode bE_takeBytes 29 = .ok (.iload 4, 2) := by decide +kernel
theorem dE_takeBytes_31 : decode bE_takeBytes 31 = .ok (.ifCond .lt 41, 3) := by decide +kernel
theorem dE_takeBytes_34 : decode bE_takeBytes 34 = .ok (.aload_n 0, 1) := by decide +kernel
theorem dE_takeBytes_35 : decode bE_takeBytes 35 = .ok (.getfield 15, 3) := by decide +kernel
theorem dE_takeBytes_38 : decode bE_takeBytes 38 = .ok (.aload_n 0, 1) := by decide +kernel
theorem dE_takeBytes_39 : decode bE_takeBytes 39 = .ok (.getfield 37, 3) := by decide +kernel
theorem dE_takeBytes_42 : decode bE_takeBytes 42 = .ok (.lload_n 1, 1) := by decide +kernel
theorem dE_takeBytes_43 : decode bE_takeBytes 43 = .ok (.bipush 8, 2) := by decide +kernel
theorem dE_takeBytes_45 : decode bE_takeBytes 45 = .ok (.iload 4, 2) := by decide +kernel
theorem dE_takeBytes_47 : decode bE_takeBytes 47 = .ok (.imul, 1) := by decide +kernel
theorem dE_takeBytes_48 : decode bE_takeBytes 48 = .ok (.lushr, 1) := by decide +kernel
theorem dE_takeBytes_49 : decode bE_takeBytes 49 = .ok (.ldc2_w 40, 3) := by decide +kernel
theorem dE_takeBytes_52 : decode bE_takeBytes 52 = .ok (.land, 1) := by decide +kernel
theorem dE_takeBytes_53 : decode bE_takeBytes 53 = .ok (.l2i, 1) := by decide +kernel
theorem dE_takeBytes_54 : decode bE_takeBytes 54 = .ok (.i2c, 1) := by decide +kernel
theorem dE_takeBytes_55 : decode bE_takeBytes 55 = .ok (.castore, 1) := by decide +kernel
theorem dE_takeBytes_56 : decode bE_takeBytes 56 = .ok (.aload_n 0, 1) := by decide +kernel
theorem dE_takeBytes_57 : decode bE_takeBytes 57 = .ok (.dup, 1) := by decide +kernel
theorem dE_takeBytes_58 : decode bE_takeBytes 58 = .ok (.getfield 37, 3) := by decide +kernel
theorem dE_takeBytes_61 : decode bE_takeBytes 61 = .ok (.iconst 1, 1) := by decide +kernel
theorem dE_takeBytes_62 : decode bE_takeBytes 62 = .ok (.iadd, 1) := by decide +kernel
theorem dE_takeBytes_63 : decode bE_takeBytes 63 = .ok (.putfield 37, 3) := by decide +kernel
theorem dE_takeBytes_66 : decode bE_takeBytes 66 = .ok (.iinc 4 (-1), 3) := by decide +kernel
theorem dE_takeBytes_69 : decode bE_takeBytes 69 = .ok (.goto (-40), 3) := by decide +kernel
theorem dE_takeBytes_72 : decode bE_takeBytes 72 = .ok (.iconst 1, 1) := by decide +kernel
theorem dE_takeBytes_73 : decode bE_takeBytes 73 = .ok (.ireturn, 1) := by decide +kernel
theorem dE_latestFault_0 : decode bE_latestFault 0 = .ok (.aload_n 0, 1) := by decide +kernel
theorem dE_latestFault_1 : decode bE_latestFault 1 = .ok (.getfield 42, 3) := by decide +kernel
theorem dE_latestFault_4 : decode bE_latestFault 4 = .ok (.ireturn, 1) := by decide +kernel
theorem dE_latestPlace_0 : decode bE_latestPlace 0 = .ok (.aload_n 0, 1) := by decide +kernel
theorem dE_latestPlace_1 : decode bE_latestPlace 1 = .ok (.getfield 19, 3) := by decide +kernel
theorem dE_latestPlace_4 : decode bE_latestPlace 4 = .ok (.ireturn, 1) := by decide +kernel
theorem dE_readText_0 : decode bE_readText 0 = .ok (.aload_n 0, 1) := by decide +kernel
theorem dE_readText_1 : decode bE_readText 1 = .ok (.iconst 0, 1) := by decide +kernel
theorem dE_readText_2 : decode bE_readText 2 = .ok (.putfield 45, 3) := by decide +kernel
theorem dE_readText_5 : decode bE_readText 5 = .ok (.aload_n 0, 1) := by decide +kernel
theorem dE_readText_6 : decode bE_readText 6 = .ok (.iconst 0, 1) := by decide +kernel
theorem dE_readText_7 : decode bE_readText 7 = .ok (.putfield 42, 3) := by decide +kernel
theorem dE_readText_10 : decode bE_readText 10 = .ok (.aload_n 0, 1) := by decide +kernel
theorem dE_readText_11 : decode bE_readText 11 = .ok (.iconst (-1), 1) := by decide +kernel
theorem dE_readText_12 : decode bE_readText 12 = .ok (.putfield 19, 3) := by decide +kernel
theorem dE_readText_15 : decode bE_readText 15 = .ok (.aload_n 0, 1) := by decide +kernel
theorem dE_readText_16 : decode bE_readText 16 = .ok (.iconst 0, 1) := by decide +kernel
theorem dE_readText_17 : decode bE_readText 17 = .ok (.invokevirtual 48, 3) := by decide +kernel
theorem dE_readText_20 : decode bE_readText 20 = .ok (.aload_n 0, 1) := by decide +kernel
theorem dE_readText_21 : decode bE_readText 21 = .ok (.getfield 42, 3) := by decide +kernel
theorem dE_readText_24 : decode bE_readText 24 = .ok (.ifCond .ne 20, 3) := by decide +kernel
theorem dE_readText_27 : decode bE_readText 27 = .ok (.aload_n 0, 1) := by decide +kernel
theorem dE_readText_28 : decode bE_readText 28 = .ok (.invokevirtual 52, 3) := by decide +kernel
theorem dE_readText_31 : decode bE_readText 31 = .ok (.iconst (-1), 1) := by decide +kernel
theorem dE_readText_32 : decode bE_readText 32 = .ok (.if_icmp .eq 12, 3) := by decide +kernel
theorem dE_readText_35 : decode bE_readText 35 = .ok (.aload_n 0, 1) := by decide +kernel
theorem dE_readText_36 : decode bE_readText 36 = .ok (.iconst 1, 1) := by decide +kernel
theorem dE_readText_37 : decode bE_readText 37 = .ok (.aload_n 0, 1) := by decide +kernel
theorem dE_readText_38 : decode bE_readText 38 = .ok (.getfield 45, 3) := by decide +kernel
theorem dE_readText_41 : decode bE_readText 41 = .ok (.invokevirtual 56, 3) := by decide +kernel
theorem dE_readText_44 : decode bE_readText 44 = .ok (.aload_n 0, 1) := by decide +kernel
theorem dE_readText_45 : decode bE_readText 45 = .ok (.iconst 0, 1) := by decide +kernel
theorem dE_readText_46 : decode bE_readText 46 = .ok (.putfield 37, 3) := by decide +kernel
theorem dE_readText_49 : decode bE_readText 49 = .ok (.aload_n 0, 1) := by decide +kernel
theorem dE_readText_50 : decode bE_readText 50 = .ok (.getfield 42, 3) := by decide +kernel
theorem dE_readText_53 : decode bE_readText 53 = .ok (.ifCond .eq 5, 3) := by decide +kernel
theorem dE_readText_56 : decode bE_readText 56 = .ok (.iconst 0, 1) := by decide +kernel
theorem dE_readText_57 : decode bE_readText 57 = .ok (.ireturn, 1) := by decide +kernel
theorem dE_readText_58 : decode bE_readText 58 = .ok (.aload_n 0, 1) := by decide +kernel
theorem dE_readText_59 : decode bE_readText 59 = .ok (.getfield 9, 3) := by decide +kernel
theorem dE_readText_62 : decode bE_readText 62 = .ok (.aload_n 0, 1) := by decide +kernel
theorem dE_readText_63 : decode bE_readText 63 = .ok (.getfield 27, 3) := by decide +kernel
theorem dE_readText_66 : decode bE_readText 66 = .ok (.iconst 0, 1) := by decide +kernel
theorem dE_readText_67 : decode bE_readText 67 = .ok (.aaload, 1) := by decide +kernel
theorem dE_readText_68 : decode bE_readText 68 = .ok (.aload_n 1, 1) := by decide +kernel
theorem dE_readText_69 : decode bE_readText 69 = .ok (.invokevirtual 60, 3) := by decide +kernel
theorem dE_readText_72 : decode bE_readText 72 = .ok (.iconst 1, 1) := by decide +kernel
theorem dE_readText_73 : decode bE_readText 73 = .ok (.ireturn, 1) := by decide +kernel
theorem dE_readSum_0 : decode bE_readSum 0 = .ok (.iload_n 1, 1) := by decide +kernel
theorem dE_readSum_1 : decode bE_readSum 1 = .ok (.ifCond .lt 9, 3) := by decide +kernel
theorem dE_readSum_4 : decode bE_readSum 4 = .ok (.iload_n 1, 1) := by decide +kernel
theorem dE_readSum_5 : decode bE_readSum 5 = .ok (.bipush 20, 2) := by decide +kernel
theorem dE_readSum_7 : decode bE_readSum 7 = .ok (.if_icmp .le 4, 3) := by decide +kernel
theorem dE_readSum_10 : decode bE_readSum 10 = .ok (.return_, 1) := by decide +kernel
theorem dE_readSum_11 : decode bE_readSum 11 = .ok (.aload_n 0, 1) := by decide +kernel
theorem dE_readSum_12 : decode bE_readSum 12 = .ok (.getfield 27, 3) := by decide +kernel
theorem dE_readSum_15 : decode bE_readSum 15 = .ok (.iload_n 1, 1) := by decide +kernel
theorem dE_readSum_16 : decode bE_readSum 16 = .ok (.aaload, 1) := by decide +kernel
theorem dE_readSum_17 : decode bE_readSum 17 = .ok (.astore_n 2, 1) := by decide +kernel
theorem dE_readSum_18 : decode bE_readSum 18 = .ok (.aload_n 2, 1) := by decide +kernel
theorem dE_readSum_19 : decode bE_readSum 19 = .ok (.iconst 0, 1) := by decide +kernel
theorem dE_readSum_20 : decode bE_readSum 20 = .ok (.invokestatic 64, 3) := by decide +kernel
theorem dE_readSum_23 : decode bE_readSum 23 = .ok (.iconst 1, 1) := by decide +kernel
theorem dE_readSum_24 : decode bE_readSum 24 = .ok (.istore_n 3, 1) := by decide +kernel
theorem dE_readSum_25 : decode bE_readSum 25 = .ok (.aload_n 0, 1) := by decide +kernel
theorem dE_readSum_26 : decode bE_readSum 26 = .ok (.invokevirtual 52, 3) := by decide +kernel
theorem dE_readSum_29 : decode bE_readSum 29 = .ok (.bipush 45, 2) := by decide +kernel
theorem dE_readSum_31 : decode bE_readSum 31 = .ok (.if_icmp .ne 15, 3) := by decide +kernel
theorem dE_readSum_34 : decode bE_readSum 34 = .ok (.iconst (-1), 1) := by decide +kernel
theorem dE_readSum_35 : decode bE_readSum 35 = .ok (.istore_n 3, 1) := by decide +kernel
theorem dE_readSum_36 : decode bE_readSum 36 = .ok (.aload_n 0, 1) := by decide +kernel
theorem dE_readSum_37 : decode bE_readSum 37 = .ok (.dup, 1) := by decide +kernel
theorem dE_readSum_38 : decode bE_readSum 38 = .ok (.getfield 45, 3) := by decide +kernel
theorem dE_readSum_41 : decode bE_readSum 41 = .ok (.iconst 1, 1) := by decide +kernel
theorem dE_readSum_42 : decode bE_readSum 42 = .ok (.iadd, 1) := by decide +kernel
theorem dE_readSum_43 : decode bE_readSum 43 = .ok (.putfield 45, 3) := by decide +kernel
theorem dE_readSum_46 : decode bE_readSum 46 = .ok (.aload_n 0, 1) := by decide +kernel
theorem dE_readSum_47 : decode bE_readSum 47 = .ok (.iload_n 1, 1) := by decide +kernel
theorem dE_readSum_48 : decode bE_readSum 48 = .ok (.invokevirtual 70, 3) := by decide +kernel
theorem dE_readSum_51 : decode bE_readSum 51 = .ok (.aload_n 0, 1) := by decide +kernel
theorem dE_readSum_52 : decode bE_readSum 52 = .ok (.getfield 9, 3) := by decide +kernel
theorem dE_readSum_55 : decode bE_readSum 55 = .ok (.aload_n 2, 1) := by decide +kernel
theorem dE_readSum_56 : decode bE_readSum 56 = .ok (.iload_n 3, 1) := by decide +kernel
theorem dE_readSum_57 : decode bE_readSum 57 = .ok (.aload_n 0, 1) := by decide +kernel
theorem dE_readSum_58 : decode bE_readSum 58 = .ok (.getfield 30, 3) := by decide +kernel
theorem dE_readSum_61 : decode bE_readSum 61 = .ok (.iload_n 1, 1) := by decide +kernel
theorem dE_readSum_62 : decode bE_readSum 62 = .ok (.aaload, 1) := by decide +kernel
theorem dE_readSum_63 : decode bE_readSum 63 = .ok (.aload_n 2, 1) := by decide +kernel
theorem dE_readSum_64 : decode bE_readSum 64 = .ok (.invokevirtual 73, 3) := by decide +kernel
theorem dE_readSum_67 : decode bE_readSum 67 = .ok (.iconst 1, 1) := by decide +kernel
theorem dE_readSum_68 : decode bE_readSum 68 = .ok (.istore 4, 2) := by decide +kernel
theorem dE_readSum_70 : decode bE_readSum 70 = .ok (.iload 4, 2) := by decide +kernel
theorem dE_readSum_72 : decode bE_readSum 72 = .ok (.sipush 200, 3) := by decide +kernel
theorem dE_readSum_75 : decode bE_readSum 75 = .ok (.if_icmp .ge 72, 3) := by decide +kernel
theorem dE_readSum_78 : decode bE_readSum 78 = .ok (.aload_n 0, 1) := by decide +kernel
theorem dE_readSum_79 : decode bE_readSum 79 = .ok (.getfield 42, 3) := by decide +kernel
theorem dE_readSum_82 : decode bE_readSum 82 = .ok (.ifCond .ne 65, 3) := by decide +kernel
theorem dE_readSum_85 : decode bE_readSum 85 = .ok (.aload_n 0, 1) := by decide +kernel
theorem dE_readSum_86 : decode bE_readSum 86 = .ok (.invokevirtual 52, 3) := by decide +kernel
theorem dE_readSum_89 : decode bE_readSum 89 = .ok (.invokestatic 77, 3) := by decide +kernel
theorem dE_readSum_92 : decode bE_readSum 92 = .ok (.ifCond .eq 55, 3) := by decide +kernel
theorem dE_readSum_95 : decode bE_readSum 95 = .ok (.aload_n 0, 1) := by decide +kernel
theorem dE_readSum_96 : decode bE_readSum 96 = .ok (.invokevirtual 52, 3) := by decide +kernel
theorem dE_readSum_99 : decode bE_readSum 99 = .ok (.bipush 45, 2) := by decide +kernel
theorem dE_readSum_101 : decode bE_readSum 101 = .ok (.if_icmp .ne 7, 3) := by decide +kernel
theorem dE_readSum_104 : decode bE_readSum 104 = .ok (.iconst (-1), 1) := by decide +kernel
theorem dE_readSum_105 : decode bE_readSum 105 = .ok (.goto 4, 3) := by decide +kernel
theorem dE_readSum_108 : decode bE_readSum 108 = .ok (.iconst 1, 1) := by decide +kernel
theorem dE_readSum_109 : decode bE_readSum 109 = .ok (.istore_n 3, 1) := by decide +kernel
theorem dE_readSum_110 : decode bE_readSum 110 = .ok (.aload_n 0, 1) := by decide +kernel
theorem dE_readSum_111 : decode bE_readSum 111 = .ok (.dup, 1) := by decide +kernel
theorem dE_readSum_112 : decode bE_readSum 112 = .ok (.getfield 45, 3) := by decide +kernel
theorem dE_readSum_115 : decode bE_readSum 115 = .ok (.iconst 1, 1) := by decide +kernel
theorem dE_readSum_116 : decode bE_readSum 116 = .ok (.iadd, 1) := by decide +kernel
theorem dE_readSum_117 : decode bE_readSum 117 = .ok (.putfield 45, 3) := by decide +kernel
theorem dE_readSum_120 : decode bE_readSum 120 = .ok (.aload_n 0, 1) := by decide +kernel
theorem dE_readSum_121 : decode bE_readSum 121 = .ok (.iload_n 1, 1) := by decide +kernel
theorem dE_readSum_122 : decode bE_readSum 122 = .ok (.invokevirtual 70, 3) := by decide +kernel
theorem dE_readSum_125 : decode bE_readSum 125 = .ok (.aload_n 0, 1) := by decide +kernel
theorem dE_readSum_126 : decode bE_readSum 126 = .ok (.getfield 9, 3) := by decide +kernel
theorem dE_readSum_129 : decode bE_readSum 129 = .ok (.aload_n 2, 1) := by decide +kernel
theorem dE_readSum_130 : decode bE_readSum 130 = .ok (.iload_n 3, 1) := by decide +kernel
theorem dE_readSum_131 : decode bE_readSum 131 = .ok (.aload_n 0, 1) := by decide +kernel
theorem dE_readSum_132 : decode bE_readSum 132 = .ok (.getfield 30, 3) := by decide +kernel
theorem dE_readSum_135 : decode bE_readSum 135 = .ok (.iload_n 1, 1) := by decide +kernel
theorem dE_readSum_136 : decode bE_readSum 136 = .ok (.aaload, 1) := by decide +kernel
theorem dE_readSum_137 : decode bE_readSum 137 = .ok (.aload_n 2, 1) := by decide +kernel
theorem dE_readSum_138 : decode bE_readSum 138 = .ok (.invokevirtual 73, 3) := by decide +kernel
theorem dE_readSum_141 : decode bE_readSum 141 = .ok (.iinc 4 1, 3) := by decide +kernel
theorem dE_readSum_144 : decode bE_readSum 144 = .ok (.goto (-74), 3) := by decide +kernel
theorem dE_readSum_147 : decode bE_readSum 147 = .ok (.return_, 1) := by decide +kernel
theorem dE_readTerm_0 : decode bE_readTerm 0 = .ok (.iload_n 1, 1) := by decide +kernel
theorem dE_readTerm_1 : decode bE_readTerm 1 = .ok (.ifCond .lt 9, 3) := by decide +kernel
theorem dE_readTerm_4 : decode bE_readTerm 4 = .ok (.iload_n 1, 1) := by decide +kernel
theorem dE_readTerm_5 : decode bE_readTerm 5 = .ok (.bipush 20, 2) := by decide +kernel
theorem dE_readTerm_7 : decode bE_readTerm 7 = .ok (.if_icmp .le 4, 3) := by decide +kernel
theorem dE_readTerm_10 : decode bE_readTerm 10 = .ok (.return_, 1) := by decide +kernel
theorem dE_readTerm_11 : decode bE_readTerm 11 = .ok (.aload_n 0, 1) := by decide +kernel
theorem dE_readTerm_12 : decode bE_readTerm 12 = .ok (.getfield 30, 3) := by decide +kernel
theorem dE_readTerm_15 : decode bE_readTerm 15 = .ok (.iload_n 1, 1) := by decide +kernel
theorem dE_readTerm_16 : decode bE_readTerm 16 = .ok (.aaload, 1) := by decide +kernel
theorem dE_readTerm_17 : decode bE_readTerm 17 = .ok (.astore_n 2, 1) := by decide +kernel
theorem dE_readTerm_18 : decode bE_readTerm 18 = .ok (.aload_n 0, 1) := by decide +kernel
theorem dE_readTerm_19 : decode bE_readTerm 19 = .ok (.iload_n 1, 1) := by decide +kernel
theorem dE_readTerm_20 : decode bE_readTerm 20 = .ok (.invokevirtual 81, 3) := by decide +kernel
theorem dE_readTerm_23 : decode bE_readTerm 23 = .ok (.aload_n 0, 1) := by decide +kernel
theorem dE_readTerm_24 : decode bE_readTerm 24 = .ok (.getfield 9, 3) := by decide +kernel
theorem dE_readTerm_27 : decode bE_readTerm 27 = .ok (.aload_n 0, 1) := by decide +kernel
theorem dE_readTerm_28 : decode bE_readTerm 28 = .ok (.getfield 33, 3) := by decide +kernel
theorem dE_readTerm_31 : decode bE_readTerm 31 = .ok (.aload_n 2, 1) := by decide +kernel
theorem dE_readTerm_32 : decode bE_readTerm 32 = .ok (.invokevirtual 60, 3) := by decide +kernel
theorem dE_readTerm_35 : decode bE_readTerm 35 = .ok (.iconst 1, 1) := by decide +kernel
theorem dE_readTerm_36 : decode bE_readTerm 36 = .ok (.istore_n 3, 1) := by decide +kernel
theorem dE_readTerm_37 : decode bE_readTerm 37 = .ok (.iload_n 3, 1) := by decide +kernel
theorem dE_readTerm_38 : decode bE_readTerm 38 = .ok (.sipush 200, 3) := by decide +kernel
theorem dE_readTerm_41 : decode bE_readTerm 41 = .ok (.if_icmp .ge 95, 3) := by decide +kernel
theorem dE_readTerm_44 : decode bE_readTerm 44 = .ok (.aload_n 0, 1) := by decide +kernel
theorem dE_readTerm_45 : decode bE_readTerm 45 = .ok (.getfield 42, 3) := by decide +kernel
theorem dE_readTerm_48 : decode bE_readTerm 48 = .ok (.ifCond .ne 88, 3) := by decide +kernel
theorem dE_readTerm_51 : decode bE_readTerm 51 = .ok (.aload_n 0, 1) := by decide +kernel
theorem dE_readTerm_52 : decode bE_readTerm 52 = .ok (.invokevirtual 52, 3) := by decide +kernel
theorem dE_readTerm_55 : decode bE_readTerm 55 = .ok (.bipush 42, 2) := by decide +kernel
theorem dE_readTerm_57 : decode bE_readTerm 57 = .ok (.if_icmp .ne 79, 3) := by decide +kernel
theorem dE_readTerm_60 : decode bE_readTerm 60 = .ok (.aload_n 0, 1) := by decide +kernel
theorem dE_readTerm_61 : decode bE_readTerm 61 = .ok (.getfield 45, 3) := by decide +kernel
theorem dE_readTerm_64 : decode bE_readTerm 64 = .ok (.istore 4, 2) := by decide +kernel
theorem dE_readTerm_66 : decode bE_readTerm 66 = .ok (.aload_n 0, 1) := by decide +kernel
theorem dE_readTerm_67 : decode bE_readTerm 67 = .ok (.dup, 1) := by decide +kernel
theorem dE_readTerm_68 : decode bE_readTerm 68 = .ok (.getfield 45, 3) := by decide +kernel
theorem dE_readTerm_71 : decode bE_readTerm 71 = .ok (.iconst 1, 1) := by decide +kernel
theorem dE_readTerm_72 : decode bE_readTerm 72 = .ok (.iadd, 1) := by decide +kernel
theorem dE_readTerm_73 : decode bE_readTerm 73 = .ok (.putfield 45, 3) := by decide +kernel
theorem dE_readTerm_76 : decode bE_readTerm 76 = .ok (.aload_n 0, 1) := by decide +kernel
theorem dE_readTerm_77 : decode bE_readTerm 77 = .ok (.iload_n 1, 1) := by decide +kernel
theorem dE_readTerm_78 : decode bE_readTerm 78 = .ok (.invokevirtual 81, 3) := by decide +kernel
theorem dE_readTerm_81 : decode bE_readTerm 81 = .ok (.aload_n 0, 1) := by decide +kernel
theorem dE_readTerm_82 : decode bE_readTerm 82 = .ok (.getfield 42, 3) := by decide +kernel
theorem dE_readTerm_85 : decode bE_readTerm 85 = .ok (.ifCond .ne 25, 3) := by decide +kernel
theorem dE_readTerm_88 : decode bE_readTerm 88 = .ok (.aload_n 0, 1) := by decide +kernel
theorem dE_readTerm_89 : decode bE_readTerm 89 = .ok (.getfield 9, 3) := by decide +kernel
theorem dE_readTerm_92 : decode bE_readTerm 92 = .ok (.aload_n 2, 1) := by decide +kernel
theorem dE_readTerm_93 : decode bE_readTerm 93 = .ok (.aload_n 0, 1) := by decide +kernel
theorem dE_readTerm_94 : decode bE_readTerm 94 = .ok (.getfield 33, 3) := by decide +kernel
theorem dE_readTerm_97 : decode bE_readTerm 97 = .ok (.invokevirtual 84, 3) := by decide +kernel
theorem dE_readTerm_100 : decode bE_readTerm 100 = .ok (.ifCond .eq 10, 3) := by decide +kernel
theorem dE_readTerm_103 : decode bE_readTerm 103 = .ok (.aload_n 0, 1) := by decide +kernel
theorem dE_readTerm_104 : decode bE_readTerm 104 = .ok (.iconst 3, 1) := by decide +kernel
theorem dE_readTerm_105 : decode bE_readTerm 105 = .ok (.iload 4, 2) := by decide +kernel
theorem dE_readTerm_107 : decode bE_readTerm 107 = .ok (.invokevirtual 56, 3) := by decide +kernel
theorem dE_readTerm_110 : decode bE_readTerm 110 = .ok (.aload_n 0, 1) := by decide +kernel
theorem dE_readTerm_111 : decode bE_readTerm 111 = .ok (.getfield 42, 3) := by decide +kernel
theorem dE_readTerm_114 : decode bE_readTerm 114 = .ok (.ifCond .ne 16, 3) := by decide +kernel
theorem dE_readTerm_117 : decode bE_readTerm 117 = .ok (.aload_n 0, 1) := by decide +kernel
theorem dE_readTerm_118 : decode bE_readTerm 118 = .ok (.getfield 9, 3) := by decide +kernel
theorem dE_readTerm_121 : decode bE_readTerm 121 = .ok (.aload_n 2, 1) := by decide +kernel
theorem dE_readTerm_122 : decode bE_readTerm 122 = .ok (.aload_n 0, 1) := by decide +kernel
theorem dE_readTerm_123 : decode bE_readTerm 123 = .ok (.getfield 33, 3) := by decide +kernel
theorem dE_readTerm_126 : decode bE_readTerm 126 = .ok (.aload_n 2, 1) := by decide +kernel
theorem dE_readTerm_127 : decode bE_readTerm 127 = .ok (.invokevirtual 88, 3) := by decide +kernel
theorem dE_readTerm_130 : decode bE_readTerm 130 = .ok (.iinc 3 1, 3) := by decide +kernel
theorem dE_readTerm_133 : decode bE_readTerm 133 = .ok (.goto (-96), 3) := by decide +kernel
theorem dE_readTerm_136 : decode bE_readTerm 136 = .ok (.return_, 1) := by decide +kernel
theorem dE_readFactor_0 : decode bE_readFactor 0 = .ok (.aload_n 0, 1) := by decide +kernel
theorem dE_readFactor_1 : decode bE_readFactor 1 = .ok (.iload_n 1, 1) := by decide +kernel
theorem dE_readFactor_2 : decode bE_readFactor 2 = .ok (.invokevirtual 92, 3) := by decide +kernel
theorem dE_readFactor_5 : decode bE_readFactor 5 = .ok (.aload_n 0, 1) := by decide +kernel
theorem dE_readFactor_6 : decode bE_readFactor 6 = .ok (.getfield 42, 3) := by decide +kernel
theorem dE_readFactor_9 : decode bE_readFactor 9 = .ok (.ifCond .ne 12, 3) := by decide +kernel
theorem dE_readFactor_12 : decode bE_readFactor 12 = .ok (.aload_n 0, 1) := by decide +kernel
theorem dE_readFactor_13 : decode bE_readFactor 13 = .ok (.invokevirtual 52, 3) := by decide +kernel
theorem dE_readFactor_16 : decode bE_readFactor 16 = .ok (.bipush 94, 2) := by decide +kernel
theorem dE_readFactor_18 : decode bE_readFactor 18 = .ok (.if_icmp .eq 4, 3) := by decide +kernel
theorem dE_readFactor_21 : decode bE_readFactor 21 = .ok (.return_, 1) := by decide +kernel
theorem dE_readFactor_22 : decode bE_readFactor 22 = .ok (.aload_n 0, 1) := by decide +kernel
theorem dE_readFactor_23 : decode bE_readFactor 23 = .ok (.getfield 45, 3) := by decide +kernel
theorem dE_readFactor_26 : decode bE_readFactor 26 = .ok (.istore_n 2, 1) := by decide +kernel
theorem dE_readFactor_27 : decode bE_readFactor 27 = .ok (.aload_n 0, 1) := by decide +kernel
theorem dE_readFactor_28 : decode bE_readFactor 28 = .ok (.dup, 1) := by decide +kernel
theorem dE_readFactor_29 : decode bE_readFactor 29 = .ok (.getfield 45, 3) := by decide +kernel
theorem dE_readFactor_32 : decode bE_readFactor 32 = .ok (.iconst 1, 1) := by decide +kernel
theorem dE_readFactor_33 : decode bE_readFactor 33 = .ok (.iadd, 1) := by decide +kernel
theorem dE_readFactor_34 : decode bE_readFactor 34 = .ok (.putfield 45, 3) := by decide +kernel
theorem dE_readFactor_37 : decode bE_readFactor 37 = .ok (.aload_n 0, 1) := by decide +kernel
theorem dE_readFactor_38 : decode bE_readFactor 38 = .ok (.iconst 2, 1) := by decide +kernel
theorem dE_readFactor_39 : decode bE_readFactor 39 = .ok (.invokevirtual 95, 3) := by decide +kernel
theorem dE_readFactor_42 : decode bE_readFactor 42 = .ok (.istore_n 3, 1) := by decide +kernel
theorem dE_readFactor_43 : decode bE_readFactor 43 = .ok (.aload_n 0, 1) := by decide +kernel
theorem dE_readFactor_44 : decode bE_readFactor 44 = .ok (.getfield 42, 3) := by decide +kernel
theorem dE_readFactor_47 : decode bE_readFactor 47 = .ok (.ifCond .ne 24, 3) := by decide +kernel
theorem dE_readFactor_50 : decode bE_readFactor 50 = .ok (.aload_n 0, 1) := by decide +kernel
theorem dE_readFactor_51 : decode bE_readFactor 51 = .ok (.getfield 9, 3) := by decide +kernel
theorem dE_readFactor_54 : decode bE_readFactor 54 = .ok (.aload_n 0, 1) := by decide +kernel
theorem dE_readFactor_55 : decode bE_readFactor 55 = .ok (.getfield 33, 3) := by decide +kernel
theorem dE_readFactor_58 : decode bE_readFactor 58 = .ok (.iload_n 3, 1) := by decide +kernel
theorem dE_readFactor_59 : decode bE_readFactor 59 = .ok (.invokevirtual 99, 3) := by decide +kernel
theorem dE_readFactor_62 : decode bE_readFactor 62 = .ok (.ifCond .eq 9, 3) := by decide +kernel
theorem dE_readFactor_65 : decode bE_readFactor 65 = .ok (.aload_n 0, 1) := by decide +kernel
theorem dE_readFactor_66 : decode bE_readFactor 66 = .ok (.iconst 3, 1) := by decide +kernel
theorem dE_readFactor_67 : decode bE_readFactor 67 = .ok (.iload_n 2, 1) := by decide +kernel
theorem dE_readFactor_68 : decode bE_readFactor 68 = .ok (.invokevirtual 56, 3) := by decide +kernel
theorem dE_readFactor_71 : decode bE_readFactor 71 = .ok (.aload_n 0, 1) := by decide +kernel
theorem dE_readFactor_72 : decode bE_readFactor 72 = .ok (.getfield 42, 3) := by decide +kernel
theorem dE_readFactor_75 : decode bE_readFactor 75 = .ok (.ifCond .ne 19, 3) := by decide +kernel
theorem dE_readFactor_78 : decode bE_readFactor 78 = .ok (.aload_n 0, 1) := by decide +kernel
theorem dE_readFactor_79 : decode bE_readFactor 79 = .ok (.getfield 9, 3) := by decide +kernel
theorem dE_readFactor_82 : decode bE_readFactor 82 = .ok (.aload_n 0, 1) := by decide +kernel
theorem dE_readFactor_83 : decode bE_readFactor 83 = .ok (.getfield 33, 3) := by decide +kernel
theorem dE_readFactor_86 : decode bE_readFactor 86 = .ok (.iload_n 3, 1) := by decide +kernel
theorem dE_readFactor_87 : decode bE_readFactor 87 = .ok (.aload_n 0, 1) := by decide +kernel
theorem dE_readFactor_88 : decode bE_readFactor 88 = .ok (.getfield 33, 3) := by decide +kernel
theorem dE_readFactor_91 : decode bE_readFactor 91 = .ok (.invokevirtual 103, 3) := by decide +kernel
theorem dE_readFactor_94 : decode bE_readFactor 94 = .ok (.return_, 1) := by decide +kernel
theorem dE_readBareFactor_0 : decode bE_readBareFactor 0 = .ok (.aload_n 0, 1) := by decide +kernel
theorem dE_readBareFactor_1 : decode bE_readBareFactor 1 = .ok (.invokevirtual 52, 3) := by decide +kernel
theorem dE_readBareFactor_4 : decode bE_readBareFactor 4 = .ok (.istore_n 2, 1) := by decide +kernel
theorem dE_readBareFactor_5 : decode bE_readBareFactor 5 = .ok (.iload_n 2, 1) := by decide +kernel
theorem dE_readBareFactor_6 : decode bE_readBareFactor 6 = .ok (.invokestatic 107, 3) := by decide +kernel
theorem dE_readBareFactor_9 : decode bE_readBareFactor 9 = .ok (.istore_n 3, 1) := by decide +kernel
theorem dE_readBareFactor_10 : decode bE_readBareFactor 10 = .ok (.iload_n 2, 1) := by decide +kernel
theorem dE_readBareFactor_11 : decode bE_readBareFactor 11 = .ok (.invokestatic 110, 3) := by decide +kernel
theorem dE_readBareFactor_14 : decode bE_readBareFactor 14 = .ok (.ifCond .eq 23, 3) := by decide +kernel
theorem dE_readBareFactor_17 : decode bE_readBareFactor 17 = .ok (.aload_n 0, 1) := by decide +kernel
theorem dE_readBareFactor_18 : decode bE_readBareFactor 18 = .ok (.getfield 9, 3) := by decide +kernel
theorem dE_readBareFactor_21 : decode bE_readBareFactor 21 = .ok (.aload_n 0, 1) := by decide +kernel
theorem dE_readBareFactor_22 : decode bE_readBareFactor 22 = .ok (.bipush 9, 2) := by decide +kernel
theorem dE_readBareFactor_24 : decode bE_readBareFactor 24 = .ok (.invokevirtual 95, 3) := by decide +kernel
theorem dE_readBareFactor_27 : decode bE_readBareFactor 27 = .ok (.aload_n 0, 1) := by decide +kernel
theorem dE_readBareFactor_28 : decode bE_readBareFactor 28 = .ok (.getfield 33, 3) := by decide +kernel
theorem dE_readBareFactor_31 : decode bE_readBareFactor 31 = .ok (.invokevirtual 113, 3) := by decide +kernel
theorem dE_readBareFactor_34 : decode bE_readBareFactor 34 = .ok (.goto 68, 3) := by decide +kernel
theorem dE_readBareFactor_37 : decode bE_readBareFactor 37 = .ok (.iload_n 3, 1) := by decide +kernel
theorem dE_readBareFactor_38 : decode bE_readBareFactor 38 = .ok (.ifCond .lt 39, 3) := by decide +kernel
theorem dE_readBareFactor_41 : decode bE_readBareFactor 41 = .ok (.iload_n 3, 1) := by decide +kernel
theorem dE_readBareFactor_42 : decode bE_readBareFactor 42 = .ok (.aload_n 0, 1) := by decide +kernel
theorem dE_readBareFactor_43 : decode bE_readBareFactor 43 = .ok (.getfield 9, 3) := by decide +kernel
theorem dE_readBareFactor_46 : decode bE_readBareFactor 46 = .ok (.invokevirtual 117, 3) := by decide +kernel
theorem dE_readBareFactor_49 : decode bE_readBareFactor 49 = .ok (.if_icmp .ge 28, 3) := by decide +kernel
theorem dE_readBareFactor_52 : decode bE_readBareFactor 52 = .ok (.aload_n 0, 1) := by decide +kernel
theorem dE_readBareFactor_53 : decode bE_readBareFactor 53 = .ok (.getfield 9, 3) := by decide +kernel
theorem dE_readBareFactor_56 : decode bE_readBareFactor 56 = .ok (.iload_n 3, 1) := by decide +kernel
theorem dE_readBareFactor_57 : decode bE_readBareFactor 57 = .ok (.aload_n 0, 1) := by decide +kernel
theorem dE_readBareFactor_58 : decode bE_readBareFactor 58 = .ok (.getfield 33, 3) := by decide +kernel
theorem dE_readBareFactor_61 : decode bE_readBareFactor 61 = .ok (.invokevirtual 120, 3) := by decide +kernel
theorem dE_readBareFactor_64 : decode bE_readBareFactor 64 = .ok (.aload_n 0, 1) := by decide +kernel
theorem dE_readBareFactor_65 : decode bE_readBareFactor 65 = .ok (.dup, 1) := by decide +kernel
theorem dE_readBareFactor_66 : decode bE_readBareFactor 66 = .ok (.getfield 45, 3) := by decide +kernel
theorem dE_readBareFactor_69 : decode bE_readBareFactor 69 = .ok (.iconst 1, 1) := by decide +kernel
theorem dE_readBareFactor_70 : decode bE_readBareFactor 70 = .ok (.iadd, 1) := by decide +kernel
theorem dE_readBareFactor_71 : decode bE_readBareFactor 71 = .ok (.putfield 45, 3) := by decide +kernel
theorem dE_readBareFactor_74 : decode bE_readBareFactor 74 = .ok (.goto 28, 3) := by decide +kernel
theorem dE_readBareFactor_77 : decode bE_readBareFactor 77 = .ok (.iload_n 2, 1) := by decide +kernel
theorem dE_readBareFactor_78 : decode bE_readBareFactor 78 = .ok (.bipush 40, 2) := by decide +kernel
theorem dE_readBareFactor_80 : decode bE_readBareFactor 80 = .ok (.if_icmp .ne 13, 3) := by decide +kernel
theorem dE_readBareFactor_83 : decode bE_readBareFactor 83 = .ok (.aload_n 0, 1) := by decide +kernel
theorem dE_readBareFactor_84 : decode bE_readBareFactor 84 = .ok (.iload_n 1, 1) := by decide +kernel
theorem dE_readBareFactor_85 : decode bE_readBareFactor 85 = .ok (.iconst 1, 1) := by decide +kernel
theorem dE_readBareFactor_86 : decode bE_readBareFactor 86 = .ok (.iadd, 1) := by decide +kernel
theorem dE_readBareFactor_87 : decode bE_readBareFactor 87 = .ok (.invokevirtual 123, 3) := by decide +kernel
theorem dE_readBareFactor_90 : decode bE_readBareFactor 90 = .ok (.goto 12, 3) := by decide +kernel
theorem dE_readBareFactor_93 : decode bE_readBareFactor 93 = .ok (.aload_n 0, 1) := by decide +kernel
theorem dE_readBareFactor_94 : decode bE_readBareFactor 94 = .ok (.iconst 1, 1) := by decide +kernel
theorem dE_readBareFactor_95 : decode bE_readBareFactor 95 = .ok (.aload_n 0, 1) := by decide +kernel
theorem dE_readBareFactor_96 : decode bE_readBareFactor 96 = .ok (.getfield 45, 3) := by decide +kernel
theorem dE_readBareFactor_99 : decode bE_readBareFactor 99 = .ok (.invokevirtual 56, 3) := by decide +kernel
theorem dE_readBareFactor_102 : decode bE_readBareFactor 102 = .ok (.return_, 1) := by decide +kernel
theorem dR_isProductTooHigh_0 : decode bR_isProductTooHigh 0 = .ok (.aload_n 0, 1) := by decide +kernel
theorem dR_isProductTooHigh_1 : decode bR_isProductTooHigh 1 = .ok (.aload_n 1, 1) := by decide +kernel
theorem dR_isProductTooHigh_2 : decode bR_isProductTooHigh 2 = .ok (.invokevirtual 75, 3) := by decide +kernel
theorem dR_isProductTooHigh_5 : decode bR_isProductTooHigh 5 = .ok (.istore_n 3, 1) := by decide +kernel
theorem dR_isProductTooHigh_6 : decode bR_isProductTooHigh 6 = .ok (.aload_n 0, 1) := by decide +kernel
theorem dR_isProductTooHigh_7 : decode bR_isProductTooHigh 7 = .ok (.aload_n 2, 1) := by decide +kernel
theorem dR_isProductTooHigh_8 : decode bR_isProductTooHigh 8 = .ok (.invokevirtual 75, 3) := by decide +kernel
theorem dR_isProductTooHigh_11 : decode bR_isProductTooHigh 11 = .ok (.istore 4, 2) := by decide +kernel
theorem dR_isProductTooHigh_13 : decode bR_isProductTooHigh 13 = .ok (.iload_n 3, 1) := by decide +kernel
theorem dR_isProductTooHigh_14 : decode bR_isProductTooHigh 14 = .ok (.ifCond .lt 23, 3) := by decide +kernel
theorem dR_isProductTooHigh_17 : decode bR_isProductTooHigh 17 = .ok (.iload 4, 2) := by decide +kernel
theorem dR_isProductTooHigh_19 : decode bR_isProductTooHigh 19 = .ok (.ifCond .lt 18, 3) := by decide +kernel
theorem dR_isProductTooHigh_22 : decode bR_isProductTooHigh 22 = .ok (.iload_n 3, 1) := by decide +kernel
theorem dR_isProductTooHigh_23 : decode bR_isProductTooHigh 23 = .ok (.iload 4, 2) := by decide +kernel
theorem dR_isProductTooHigh_25 : decode bR_isProductTooHigh 25 = .ok (.iadd, 1) := by decide +kernel
theorem dR_isProductTooHigh_26 : decode bR_isProductTooHigh 26 = .ok (.aload_n 0, 1) := by decide +kernel
theorem dR_isProductTooHigh_27 : decode bR_isProductTooHigh 27 = .ok (.getfield 51, 3) := by decide +kernel
theorem dR_isProductTooHigh_30 : decode bR_isProductTooHigh 30 = .ok (.if_icmp .le 7, 3) := by decide +kernel
theorem dR_isProductTooHigh_33 : decode bR_isProductTooHigh 33 = .ok (.iconst 1, 1) := by decide +kernel
theorem dR_isProductTooHigh_34 : decode bR_isProductTooHigh 34 = .ok (.goto 4, 3) := by decide +kernel
theorem dR_isProductTooHigh_37 : decode bR_isProductTooHigh 37 = .ok (.iconst 0, 1) := by decide +kernel
theorem dR_isProductTooHigh_38 : decode bR_isProductTooHigh 38 = .ok (.ireturn, 1) := by decide +kernel
theorem dR_isPowerTooHigh_0 : decode bR_isPowerTooHigh 0 = .ok (.aload_n 0, 1) := by decide +kernel
theorem dR_isPowerTooHigh_1 : decode bR_isPowerTooHigh 1 = .ok (.aload_n 1, 1) := by decide +kernel
theorem dR_isPowerTooHigh_2 : decode bR_isPowerTooHigh 2 = .ok (.invokevirtual 75, 3) := by decide +kernel
theorem dR_isPowerTooHigh_5 : decode bR_isPowerTooHigh 5 = .ok (.istore_n 3, 1) := by decide +kernel
theorem dR_isPowerTooHigh_6 : decode bR_isPowerTooHigh 6 = .ok (.iload_n 3, 1) := by decide +kernel
theorem dR_isPowerTooHigh_7 : decode bR_isPowerTooHigh 7 = .ok (.ifCond .lt 17, 3) := by decide +kernel
theorem dR_isPowerTooHigh_10 : decode bR_isPowerTooHigh 10 = .ok (.iload_n 3, 1) := by decide +kernel
theorem dR_isPowerTooHigh_11 : decode bR_isPowerTooHigh 11 = .ok (.iload_n 2, 1) := by decide +kernel
theorem dR_isPowerTooHigh_12 : decode bR_isPowerTooHigh 12 = .ok (.imul, 1) := by decide +kernel
theorem dR_isPowerTooHigh_13 : decode bR_isPowerTooHigh 13 = .ok (.aload_n 0, 1) := by decide +kernel
theorem dR_isPowerTooHigh_14 : decode bR_isPowerTooHigh 14 = .ok (.getfield 51, 3) := by decide +kernel
theorem dR_isPowerTooHigh_17 : decode bR_isPowerTooHigh 17 = .ok (.if_icmp .le 7, 3) := by decide +kernel
theorem dR_isPowerTooHigh_20 : decode bR_isPowerTooHigh 20 = .ok (.iconst 1, 1) := by decide +kernel
theorem dR_isPowerTooHigh_21 : decode bR_isPowerTooHigh 21 = .ok (.goto 4, 3) := by decide +kernel
theorem dR_isPowerTooHigh_24 : decode bR_isPowerTooHigh 24 = .ok (.iconst 0, 1) := by decide +kernel
theorem dR_isPowerTooHigh_25 : decode bR_isPowerTooHigh 25 = .ok (.ireturn, 1) := by decide +kernel
theorem dR_writeNumber_0 : decode bR_writeNumber 0 = .ok (.aload_n 2, 1) := by decide +kernel
theorem dR_writeNumber_1 : decode bR_writeNumber 1 = .ok (.iconst 0, 1) := by decide +kernel
theorem dR_writeNumber_2 : decode bR_writeNumber 2 = .ok (.invokestatic 57, 3) := by decide +kernel
theorem dR_writeNumber_5 : decode bR_writeNumber 5 = .ok (.aload_n 0, 1) := by decide +kernel
theorem dR_writeNumber_6 : decode bR_writeNumber 6 = .ok (.iconst 0, 1) := by decide +kernel
theorem dR_writeNumber_7 : decode bR_writeNumber 7 = .ok (.aload_n 0, 1) := by decide +kernel
theorem dR_writeNumber_8 : decode bR_writeNumber 8 = .ok (.iload_n 1, 1) := by decide +kernel
theorem dR_writeNumber_9 : decode bR_writeNumber 9 = .ok (.invokevirtual 78, 3) := by decide +kernel
theorem dR_writeNumber_12 : decode bR_writeNumber 12 = .ok (.aload_n 2, 1) := by decide +kernel
theorem dR_writeNumber_13 : decode bR_writeNumber 13 = .ok (.invokevirtual 82, 3) := by decide +kernel
theorem dR_writeNumber_16 : decode bR_writeNumber 16 = .ok (.return_, 1) := by decide +kernel
theorem dR_writeVariable_0 : decode bR_writeVariable 0 = .ok (.aload_n 2, 1) := by decide +kernel
theorem dR_writeVariable_1 : decode bR_writeVariable 1 = .ok (.iconst 0, 1) := by decide +kernel
theorem dR_writeVariable_2 : decode bR_writeVariable 2 = .ok (.invokestatic 57, 3) := by decide +kernel
theorem dR_writeVariable_5 : decode bR_writeVariable 5 = .ok (.iload_n 1, 1) := by decide +kernel
theorem dR_writeVariable_6 : decode bR_writeVariable 6 = .ok (.ifCond .lt 23, 3) := by decide +kernel
theorem dR_writeVariable_9 : decode bR_writeVariable 9 = .ok (.iload_n 1, 1) := by decide +kernel
theorem dR_writeVariable_10 : decode bR_writeVariable 10 = .ok (.aload_n 0, 1) := by decide +kernel
theorem dR_writeVariable_11 : decode bR_writeVariable 11 = .ok (.getfield 42, 3) := by decide +kernel
theorem dR_writeVariable_14 : decode bR_writeVariable 14 = .ok (.if_icmp .ge 15, 3) := by decide +kernel
theorem dR_writeVariable_17 : decode bR_writeVariable 17 = .ok (.aload_n 0, 1) := by decide +kernel
theorem dR_writeVariable_18 : decode bR_writeVariable 18 = .ok (.aload_n 0, 1) := by decide +kernel
theorem dR_writeVariable_19 : decode bR_writeVariable 19 = .ok (.getfield 23, 3) := by decide +kernel
theorem dR_writeVariable_22 : decode bR_writeVariable 22 = .ok (.iload_n 1, 1) := by decide +kernel
theorem dR_writeVariable_23 : decode bR_writeVariable 23 = .ok (.iaload, 1) := by decide +kernel
theorem dR_writeVariable_24 : decode bR_writeVariable 24 = .ok (.iconst 1, 1) := by decide +kernel
theorem dR_writeVariable_25 : decode bR_writeVariable 25 = .ok (.aload_n 2, 1) := by decide +kernel
theorem dR_writeVariable_26 : decode bR_writeVariable 26 = .ok (.invokevirtual 82, 3) := by decide +kernel
theorem dR_writeVariable_29 : decode bR_writeVariable 29 = .ok (.return_, 1) := by decide +kernel
theorem dR_writeCopy_0 : decode bR_writeCopy 0 = .ok (.aload_n 1, 1) := by decide +kernel
theorem dR_writeCopy_1 : decode bR_writeCopy 1 = .ok (.iconst 0, 1) := by decide +kernel
theorem dR_writeCopy_2 : decode bR_writeCopy 2 = .ok (.aload_n 2, 1) := by decide +kernel
theorem dR_writeCopy_3 : decode bR_writeCopy 3 = .ok (.iconst 0, 1) := by decide +kernel
theorem dR_writeCopy_4 : decode bR_writeCopy 4 = .ok (.bipush 126, 2) := by decide +kernel
theorem dR_writeCopy_6 : decode bR_writeCopy 6 = .ok (.invokestatic 86, 3) := by decide +kernel
theorem dR_writeCopy_9 : decode bR_writeCopy 9 = .ok (.return_, 1) := by decide +kernel
theorem dR_writeSum_0 : decode bR_writeSum 0 = .ok (.aload_n 0, 1) := by decide +kernel
theorem dR_writeSum_1 : decode bR_writeSum 1 = .ok (.iload_n 2, 1) := by decide +kernel
theorem dR_writeSum_2 : decode bR_writeSum 2 = .ok (.invokevirtual 78, 3) := by decide +kernel
theorem dR_writeSum_5 : decode bR_writeSum 5 = .ok (.istore 5, 2) := by decide +kernel
theorem dR_writeSum_7 : decode bR_writeSum 7 = .ok (.iconst 0, 1) := by decide +kernel
theorem dR_writeSum_8 : decode bR_writeSum 8 = .ok (.istore 6, 2) := by decide +kernel
theorem dR_writeSum_10 : decode bR_writeSum 10 = .ok (.iload 6, 2) := by decide +kernel
theorem dR_writeSum_12 : decode bR_writeSum 12 = .ok (.aload_n 0, 1) := by decide +kernel
theorem dR_writeSum_13 : decode bR_writeSum 13 = .ok (.getfield 54, 3) := by decide +kernel
theorem dR_writeSum_16 : decode bR_writeSum 16 = .ok (.if_icmp .ge 30, 3) := by decide +kernel
theorem dR_writeSum_19 : decode bR_writeSum 19 = .ok (.aload 4, 2) := by decide +kernel
theorem dR_writeSum_21 : decode bR_writeSum 21 = .ok (.iload 6, 2) := by decide +kernel
theorem dR_writeSum_23 : decode bR_writeSum 23 = .ok (.aload_n 0, 1) := by decide +kernel
theorem dR_writeSum_24 : decode bR_writeSum 24 = .ok (.aload_n 1, 1) := by decide +kernel
theorem dR_writeSum_25 : decode bR_writeSum 25 = .ok (.iload 6, 2) := by decide +kernel
theorem dR_writeSum_27 : decode bR_writeSum 27 = .ok (.iaload, 1) := by decide +kernel
theorem dR_writeSum_28 : decode bR_writeSum 28 = .ok (.iload 5, 2) := by decide +kernel
theorem dR_writeSum_30 : decode bR_writeSum 30 = .ok (.aload_n 3, 1) := by decide +kernel
theorem dR_writeSum_31 : decode bR_writeSum 31 = .ok (.iload 6, 2) := by decide +kernel
theorem dR_writeSum_33 : decode bR_writeSum 33 = .ok (.iaload, 1) := by decide +kernel
theorem dR_writeSum_34 : decode bR_writeSum 34 = .ok (.imul, 1) := by decide +kernel
theorem dR_writeSum_35 : decode bR_writeSum 35 = .ok (.iadd, 1) := by decide +kernel
theorem dR_writeSum_36 : decode bR_writeSum 36 = .ok (.invokevirtual 78, 3) := by decide +kernel
theorem dR_writeSum_39 : decode bR_writeSum 39 = .ok (.iastore, 1) := by decide +kernel
theorem dR_writeSum_40 : decode bR_writeSum 40 = .ok (.iinc 6 1, 3) := by decide +kernel
theorem dR_writeSum_43 : decode bR_writeSum 43 = .ok (.goto (-33), 3) := by decide +kernel
theorem dR_writeSum_46 : decode bR_writeSum 46 = .ok (.return_, 1) := by decide +kernel
theorem dR_writeProduct_0 : decode bR_writeProduct 0 = .ok (.aload_n 0, 1) := by decide +kernel
theorem dR_writeProduct_1 : decode bR_writeProduct 1 = .ok (.getfield 32, 3) := by decide +kernel
theorem dR_writeProduct_4 : decode bR_writeProduct 4 = .ok (.iconst 0, 1) := by decide +kernel
theorem dR_writeProduct_5 : decode bR_writeProduct 5 = .ok (.invokestatic 57, 3) := by decide +kernel
theorem dR_writeProduct_8 : decode bR_writeProduct 8 = .ok (.aload_n 0, 1) := by decide +kernel
theorem dR_writeProduct_9 : decode bR_writeProduct 9 = .ok (.aload_n 2, 1) := by decide +kernel
theorem dR_writeProduct_10 : decode bR_writeProduct 10 = .ok (.invokevirtual 71, 3) := by decide +kernel
theorem dR_writeProduct_13 : decode bR_writeProduct 13 = .ok (.istore 4, 2) := by decide +kernel
theorem dR_writeProduct_15 : decode bR_writeProduct 15 = .ok (.aload_n 0, 1) := by decide +kernel
theorem dR_writeProduct_16 : decode bR_writeProduct 16 = .ok (.aload_n 1, 1) := by decide +kernel
theorem dR_writeProduct_17 : decode bR_writeProduct 17 = .ok (.invokevirtual 71, 3) := by decide +kernel
theorem dR_writeProduct_20 : decode bR_writeProduct 20 = .ok (.istore 5, 2) := by decide +kernel
theorem dR_writeProduct_22 : decode bR_writeProduct 22 = .ok (.iload 5, 2) := by decide +kernel
theorem dR_writeProduct_24 : decode bR_writeProduct 24 = .ok (.aload_n 0, 1) := by decide +kernel
theorem dR_writeProduct_25 : decode bR_writeProduct 25 = .ok (.getfield 54, 3) := by decide +kernel
theorem dR_writeProduct_28 : decode bR_writeProduct 28 = .ok (.if_icmp .ge 74, 3) := by decide +kernel
theorem dR_writeProduct_31 : decode bR_writeProduct 31 = .ok (.iload 4, 2) := by decide +kernel
theorem dR_writeProduct_33 : decode bR_writeProduct 33 = .ok (.istore 6, 2) := by decide +kernel
theorem dR_writeProduct_35 : decode bR_writeProduct 35 = .ok (.aload_n 1, 1) := by decide +kernel
theorem dR_writeProduct_36 : decode bR_writeProduct 36 = .ok (.iload 5, 2) := by decide +kernel
theorem dR_writeProduct_38 : decode bR_writeProduct 38 = .ok (.iaload, 1) := by decide +kernel
theorem dR_writeProduct_39 : decode bR_writeProduct 39 = .ok (.ifCond .eq 57, 3) := by decide +kernel
theorem dR_writeProduct_42 : decode bR_writeProduct 42 = .ok (.iload 6, 2) := by decide +kernel
theorem dR_writeProduct_44 : decode bR_writeProduct 44 = .ok (.aload_n 0, 1) := by decide +kernel
theorem dR_writeProduct_45 : decode bR_writeProduct 45 = .ok (.getfield 54, 3) := by decide +kernel
theorem dR_writeProduct_48 : decode bR_writeProduct 48 = .ok (.if_icmp .ge 48, 3) := by decide +kernel
theorem dR_writeProduct_51 : decode bR_writeProduct 51 = .ok (.aload_n 2, 1) := by decide +kernel
theorem dR_writeProduct_52 : decode bR_writeProduct 52 = .ok (.iload 6, 2) := by decide +kernel
theorem dR_writeProduct_54 : decode bR_writeProduct 54 = .ok (.iaload, 1) := by decide +kernel
theorem dR_writeProduct_55 : decode bR_writeProduct 55 = .ok (.ifCond .eq 35, 3) := by decide +kernel
theorem dR_writeProduct_58 : decode bR_writeProduct 58 = .ok (.aload_n 0, 1) := by decide +kernel
theorem dR_writeProduct_59 : decode bR_writeProduct 59 = .ok (.aload_n 0, 1) := by decide +kernel
theorem dR_writeProduct_60 : decode bR_writeProduct 60 = .ok (.getfield 20, 3) := by decide +kernel
theorem dR_writeProduct_63 : decode bR_writeProduct 63 = .ok (.iload 5, 2) := by decide +kernel
theorem dR_writeProduct_65 : decode bR_writeProduct 65 = .ok (.iaload, 1) := by decide +kernel
theorem dR_writeProduct_66 : decode bR_writeProduct 66 = .ok (.aload_n 0, 1) := by decide +kernel
theorem dR_writeProduct_67 : decode bR_writeProduct 67 = .ok (.getfield 20, 3) := by decide +kernel
theorem dR_writeProduct_70 : decode bR_writeProduct 70 = .ok (.iload 6, 2) := by decide +kernel
theorem dR_writeProduct_72 : decode bR_writeProduct 72 = .ok (.iaload, 1) := by decide +kernel
theorem dR_writeProduct_73 : decode bR_writeProduct 73 = .ok (.iadd, 1) := by decide +kernel
theorem dR_writeProduct_74 : decode bR_writeProduct 74 = .ok (.aload_n 1, 1) := by decide +kernel
theorem dR_writeProduct_75 : decode bR_writeProduct 75 = .ok (.iload 5, 2) := by decide +kernel
theorem dR_writeProduct_77 : decode bR_writeProduct 77 = .ok (.iaload, 1) := by decide +kernel
theorem dR_writeProduct_78 : decode bR_writeProduct 78 = .ok (.aload_n 2, 1) := by decide +kernel
theorem dR_writeProduct_79 : decode bR_writeProduct 79 = .ok (.iload 6, 2) := by decide +kernel
theorem dR_writeProduct_81 : decode bR_writeProduct 81 = .ok (.iaload, 1) := by decide +kernel
theorem dR_writeProduct_82 : decode bR_writeProduct 82 = .ok (.imul, 1) := by decide +kernel
theorem dR_writeProduct_83 : decode bR_writeProduct 83 = .ok (.aload_n 0, 1) := by decide +kernel
theorem dR_writeProduct_84 : decode bR_writeProduct 84 = .ok (.getfield 32, 3) := by decide +kernel
theorem dR_writeProduct_87 : decode bR_writeProduct 87 = .ok (.invokevirtual 82, 3) := by decide +kernel
theorem dR_writeProduct_90 : decode bR_writeProduct 90 = .ok (.iinc 6 1, 3) := by decide +kernel
theorem dR_writeProduct_93 : decode bR_writeProduct 93 = .ok (.goto (-58), 3) := by decide +kernel
theorem dR_writeProduct_96 : decode bR_writeProduct 96 = .ok (.iinc 5 1, 3) := by decide +kernel
theorem dR_writeProduct_99 : decode bR_writeProduct 99 = .ok (.goto (-77), 3) := by decide +kernel
theorem dR_writeProduct_102 : decode bR_writeProduct 102 = .ok (.aload_n 0, 1) := by decide +kernel
theorem dR_writeProduct_103 : decode bR_writeProduct 103 = .ok (.getfield 32, 3) := by decide +kernel
theorem dR_writeProduct_106 : decode bR_writeProduct 106 = .ok (.iconst 0, 1) := by decide +kernel
theorem dR_writeProduct_107 : decode bR_writeProduct 107 = .ok (.aload_n 3, 1) := by decide +kernel
theorem dR_writeProduct_108 : decode bR_writeProduct 108 = .ok (.iconst 0, 1) := by decide +kernel
theorem dR_writeProduct_109 : decode bR_writeProduct 109 = .ok (.bipush 126, 2) := by decide +kernel
theorem dR_writeProduct_111 : decode bR_writeProduct 111 = .ok (.invokestatic 86, 3) := by decide +kernel
theorem dR_writeProduct_114 : decode bR_writeProduct 114 = .ok (.return_, 1) := by decide +kernel
theorem dR_writePower_0 : decode bR_writePower 0 = .ok (.aload_n 1, 1) := by decide +kernel
theorem dR_writePower_1 : decode bR_writePower 1 = .ok (.iconst 0, 1) := by decide +kernel
theorem dR_writePower_2 : decode bR_writePower 2 = .ok (.aload_n 0, 1) := by decide +kernel
theorem dR_writePower_3 : decode bR_writePower 3 = .ok (.getfield 35, 3) := by decide +kernel
theorem dR_writePower_6 : decode bR_writePower 6 = .ok (.iconst 0, 1) := by decide +kernel
theorem dR_writePower_7 : decode bR_writePower 7 = .ok (.bipush 126, 2) := by decide +kernel
theorem dR_writePower_9 : decode bR_writePower 9 = .ok (.invokestatic 86, 3) := by decide +kernel
theorem dR_writePower_12 : decode bR_writePower 12 = .ok (.aload_n 0, 1) := by decide +kernel
theorem dR_writePower_13 : decode bR_writePower 13 = .ok (.iconst 1, 1) := by decide +kernel
theorem dR_writePower_14 : decode bR_writePower 14 = .ok (.aload_n 3, 1) := by decide +kernel
theorem dR_writePower_15 : decode bR_writePower 15 = .ok (.invokevirtual 92, 3) := by decide +kernel
theorem dR_writePower_18 : decode bR_writePower 18 = .ok (.bipush 6, 2) := by decide +kernel
theorem dR_writePower_20 : decode bR_writePower 20 = .ok (.istore 4, 2) := by decide +kernel
theorem dR_writePower_22 : decode bR_writePower 22 = .ok (.iload 4, 2) := by decide +kernel
theorem dR_writePower_24 : decode bR_writePower 24 = .ok (.ifCond .lt 44, 3) := by decide +kernel
theorem dR_writePower_27 : decode bR_writePower 27 = .ok (.iload_n 2, 1) := by decide +kernel
theorem dR_writePower_28 : decode bR_writePower 28 = .ok (.iload 4, 2) := by decide +kernel
theorem dR_writePower_30 : decode bR_writePower 30 = .ok (.ishr, 1) := by decide +kernel
theorem dR_writePower_31 : decode bR_writePower 31 = .ok (.iconst 1, 1) := by decide +kernel
theorem dR_writePower_32 : decode bR_writePower 32 = .ok (.if_icmp .le 10, 3) := by decide +kernel
theorem dR_writePower_35 : decode bR_writePower 35 = .ok (.aload_n 0, 1) := by decide +kernel
theorem dR_writePower_36 : decode bR_writePower 36 = .ok (.aload_n 3, 1) := by decide +kernel
theorem dR_writePower_37 : decode bR_writePower 37 = .ok (.aload_n 3, 1) := by decide +kernel
theorem dR_writePower_38 : decode bR_writePower 38 = .ok (.aload_n 3, 1) := by decide +kernel
theorem dR_writePower_39 : decode bR_writePower 39 = .ok (.invokevirtual 96, 3) := by decide +kernel
theorem dR_writePower_42 : decode bR_writePower 42 = .ok (.iload_n 2, 1) := by decide +kernel
theorem dR_writePower_43 : decode bR_writePower 43 = .ok (.iload 4, 2) := by decide +kernel
theorem dR_writePower_45 : decode bR_writePower 45 = .ok (.ishr, 1) := by decide +kernel
theorem dR_writePower_46 : decode bR_writePower 46 = .ok (.iconst 1, 1) := by decide +kernel
theorem dR_writePower_47 : decode bR_writePower 47 = .ok (.iand, 1) := by decide +kernel
theorem dR_writePower_48 : decode bR_writePower 48 = .ok (.iconst 1, 1) := by decide +kernel
theorem dR_writePower_49 : decode bR_writePower 49 = .ok (.if_icmp .ne 13, 3) := by decide +kernel
theorem dR_writePower_52 : decode bR_writePower 52 = .ok (.aload_n 0, 1) := by decide +kernel
theorem dR_writePower_53 : decode bR_writePower 53 = .ok (.aload_n 3, 1) := by decide +kernel
theorem dR_writePower_54 : decode bR_writePower 54 = .ok (.aload_n 0, 1) := by decide +kernel
theorem dR_writePower_55 : decode bR_writePower 55 = .ok (.getfield 35, 3) := by decide +kernel
theorem dR_writePower_58 : decode bR_writePower 58 = .ok (.aload_n 3, 1) := by decide +kernel
theorem dR_writePower_59 : decode bR_writePower 59 = .ok (.invokevirtual 96, 3) := by decide +kernel
theorem dR_writePower_62 : decode bR_writePower 62 = .ok (.iinc 4 (-1), 3) := by decide +kernel
theorem dR_writePower_65 : decode bR_writePower 65 = .ok (.goto (-43), 3) := by decide +kernel
theorem dR_writePower_68 : decode bR_writePower 68 = .ok (.return_, 1) := by decide +kernel
theorem dR_writeDerivative_0 : decode bR_writeDerivative 0 = .ok (.aload_n 0, 1) := by decide +kernel
theorem dR_writeDerivative_1 : decode bR_writeDerivative 1 = .ok (.getfield 32, 3) := by decide +kernel
theorem dR_writeDerivative_4 : decode bR_writeDerivative 4 = .ok (.iconst 0, 1) := by decide +kernel
theorem dR_writeDerivative_5 : decode bR_writeDerivative 5 = .ok (.invokestatic 57, 3) := by decide +kernel
theorem dR_writeDerivative_8 : decode bR_writeDerivative 8 = .ok (.iconst 0, 1) := by decide +kernel
theorem dR_writeDerivative_9 : decode bR_writeDerivative 9 = .ok (.istore 4, 2) := by decide +kernel
theorem dR_writeDerivative_11 : decode bR_writeDerivative 11 = .ok (.iload 4, 2) := by decide +kernel
theorem dR_writeDerivative_13 : decode bR_writeDerivative 13 = .ok (.aload_n 0, 1) := by decide +kernel
theorem dR_writeDerivative_14 : decode bR_writeDerivative 14 = .ok (.getfield 54, 3) := by decide +kernel
theorem dR_writeDerivative_17 : decode bR_writeDerivative 17 = .ok (.if_icmp .ge 59, 3) := by decide +kernel
theorem dR_writeDerivative_20 : decode bR_writeDerivative 20 = .ok (.aload_n 0, 1) := by decide +kernel
theorem dR_writeDerivative_21 : decode bR_writeDerivative 21 = .ok (.iload 4, 2) := by decide +kernel
theorem dR_writeDerivative_23 : decode bR_writeDerivative 23 = .ok (.iload_n 2, 1) := by decide +kernel
theorem dR_writeDerivative_24 : decode bR_writeDerivative 24 = .ok (.invokevirtual 100, 3) := by decide +kernel
theorem dR_writeDerivative_27 : decode bR_writeDerivative 27 = .ok (.istore 5, 2) := by decide +kernel
theorem dR_writeDerivative_29 : decode bR_writeDerivative 29 = .ok (.aload_n 1, 1) := by decide +kernel
theorem dR_writeDerivative_30 : decode bR_writeDerivative 30 = .ok (.iload 4, 2) := by decide +kernel
theorem dR_writeDerivative_32 : decode bR_writeDerivative 32 = .ok (.iaload, 1) := by decide +kernel
theorem dR_writeDerivative_33 : decode bR_writeDerivative 33 = .ok (.ifCond .eq 37, 3) := by decide +kernel
theorem dR_writeDerivative_36 : decode bR_writeDerivative 36 = .ok (.iload 5, 2) := by decide +kernel
theorem dR_writeDerivative_38 : decode bR_writeDerivative 38 = .ok (.ifCond .le 32, 3) := by decide +kernel
theorem dR_writeDerivative_41 : decode bR_writeDerivative 41 = .ok (.aload_n 0, 1) := by decide +kernel
theorem dR_writeDerivative_42 : decode bR_writeDerivative 42 = .ok (.aload_n 0, 1) := by decide +kernel
theorem dR_writeDerivative_43 : decode bR_writeDerivative 43 = .ok (.getfield 20, 3) := by decide +kernel
theorem dR_writeDerivative_46 : decode bR_writeDerivative 46 = .ok (.iload 4, 2) := by decide +kernel
theorem dR_writeDerivative_48 : decode bR_writeDerivative 48 = .ok (.iaload, 1) := by decide +kernel
theorem dR_writeDerivative_49 : decode bR_writeDerivative 49 = .ok (.aload_n 0, 1) := by decide +kernel
theorem dR_writeDerivative_50 : decode bR_writeDerivative 50 = .ok (.getfield 23, 3) := by decide +kernel
theorem dR_writeDerivative_53 : decode bR_writeDerivative 53 = .ok (.iload_n 2, 1) := by decide +kernel
theorem dR_writeDerivative_54 : decode bR_writeDerivative 54 = .ok (.iaload, 1) := by decide +kernel
theorem dR_writeDerivative_55 : decode bR_writeDerivative 55 = .ok (.isub, 1) := by decide +kernel
theorem dR_writeDerivative_56 : decode bR_writeDerivative 56 = .ok (.aload_n 1, 1) := by decide +kernel
theorem dR_writeDerivative_57 : decode bR_writeDerivative 57 = .ok (.iload 4, 2) := by decide +kernel
theorem dR_writeDerivative_59 : decode bR_writeDerivative 59 = .ok (.iaload, 1) := by decide +kernel
theorem dR_writeDerivative_60 : decode bR_writeDerivative 60 = .ok (.iload 5, 2) := by decide +kernel
theorem dR_writeDerivative_62 : decode bR_writeDerivative 62 = .ok (.imul, 1) := by decide +kernel
theorem dR_writeDerivative_63 : decode bR_writeDerivative 63 = .ok (.aload_n 0, 1) := by decide +kernel
theorem dR_writeDerivative_64 : decode bR_writeDerivative 64 = .ok (.getfield 32, 3) := by decide +kernel
theorem dR_writeDerivative_67 : decode bR_writeDerivative 67 = .ok (.invokevirtual 82, 3) := by decide +kernel
theorem dR_writeDerivative_70 : decode bR_writeDerivative 70 = .ok (.iinc 4 1, 3) := by decide +kernel
theorem dR_writeDerivative_73 : decode bR_writeDerivative 73 = .ok (.goto (-62), 3) := by decide +kernel
theorem dR_writeDerivative_76 : decode bR_writeDerivative 76 = .ok (.aload_n 0, 1) := by decide +kernel
theorem dR_writeDerivative_77 : decode bR_writeDerivative 77 = .ok (.getfield 32, 3) := by decide +kernel
theorem dR_writeDerivative_80 : decode bR_writeDerivative 80 = .ok (.iconst 0, 1) := by decide +kernel
theorem dR_writeDerivative_81 : decode bR_writeDerivative 81 = .ok (.aload_n 3, 1) := by decide +kernel
theorem dR_writeDerivative_82 : decode bR_writeDerivative 82 = .ok (.iconst 0, 1) := by decide +kernel
theorem dR_writeDerivative_83 : decode bR_writeDerivative 83 = .ok (.bipush 126, 2) := by decide +kernel
theorem dR_writeDerivative_85 : decode bR_writeDerivative 85 = .ok (.invokestatic 86, 3) := by decide +kernel
theorem dR_writeDerivative_88 : decode bR_writeDerivative 88 = .ok (.return_, 1) := by decide +kernel
theorem dR_writeSubstitute_0 : decode bR_writeSubstitute 0 = .ok (.aload_n 0, 1) := by decide +kernel
theorem dR_writeSubstitute_1 : decode bR_writeSubstitute 1 = .ok (.getfield 32, 3) := by decide +kernel
theorem dR_writeSubstitute_4 : decode bR_writeSubstitute 4 = .ok (.iconst 0, 1) := by decide +kernel
theorem dR_writeSubstitute_5 : decode bR_writeSubstitute 5 = .ok (.invokestatic 57, 3) := by decide +kernel
theorem dR_writeSubstitute_8 : decode bR_writeSubstitute 8 = .ok (.iload_n 2, 1) := by decide +kernel
theorem dR_writeSubstitute_9 : decode bR_writeSubstitute 9 = .ok (.ifCond .lt 91, 3) := by decide +kernel
theorem dR_writeSubstitute_12 : decode bR_writeSubstitute 12 = .ok (.iload_n 2, 1) := by decide +kernel
theorem dR_writeSubstitute_13 : decode bR_writeSubstitute 13 = .ok (.aload_n 0, 1) := by decide +kernel
theorem dR_writeSubstitute_14 : decode bR_writeSubstitute 14 = .ok (.getfield 42, 3) := by decide +kernel
theorem dR_writeSubstitute_17 : decode bR_writeSubstitute 17 = .ok (.if_icmp .ge 83, 3) := by decide +kernel
theorem dR_writeSubstitute_20 : decode bR_writeSubstitute 20 = .ok (.aload_n 0, 1) := by decide +kernel
theorem dR_writeSubstitute_21 : decode bR_writeSubstitute 21 = .ok (.iload_n 3, 1) := by decide +kernel
theorem dR_writeSubstitute_22 : decode bR_writeSubstitute 22 = .ok (.invokevirtual 78, 3) := by decide +kernel
theorem dR_writeSubstitute_25 : decode bR_writeSubstitute 25 = .ok (.istore 5, 2) := by decide +kernel
theorem dR_writeSubstitute_27 : decode bR_writeSubstitute 27 = .ok (.iconst 0, 1) := by decide +kernel
theorem dR_writeSubstitute_28 : decode bR_writeSubstitute 28 = .ok (.istore 6, 2) := by decide +kernel
theorem dR_writeSubstitute_30 : decode bR_writeSubstitute 30 = .ok (.iload 6, 2) := by decide +kernel
theorem dR_writeSubstitute_32 : decode bR_writeSubstitute 32 = .ok (.aload_n 0, 1) := by decide +kernel
theorem dR_writeSubstitute_33 : decode bR_writeSubstitute 33 = .ok (.getfield 54, 3) := by decide +kernel
theorem dR_writeSubstitute_36 : decode bR_writeSubstitute 36 = .ok (.if_icmp .ge 64, 3) := by decide +kernel
theorem dR_writeSubstitute_39 : decode bR_writeSubstitute 39 = .ok (.aload_n 0, 1) := by decide +kernel
theorem dR_writeSubstitute_40 : decode bR_writeSubstitute 40 = .ok (.getfield 13, 3) := by decide +kernel
theorem dR_writeSubstitute_43 : decode bR_writeSubstitute 43 = .ok (.iload_n 2, 1) := by decide +kernel
theorem dR_writeSubstitute_44 : decode bR_writeSubstitute 44 = .ok (.aaload, 1) := by decide +kernel
theorem dR_writeSubstitute_45 : decode bR_writeSubstitute 45 = .ok (.iload 6, 2) := by decide +kernel
theorem dR_writeSubstitute_47 : decode bR_writeSubstitute 47 = .ok (.iaload, 1) := by decide +kernel
theorem dR_writeSubstitute_48 : decode bR_writeSubstitute 48 = .ok (.istore 7, 2) := by decide +kernel
theorem dR_writeSubstitute_50 : decode bR_writeSubstitute 50 = .ok (.aload_n 1, 1) := by decide +kernel
theorem dR_writeSubstitute_51 : decode bR_writeSubstitute 51 = .ok (.iload 6, 2) := by decide +kernel
theorem dR_writeSubstitute_53 : decode bR_writeSubstitute 53 = .ok (.iaload, 1) := by decide +kernel
theorem dR_writeSubstitute_54 : decode bR_writeSubstitute 54 = .ok (.ifCond .eq 40, 3) := by decide +kernel
theorem dR_writeSubstitute_57 : decode bR_writeSubstitute 57 = .ok (.aload_n 0, 1) := by decide +kernel
theorem dR_writeSubstitute_58 : decode bR_writeSubstitute 58 = .ok (.aload_n 0, 1) := by decide +kernel
theorem dR_writeSubstitute_59 : decode bR_writeSubstitute 59 = .ok (.getfield 20, 3) := by decide +kernel
theorem dR_writeSubstitute_62 : decode bR_writeSubstitute 62 = .ok (.iload 6, 2) := by decide +kernel
theorem dR_writeSubstitute_64 : decode bR_writeSubstitute 64 = .ok (.iaload, 1) := by decide +kernel
theorem dR_writeSubstitute_65 : decode bR_writeSubstitute 65 = .ok (.iload 7, 2) := by decide +kernel
theorem dR_writeSubstitute_67 : decode bR_writeSubstitute 67 = .ok (.aload_n 0, 1) := by decide +kernel
theorem dR_writeSubstitute_68 : decode bR_writeSubstitute 68 = .ok (.getfield 23, 3) := by decide +kernel
theorem dR_writeSubstitute_71 : decode bR_writeSubstitute 71 = .ok (.iload_n 2, 1) := by decide +kernel
theorem dR_writeSubstitute_72 : decode bR_writeSubstitute 72 = .ok (.iaload, 1) := by decide +kernel
theorem dR_writeSubstitute_73 : decode bR_writeSubstitute 73 = .ok (.imul, 1) := by decide +kernel
theorem dR_writeSubstitute_74 : decode bR_writeSubstitute 74 = .ok (.isub, 1) := by decide +kernel
theorem dR_writeSubstitute_75 : decode bR_writeSubstitute 75 = .ok (.aload_n 0, 1) := by decide +kernel
theorem dR_writeSubstitute_76 : decode bR_writeSubstitute 76 = .ok (.aload_n 1, 1) := by decide +kernel
theorem dR_writeSubstitute_77 : decode bR_writeSubstitute 77 = .ok (.iload 6, 2) := by decide +kernel
theorem dR_writeSubstitute_79 : decode bR_writeSubstitute 79 = .ok (.iaload, 1) := by decide +kernel
theorem dR_writeSubstitute_80 : decode bR_writeSubstitute 80 = .ok (.iload 5, 2) := by decide +kernel
theorem dR_writeSubstitute_82 : decode bR_writeSubstitute 82 = .ok (.iload 7, 2) := by decide +kernel
theorem dR_writeSubstitute_84 : decode bR_writeSubstitute 84 = .ok (.invokevirtual 104, 3) := by decide +kernel
theorem dR_writeSubstitute_87 : decode bR_writeSubstitute 87 = .ok (.aload_n 0, 1) := by decide +kernel
theorem dR_writeSubstitute_88 : decode bR_writeSubstitute 88 = .ok (.getfield 32, 3) := by decide +kernel
theorem dR_writeSubstitute_91 : decode bR_writeSubstitute 91 = .ok (.invokevirtual 82, 3) := by decide +kernel
theorem dR_writeSubstitute_94 : decode bR_writeSubstitute 94 = .ok (.iinc 6 1, 3) := by decide +kernel
theorem dR_writeSubstitute_97 : decode bR_writeSubstitute 97 = .ok (.goto (-67), 3) := by decide +kernel
theorem dR_writeSubstitute_100 : decode bR_writeSubstitute 100 = .ok (.aload_n 0, 1) := by decide +kernel
theorem dR_writeSubstitute_101 : decode bR_writeSubstitute 101 = .ok (.getfield 32, 3) := by decide +kernel
theorem dR_writeSubstitute_104 : decode bR_writeSubstitute 104 = .ok (.iconst 0, 1) := by decide +kernel
theorem dR_writeSubstitute_105 : decode bR_writeSubstitute 105 = .ok (.aload 4, 2) := by decide +kernel
theorem dR_writeSubstitute_107 : decode bR_writeSubstitute 107 = .ok (.iconst 0, 1) := by decide +kernel
theorem dR_writeSubstitute_108 : decode bR_writeSubstitute 108 = .ok (.bipush 126, 2) := by decide +kernel
theorem dR_writeSubstitute_110 : decode bR_writeSubstitute 110 = .ok (.invokestatic 86, 3) := by decide +kernel
theorem dR_writeSubstitute_113 : decode bR_writeSubstitute 113 = .ok (.return_, 1) := by decide +kernel
theorem dR_init_0 : decode bR_init 0 = .ok (.aload_n 0, 1) := by decide +kernel
theorem dR_init_1 : decode bR_init 1 = .ok (.invokespecial 3, 3) := by decide +kernel
theorem dR_init_4 : decode bR_init 4 = .ok (.aload_n 0, 1) := by decide +kernel
theorem dR_init_5 : decode bR_init 5 = .ok (.iconst 4, 1) := by decide +kernel
theorem dR_init_6 : decode bR_init 6 = .ok (.bipush 126, 2) := by decide +kernel
theorem dR_init_8 : decode bR_init 8 = .ok (.multianewarray 11 2, 4) := by decide +kernel
theorem dR_init_12 : decode bR_init 12 = .ok (.putfield 13, 3) := by decide +kernel
theorem dR_init_15 : decode bR_init 15 = .ok (.aload_n 0, 1) := by decide +kernel
theorem dR_init_16 : decode bR_init 16 = .ok (.bipush 126, 2) := by decide +kernel
theorem dR_init_18 : decode bR_init 18 = .ok (.newarray .int, 2) := by decide +kernel
theorem dR_init_20 : decode bR_init 20 = .ok (.putfield 16, 3) := by decide +kernel
theorem dR_init_23 : decode bR_init 23 = .ok (.aload_n 0, 1) := by decide +kernel
theorem dR_init_24 : decode bR_init 24 = .ok (.bipush 126, 2) := by decide +kernel
theorem dR_init_26 : decode bR_init 26 = .ok (.newarray .int, 2) := by decide +kernel
theorem dR_init_28 : decode bR_init 28 = .ok (.putfield 20, 3) := by decide +kernel
theorem dR_init_31 : decode bR_init 31 = .ok (.aload_n 0, 1) := by decide +kernel
theorem dR_init_32 : decode bR_init 32 = .ok (.iconst 4, 1) := by decide +kernel
theorem dR_init_33 : decode bR_init 33 = .ok (.newarray .int, 2) := by decide +kernel
theorem dR_init_35 : decode bR_init 35 = .ok (.putfield 23, 3) := by decide +kernel
theorem dR_init_38 : decode bR_init 38 = .ok (.aload_n 0, 1) := by decide +kernel
theorem dR_init_39 : decode bR_init 39 = .ok (.sipush 1296, 3) := by decide +kernel
theorem dR_init_42 : decode bR_init 42 = .ok (.newarray .int, 2) := by decide +kernel
theorem dR_init_44 : decode bR_init 44 = .ok (.putfield 26, 3) := by decide +kernel
theorem dR_init_47 : decode bR_init 47 = .ok (.aload_n 0, 1) := by decide +kernel
theorem dR_init_48 : decode bR_init 48 = .ok (.iconst 4, 1) := by decide +kernel
theorem dR_init_49 : decode bR_init 49 = .ok (.newarray .int, 2) := by decide +kernel
theorem dR_init_51 : decode bR_init 51 = .ok (.putfield 29, 3) := by decide +kernel
theorem dR_init_54 : decode bR_init 54 = .ok (.aload_n 0, 1) := by decide +kernel
theorem dR_init_55 : decode bR_init 55 = .ok (.bipush 126, 2) := by decide +kernel
theorem dR_init_57 : decode bR_init 57 = .ok (.newarray .int, 2) := by decide +kernel
theorem dR_init_59 : decode bR_init 59 = .ok (.putfield 32, 3) := by decide +kernel
theorem dR_init_62 : decode bR_init 62 = .ok (.aload_n 0, 1) := by decide +kernel
theorem dR_init_63 : decode bR_init 63 = .ok (.bipush 126, 2) := by decide +kernel
theorem dR_init_65 : decode bR_init 65 = .ok (.newarray .int, 2) := by decide +kernel
theorem dR_init_67 : decode bR_init 67 = .ok (.putfield 35, 3) := by decide +kernel
theorem dR_init_70 : decode bR_init 70 = .ok (.return_, 1) := by decide +kernel
theorem dR_evaluate_0 : decode bR_evaluate 0 = .ok (.iconst 0, 1) := by decide +kernel
theorem dR_evaluate_1 : decode bR_evaluate 1 = .ok (.istore_n 3, 1) := by decide +kernel
theorem dR_evaluate_2 : decode bR_evaluate 2 = .ok (.iconst 0, 1) := by decide +kernel
theorem dR_evaluate_3 : decode bR_evaluate 3 = .ok (.istore 4, 2) := by decide +kernel
theorem dR_evaluate_5 : decode bR_evaluate 5 = .ok (.iload 4, 2) := by decide +kernel
theorem dR_evaluate_7 : decode bR_evaluate 7 = .ok (.aload_n 0, 1) := by decide +kernel
theorem dR_evaluate_8 : decode bR_evaluate 8 = .ok (.getfield 54, 3) := by decide +kernel
theorem dR_evaluate_11 : decode bR_evaluate 11 = .ok (.if_icmp .ge 80, 3) := by decide +kernel
theorem dR_evaluate_14 : decode bR_evaluate 14 = .ok (.aload_n 1, 1) := by decide +kernel
theorem dR_evaluate_15 : decode bR_evaluate 15 = .ok (.iload 4, 2) := by decide +kernel
theorem dR_evaluate_17 : decode bR_evaluate 17 = .ok (.iaload, 1) := by decide +kernel
theorem dR_evaluate_18 : decode bR_evaluate 18 = .ok (.istore 5, 2) := by decide +kernel
theorem dR_evaluate_20 : decode bR_evaluate 20 = .ok (.iconst 0, 1) := by decide +kernel
theorem dR_evaluate_21 : decode bR_evaluate 21 = .ok (.istore 6, 2) := by decide +kernel
theorem dR_evaluate_23 : decode bR_evaluate 23 = .ok (.iload 6, 2) := by decide +kernel
theorem dR_evaluate_25 : decode bR_evaluate 25 = .ok (.aload_n 0, 1) := by decide +kernel
theorem dR_evaluate_26 : decode bR_evaluate 26 = .ok (.getfield 42, 3) := by decide +kernel
theorem dR_evaluate_29 : decode bR_evaluate 29 = .ok (.if_icmp .ge 47, 3) := by decide +kernel
theorem dR_evaluate_32 : decode bR_evaluate 32 = .ok (.iload 6, 2) := by decide +kernel
theorem dR_evaluate_34 : decode bR_evaluate 34 = .ok (.aload_n 2, 1) := by decide +kernel
theorem dR_evaluate_35 : decode bR_evaluate 35 = .ok (.arraylength, 1) := by decide +kernel
theorem dR_evaluate_36 : decode bR_evaluate 36 = .ok (.if_icmp .ge 40, 3) := by decide +kernel
theorem dR_evaluate_39 : decode bR_evaluate 39 = .ok (.iload 5, 2) := by decide +kernel
theorem dR_evaluate_41 : decode bR_evaluate 41 = .ok (.ifCond .eq 35, 3) := by decide +kernel
theorem dR_evaluate_44 : decode bR_evaluate 44 = .ok (.aload_n 0, 1) := by decide +kernel
theorem dR_evaluate_45 : decode bR_evaluate 45 = .ok (.iload 5, 2) := by decide +kernel
theorem dR_evaluate_47 : decode bR_evaluate 47 = .ok (.aload_n 0, 1) := by decide +kernel
theorem dR_evaluate_48 : decode bR_evaluate 48 = .ok (.aload_n 2, 1) := by decide +kernel
theorem dR_evaluate_49 : decode bR_evaluate 49 = .ok (.iload 6, 2) := by decide +kernel
theorem dR_evaluate_51 : decode bR_evaluate 51 = .ok (.iaload, 1) := by decide +kernel
theorem dR_evaluate_52 : decode bR_evaluate 52 = .ok (.invokevirtual 78, 3) := by decide +kernel
theorem dR_evaluate_55 : decode bR_evaluate 55 = .ok (.aload_n 0, 1) := by decide +kernel
theorem dR_evaluate_56 : decode bR_evaluate 56 = .ok (.getfield 13, 3) := by decide +kernel
theorem dR_evaluate_59 : decode bR_evaluate 59 = .ok (.iload 6, 2) := by decide +kernel
theorem dR_evaluate_61 : decode bR_evaluate 61 = .ok (.aaload, 1) := by decide +kernel
theorem dR_evaluate_62 : decode bR_evaluate 62 = .ok (.iload 4, 2) := by decide +kernel
theorem dR_evaluate_64 : decode bR_evaluate 64 = .ok (.iaload, 1) := by decide +kernel
theorem dR_evaluate_65 : decode bR_evaluate 65 = .ok (.invokevirtual 104, 3) := by decide +kernel
theorem dR_evaluate_68 : decode bR_evaluate 68 = .ok (.istore 5, 2) := by decide +kernel
theorem dR_evaluate_70 : decode bR_evaluate 70 = .ok (.iinc 6 1, 3) := by decide +kernel
theorem dR_evaluate_73 : decode bR_evaluate 73 = .ok (.goto (-50), 3) := by decide +kernel
theorem dR_evaluate_76 : decode bR_evaluate 76 = .ok (.aload_n 0, 1) := by decide +kernel
theorem dR_evaluate_77 : decode bR_evaluate 77 = .ok (.iload_n 3, 1) := by decide +kernel
theorem dR_evaluate_78 : decode bR_evaluate 78 = .ok (.iload 5, 2) := by decide +kernel
theorem dR_evaluate_80 : decode bR_evaluate 80 = .ok (.iadd, 1) := by decide +kernel
theorem dR_evaluate_81 : decode bR_evaluate 81 = .ok (.invokevirtual 78, 3) := by decide +kernel
theorem dR_evaluate_84 : decode bR_evaluate 84 = .ok (.istore_n 3, 1) := by decide +kernel
theorem dR_evaluate_85 : decode bR_evaluate 85 = .ok (.iinc 4 1, 3) := by decide +kernel
theorem dR_evaluate_88 : decode bR_evaluate 88 = .ok (.goto (-83), 3) := by decide +kernel
theorem dR_evaluate_91 : decode bR_evaluate 91 = .ok (.iload_n 3, 1) := by decide +kernel
theorem dR_evaluate_92 : decode bR_evaluate 92 = .ok (.ireturn, 1) := by decide +kernel
theorem dR_timesPower_0 : decode bR_timesPower 0 = .ok (.iload_n 1, 1) := by decide +kernel
theorem dR_timesPower_1 : decode bR_timesPower 1 = .ok (.istore 4, 2) := by decide +kernel
theorem dR_timesPower_3 : decode bR_timesPower 3 = .ok (.iconst 0, 1) := by decide +kernel
theorem dR_timesPower_4 : decode bR_timesPower 4 = .ok (.istore 5, 2) := by decide +kernel
theorem dR_timesPower_6 : decode bR_timesPower 6 = .ok (.iload 5, 2) := by decide +kernel
theorem dR_timesPower_8 : decode bR_timesPower 8 = .ok (.iload_n 3, 1) := by decide +kernel
theorem dR_timesPower_9 : decode bR_timesPower 9 = .ok (.if_icmp .ge 19, 3) := by decide +kernel
theorem dR_timesPower_12 : decode bR_timesPower 12 = .ok (.aload_n 0, 1) := by decide +kernel
theorem dR_timesPower_13 : decode bR_timesPower 13 = .ok (.iload 4, 2) := by decide +kernel
theorem dR_timesPower_15 : decode bR_timesPower 15 = .ok (.iload_n 2, 1) := by decide +kernel
theorem dR_timesPower_16 : decode bR_timesPower 16 = .ok (.imul, 1) := by decide +kernel
theorem dR_timesPower_17 : decode bR_timesPower 17 = .ok (.invokevirtual 78, 3) := by decide +kernel
theorem dR_timesPower_20 : decode bR_timesPower 20 = .ok (.istore 4, 2) := by decide +kernel
theorem dR_timesPower_22 : decode bR_timesPower 22 = .ok (.iinc 5 1, 3) := by decide +kernel
theorem dR_timesPower_25 : decode bR_timesPower 25 = .ok (.goto (-19), 3) := by decide +kernel
theorem dR_timesPower_28 : decode bR_timesPower 28 = .ok (.iload 4, 2) := by decide +kernel
theorem dR_timesPower_30 : decode bR_timesPower 30 = .ok (.ireturn, 1) := by decide +kernel
theorem dR_addAt_0 : decode bR_addAt 0 = .ok (.iload_n 1, 1) := by decide +kernel
theorem dR_addAt_1 : decode bR_addAt 1 = .ok (.ifCond .lt 19, 3) := by decide +kernel
theorem dR_addAt_4 : decode bR_addAt 4 = .ok (.iload_n 1, 1) := by decide +kernel
theorem dR_addAt_5 : decode bR_addAt 5 = .ok (.sipush 1296, 3) := by decide +kernel
theorem dR_addAt_8 : decode bR_addAt 8 = .ok (.if_icmp .ge 12, 3) := by decide +kernel
theorem dR_addAt_11 : decode bR_addAt 11 = .ok (.aload_n 0, 1) := by decide +kernel
theorem dR_addAt_12 : decode bR_addAt 12 = .ok (.getfield 26, 3) := by decide +kernel
theorem dR_addAt_15 : decode bR_addAt 15 = .ok (.iload_n 1, 1) := by decide +kernel
theorem dR_addAt_16 : decode bR_addAt 16 = .ok (.iaload, 1) := by decide +kernel
theorem dR_addAt_17 : decode bR_addAt 17 = .ok (.goto 4, 3) := by decide +kernel
theorem dR_addAt_20 : decode bR_addAt 20 = .ok (.iconst (-1), 1) := by decide +kernel
theorem dR_addAt_21 : decode bR_addAt 21 = .ok (.istore 4, 2) := by decide +kernel
theorem dR_addAt_23 : decode bR_addAt 23 = .ok (.iload 4, 2) := by decide +kernel
theorem dR_addAt_25 : decode bR_addAt 25 = .ok (.ifCond .lt 33, 3) := by decide +kernel
theorem dR_addAt_28 : decode bR_addAt 28 = .ok (.iload 4, 2) := by decide +kernel
theorem dR_addAt_30 : decode bR_addAt 30 = .ok (.bipush 126, 2) := by decide +kernel
theorem dR_addAt_32 : decode bR_addAt 32 = .ok (.if_icmp .ge 26, 3) := by decide +kernel
theorem dR_addAt_35 : decode bR_addAt 35 = .ok (.aload_n 0, 1) := by decide +kernel
theorem dR_addAt_36 : decode bR_addAt 36 = .ok (.getfield 38, 3) := by decide +kernel
theorem dR_addAt_39 : decode bR_addAt 39 = .ok (.iconst 1, 1) := by decide +kernel
theorem dR_addAt_40 : decode bR_addAt 40 = .ok (.if_icmp .le 18, 3) := by decide +kernel
theorem dR_addAt_43 : decode bR_addAt 43 = .ok (.aload_n 3, 1) := by decide +kernel
theorem dR_addAt_44 : decode bR_addAt 44 = .ok (.iload 4, 2) := by decide +kernel
theorem dR_addAt_46 : decode bR_addAt 46 = .ok (.aload_n 3, 1) := by decide +kernel
theorem dR_addAt_47 : decode bR_addAt 47 = .ok (.iload 4, 2) := by decide +kernel
theorem dR_addAt_49 : decode bR_addAt 49 = .ok (.iaload, 1) := by decide +kernel
theorem dR_addAt_50 : decode bR_addAt 50 = .ok (.iload_n 2, 1) := by decide +kernel
theorem dR_addAt_51 : decode bR_addAt 51 = .ok (.iadd, 1) := by decide +kernel
theorem dR_addAt_52 : decode bR_addAt 52 = .ok (.aload_n 0, 1) := by decide +kernel
theorem dR_addAt_53 : decode bR_addAt 53 = .ok (.getfield 38, 3) := by decide +kernel
theorem dR_addAt_56 : decode bR_addAt 56 = .ok (.irem, 1) := by decide +kernel
theorem dR_addAt_57 : decode bR_addAt 57 = .ok (.iastore, 1) := by decide +kernel
theorem dR_addAt_58 : decode bR_addAt 58 = .ok (.return_, 1) := by decide +kernel
theorem dR_leadingOf_0 : decode bR_leadingOf 0 = .ok (.iconst 0, 1) := by decide +kernel
theorem dR_leadingOf_1 : decode bR_leadingOf 1 = .ok (.istore_n 2, 1) := by decide +kernel
theorem dR_leadingOf_2 : decode bR_leadingOf 2 = .ok (.iload_n 2, 1) := by decide +kernel
theorem dR_leadingOf_3 : decode bR_leadingOf 3 = .ok (.aload_n 0, 1) := by decide +kernel
theorem dR_leadingOf_4 : decode bR_leadingOf 4 = .ok (.getfield 54, 3) := by decide +kernel
theorem dR_leadingOf_7 : decode bR_leadingOf 7 = .ok (.if_icmp .ge 15, 3) := by decide +kernel
theorem dR_leadingOf_10 : decode bR_leadingOf 10 = .ok (.aload_n 1, 1) := by decide +kernel
theorem dR_leadingOf_11 : decode bR_leadingOf 11 = .ok (.iload_n 2, 1) := by decide +kernel
theorem dR_leadingOf_12 : decode bR_leadingOf 12 = .ok (.iaload, 1) := by decide +kernel
theorem dR_leadingOf_13 : decode bR_leadingOf 13 = .ok (.ifCond .ne 9, 3) := by decide +kernel
theorem dR_leadingOf_16 : decode bR_leadingOf 16 = .ok (.iinc 2 1, 3) := by decide +kernel
theorem dR_leadingOf_19 : decode bR_leadingOf 19 = .ok (.goto (-17), 3) := by decide +kernel
theorem dR_leadingOf_22 : decode bR_leadingOf 22 = .ok (.iload_n 2, 1) := by decide +kernel
theorem dR_leadingOf_23 : decode bR_leadingOf 23 = .ok (.ireturn, 1) := by decide +kernel
theorem dR_reduce_0 : decode bR_reduce 0 = .ok (.aload_n 0, 1) := by decide +kernel
theorem dR_reduce_1 : decode bR_reduce 1 = .ok (.getfield 38, 3) := by decide +kernel
theorem dR_reduce_4 : decode bR_reduce 4 = .ok (.iconst 2, 1) := by decide +kernel
theorem dR_reduce_5 : decode bR_reduce 5 = .ok (.if_icmp .ge 5, 3) := by decide +kernel
theorem dR_reduce_8 : decode bR_reduce 8 = .ok (.iconst 0, 1) := by decide +kernel
theorem dR_reduce_9 : decode bR_reduce 9 = .ok (.ireturn, 1) := by decide +kernel
theorem dR_reduce_10 : decode bR_reduce 10 = .ok (.iload_n 1, 1) := by decide +kernel
theorem dR_reduce_11 : decode bR_reduce 11 = .ok (.aload_n 0, 1) := by decide +kernel
theorem dR_reduce_12 : decode bR_reduce 12 = .ok (.getfield 38, 3) := by decide +kernel
theorem dR_reduce_15 : decode bR_reduce 15 = .ok (.irem, 1) := by decide +kernel
theorem dR_reduce_16 : decode bR_reduce 16 = .ok (.istore_n 2, 1) := by decide +kernel
theorem dR_reduce_17 : decode bR_reduce 17 = .ok (.iload_n 2, 1) := by decide +kernel
theorem dR_reduce_18 : decode bR_reduce 18 = .ok (.ifCond .ge 12, 3) := by decide +kernel
theorem dR_reduce_21 : decode bR_reduce 21 = .ok (.iload_n 2, 1) := by decide +kernel
theorem dR_reduce_22 : decode bR_reduce 22 = .ok (.aload_n 0, 1) := by decide +kernel
theorem dR_reduce_23 : decode bR_reduce 23 = .ok (.getfield 38, 3) := by decide +kernel
theorem dR_reduce_26 : decode bR_reduce 26 = .ok (.iadd, 1) := by decide +kernel
theorem dR_reduce_27 : decode bR_reduce 27 = .ok (.goto 4, 3) := by decide +kernel
theorem dR_reduce_30 : decode bR_reduce 30 = .ok (.iload_n 2, 1) := by decide +kernel
theorem dR_reduce_31 : decode bR_reduce 31 = .ok (.ireturn, 1) := by decide +kernel
theorem dR_prepare_0 : decode bR_prepare 0 = .ok (.iload_n 1, 1) := by decide +kernel
theorem dR_prepare_1 : decode bR_prepare 1 = .ok (.iconst 2, 1) := by decide +kernel
theorem dR_prepare_2 : decode bR_prepare 2 = .ok (.if_icmp .lt 13, 3) := by decide +kernel
theorem dR_prepare_5 : decode bR_prepare 5 = .ok (.iload_n 2, 1) := by decide +kernel
theorem dR_prepare_6 : decode bR_prepare 6 = .ok (.iconst 1, 1) := by decide +kernel
theorem dR_prepare_7 : decode bR_prepare 7 = .ok (.if_icmp .lt 8, 3) := by decide +kernel
theorem dR_prepare_10 : decode bR_prepare 10 = .ok (.iload_n 2, 1) := by decide +kernel
theorem dR_prepare_11 : decode bR_prepare 11 = .ok (.iconst 4, 1) := by decide +kernel
theorem dR_prepare_12 : decode bR_prepare 12 = .ok (.if_icmp .le 4, 3) := by decide +kernel
theorem dR_prepare_15 : decode bR_prepare 15 = .ok (.return_, 1) := by decide +kernel
theorem dR_prepare_16 : decode bR_prepare 16 = .ok (.aload_n 0, 1) := by decide +kernel
theorem dR_prepare_17 : decode bR_prepare 17 = .ok (.iload_n 1, 1) := by decide +kernel
theorem dR_prepare_18 : decode bR_prepare 18 = .ok (.putfield 38, 3) := by decide +kernel
theorem dR_prepare_21 : decode bR_prepare 21 = .ok (.aload_n 0, 1) := by decide +kernel
theorem dR_prepare_22 : decode bR_prepare 22 = .ok (.iload_n 2, 1) := by decide +kernel
theorem dR_prepare_23 : decode bR_prepare 23 = .ok (.putfield 42, 3) := by decide +kernel
theorem dR_prepare_26 : decode bR_prepare 26 = .ok (.aload_n 0, 1) := by decide +kernel
theorem dR_prepare_27 : decode bR_prepare 27 = .ok (.iload_n 3, 1) := by decide +kernel
theorem dR_prepare_28 : decode bR_prepare 28 = .ok (.putfield 45, 3) := by decide +kernel
theorem dR_prepare_31 : decode bR_prepare 31 = .ok (.aload_n 0, 1) := by decide +kernel
theorem dR_prepare_32 : decode bR_prepare 32 = .ok (.getstatic 48, 3) := by decide +kernel
theorem dR_prepare_35 : decode bR_prepare 35 = .ok (.iload_n 2, 1) := by decide +kernel
theorem dR_prepare_36 : decode bR_prepare 36 = .ok (.iconst 1, 1) := by decide +kernel
theorem dR_prepare_37 : decode bR_prepare 37 = .ok (.isub, 1) := by decide +kernel
theorem dR_prepare_38 : decode bR_prepare 38 = .ok (.iaload, 1) := by decide +kernel
theorem dR_prepare_39 : decode bR_prepare 39 = .ok (.putfield 51, 3) := by decide +kernel
theorem dR_prepare_42 : decode bR_prepare 42 = .ok (.aload_n 0, 1) := by decide +kernel
theorem dR_prepare_43 : decode bR_prepare 43 = .ok (.iconst 0, 1) := by decide +kernel
theorem dR_prepare_44 : decode bR_prepare 44 = .ok (.putfield 54, 3) := by decide +kernel
theorem dR_prepare_47 : decode bR_prepare 47 = .ok (.aload_n 0, 1) := by decide +kernel
theorem dR_prepare_48 : decode bR_prepare 48 = .ok (.getfield 26, 3) := by decide +kernel
theorem dR_prepare_51 : decode bR_prepare 51 = .ok (.iconst (-1), 1) := by decide +kernel
theorem dR_prepare_52 : decode bR_prepare 52 = .ok (.invokestatic 57, 3) := by decide +kernel
theorem dR_prepare_55 : decode bR_prepare 55 = .ok (.aload_n 0, 1) := by decide +kernel
theorem dR_prepare_56 : decode bR_prepare 56 = .ok (.getfield 29, 3) := by decide +kernel
theorem dR_prepare_59 : decode bR_prepare 59 = .ok (.iconst 0, 1) := by decide +kernel
theorem dR_prepare_60 : decode bR_prepare 60 = .ok (.invokestatic 57, 3) := by decide +kernel
theorem dR_prepare_63 : decode bR_prepare 63 = .ok (.iconst 1, 1) := by decide +kernel
theorem dR_prepare_64 : decode bR_prepare 64 = .ok (.istore 4, 2) := by decide +kernel
theorem dR_prepare_66 : decode bR_prepare 66 = .ok (.iconst 0, 1) := by decide +kernel
theorem dR_prepare_67 : decode bR_prepare 67 = .ok (.istore 5, 2) := by decide +kernel
theorem dR_prepare_69 : decode bR_prepare 69 = .ok (.iload 5, 2) := by decide +kernel
theorem dR_prepare_71 : decode bR_prepare 71 = .ok (.iconst 4, 1) := by decide +kernel
theorem dR_prepare_72 : decode bR_prepare 72 = .ok (.if_icmp .ge 42, 3) := by decide +kernel
theorem dR_prepare_75 : decode bR_prepare 75 = .ok (.aload_n 0, 1) := by decide +kernel
theorem dR_prepare_76 : decode bR_prepare 76 = .ok (.getfield 23, 3) := by decide +kernel
theorem dR_prepare_79 : decode bR_prepare 79 = .ok (.iload 5, 2) := by decide +kernel
theorem dR_prepare_81 : decode bR_prepare 81 = .ok (.iload 5, 2) := by decide +kernel
theorem dR_prepare_83 : decode bR_prepare 83 = .ok (.aload_n 0, 1) := by decide +kernel
theorem dR_prepare_84 : decode bR_prepare 84 = .ok (.getfield 42, 3) := by decide +kernel
theorem dR_prepare_87 : decode bR_prepare 87 = .ok (.if_icmp .ge 8, 3) := by decide +kernel
theorem dR_prepare_90 : decode bR_prepare 90 = .ok (.iload 4, 2) := by decide +kernel
theorem dR_prepare_92 : decode bR_prepare 92 = .ok (.goto 4, 3) := by decide +kernel
theorem dR_prepare_95 : decode bR_prepare 95 = .ok (.iconst 0, 1) := by decide +kernel
theorem dR_prepare_96 : decode bR_prepare 96 = .ok (.iastore, 1) := by decide +kernel
theorem dR_prepare_97 : decode bR_prepare 97 = .ok (.iload 4, 2) := by decide +kernel
theorem dR_prepare_99 : decode bR_prepare 99 = .ok (.aload_n 0, 1) := by decide +kernel
theorem dR_prepare_100 : decode bR_prepare 100 = .ok (.getfield 51, 3) := by decide +kernel
theorem dR_prepare_103 : decode bR_prepare 103 = .ok (.iconst 1, 1) := by decide +kernel
theorem dR_prepare_104 : decode bR_prepare 104 = .ok (.iadd, 1) := by decide +kernel
theorem dR_prepare_105 : decode bR_prepare 105 = .ok (.imul, 1) := by decide +kernel
theorem dR_prepare_106 : decode bR_prepare 106 = .ok (.istore 4, 2) := by decide +kernel
theorem dR_prepare_108 : decode bR_prepare 108 = .ok (.iinc 5 1, 3) := by decide +kernel
theorem dR_prepare_111 : decode bR_prepare 111 = .ok (.goto (-42), 3) := by decide +kernel
theorem dR_prepare_114 : decode bR_prepare 114 = .ok (.aload_n 0, 1) := by decide +kernel
theorem dR_prepare_115 : decode bR_prepare 115 = .ok (.getfield 51, 3) := by decide +kernel
theorem dR_prepare_118 : decode bR_prepare 118 = .ok (.istore 5, 2) := by decide +kernel
theorem dR_prepare_120 : decode bR_prepare 120 = .ok (.iload 5, 2) := by decide +kernel
theorem dR_prepare_122 : decode bR_prepare 122 = .ok (.ifCond .lt 18, 3) := by decide +kernel
theorem dR_prepare_125 : decode bR_prepare 125 = .ok (.aload_n 0, 1) := by decide +kernel
theorem dR_prepare_126 : decode bR_prepare 126 = .ok (.iconst 0, 1) := by decide +kernel
theorem dR_prepare_127 : decode bR_prepare 127 = .ok (.iload 5, 2) := by decide +kernel
theorem dR_prepare_129 : decode bR_prepare 129 = .ok (.iload 5, 2) := by decide +kernel
theorem dR_prepare_131 : decode bR_prepare 131 = .ok (.invokevirtual 63, 3) := by decide +kernel
theorem dR_prepare_134 : decode bR_prepare 134 = .ok (.iinc 5 (-1), 3) := by decide +kernel
theorem dR_prepare_137 : decode bR_prepare 137 = .ok (.goto (-17), 3) := by decide +kernel
theorem dR_prepare_140 : decode bR_prepare 140 = .ok (.return_, 1) := by decide +kernel
theorem dR_listMonomials_0 : decode bR_listMonomials 0 = .ok (.iload_n 1, 1) := by decide +kernel
theorem dR_listMonomials_1 : decode bR_listMonomials 1 = .ok (.ifCond .lt 11, 3) := by decide +kernel
theorem dR_listMonomials_4 : decode bR_listMonomials 4 = .ok (.iload_n 1, 1) := by decide +kernel
theorem dR_listMonomials_5 : decode bR_listMonomials 5 = .ok (.aload_n 0, 1) := by decide +kernel
theorem dR_listMonomials_6 : decode bR_listMonomials 6 = .ok (.getfield 42, 3) := by decide +kernel
theorem dR_listMonomials_9 : decode bR_listMonomials 9 = .ok (.if_icmp .lt 4, 3) := by decide +kernel
theorem dR_listMonomials_12 : decode bR_listMonomials 12 = .ok (.return_, 1) := by decide +kernel
theorem dR_listMonomials_13 : decode bR_listMonomials 13 = .ok (.aload_n 0, 1) := by decide +kernel
theorem dR_listMonomials_14 : decode bR_listMonomials 14 = .ok (.getfield 45, 3) := by decide +kernel
theorem dR_listMonomials_17 : decode bR_listMonomials 17 = .ok (.iconst 1, 1) := by decide +kernel
theorem dR_listMonomials_18 : decode bR_listMonomials 18 = .ok (.if_icmp .ne 7, 3) := by decide +kernel
theorem dR_listMonomials_21 : decode bR_listMonomials 21 = .ok (.iload_n 1, 1) := by decide +kernel
theorem dR_listMonomials_22 : decode bR_listMonomials 22 = .ok (.goto 11, 3) := by decide +kernel
theorem dR_listMonomials_25 : decode bR_listMonomials 25 = .ok (.aload_n 0, 1) := by decide +kernel
theorem dR_listMonomials_26 : decode bR_listMonomials 26 = .ok (.getfield 42, 3) := by decide +kernel
theorem dR_listMonomials_29 : decode bR_listMonomials 29 = .ok (.iconst 1, 1) := by decide +kernel
theorem dR_listMonomials_30 : decode bR_listMonomials 30 = .ok (.isub, 1) := by decide +kernel
theorem dR_listMonomials_31 : decode bR_listMonomials 31 = .ok (.iload_n 1, 1) := by decide +kernel
theorem dR_listMonomials_32 : decode bR_listMonomials 32 = .ok (.isub, 1) := by decide +kernel
theorem dR_listMonomials_33 : decode bR_listMonomials 33 = .ok (.istore 4, 2) := by decide +kernel
theorem dR_listMonomials_35 : decode bR_listMonomials 35 = .ok (.iload_n 1, 1) := by decide +kernel
theorem dR_listMonomials_36 : decode bR_listMonomials 36 = .ok (.aload_n 0, 1) := by decide +kernel
theorem dR_listMonomials_37 : decode bR_listMonomials 37 = .ok (.getfield 42, 3) := by decide +kernel
theorem dR_listMonomials_40 : decode bR_listMonomials 40 = .ok (.iconst 1, 1) := by decide +kernel
theorem dR_listMonomials_41 : decode bR_listMonomials 41 = .ok (.isub, 1) := by decide +kernel
theorem dR_listMonomials_42 : decode bR_listMonomials 42 = .ok (.if_icmp .ne 17, 3) := by decide +kernel
theorem dR_listMonomials_45 : decode bR_listMonomials 45 = .ok (.aload_n 0, 1) := by decide +kernel
theorem dR_listMonomials_46 : decode bR_listMonomials 46 = .ok (.getfield 29, 3) := by decide +kernel
theorem dR_listMonomials_49 : decode bR_listMonomials 49 = .ok (.iload 4, 2) := by decide +kernel
theorem dR_listMonomials_51 : decode bR_listMonomials 51 = .ok (.iload_n 2, 1) := by decide +kernel
theorem dR_listMonomials_52 : decode bR_listMonomials 52 = .ok (.iastore, 1) := by decide +kernel
theorem dR_listMonomials_53 : decode bR_listMonomials 53 = .ok (.aload_n 0, 1) := by decide +kernel
theorem dR_listMonomials_54 : decode bR_listMonomials 54 = .ok (.iload_n 3, 1) := by decide +kernel
theorem dR_listMonomials_55 : decode bR_listMonomials 55 = .ok (.invokevirtual 67, 3) := by decide +kernel
theorem dR_listMonomials_58 : decode bR_listMonomials 58 = .ok (.return_, 1) := by decide +kernel
theorem dR_listMonomials_59 : decode bR_listMonomials 59 = .ok (.iconst 0, 1) := by decide +kernel
theorem dR_listMonomials_60 : decode bR_listMonomials 60 = .ok (.istore 5, 2) := by decide +kernel
theorem dR_listMonomials_62 : decode bR_listMonomials 62 = .ok (.iload 5, 2) := by decide +kernel
theorem dR_listMonomials_64 : decode bR_listMonomials 64 = .ok (.iload_n 2, 1) := by decide +kernel
theorem dR_listMonomials_65 : decode bR_listMonomials 65 = .ok (.if_icmp .gt 49, 3) := by decide +kernel
theorem dR_listMonomials_68 : decode bR_listMonomials 68 = .ok (.aload_n 0, 1) := by decide +kernel
theorem dR_listMonomials_69 : decode bR_listMonomials 69 = .ok (.getfield 45, 3) := by decide +kernel
theorem dR_listMonomials_72 : decode bR_listMonomials 72 = .ok (.iconst 1, 1) := by decide +kernel
theorem dR_listMonomials_73 : decode bR_listMonomials 73 = .ok (.if_icmp .ne 10, 3) := by decide +kernel
theorem dR_listMonomials_76 : decode bR_listMonomials 76 = .ok (.iload_n 2, 1) := by decide +kernel
theorem dR_listMonomials_77 : decode bR_listMonomials 77 = .ok (.iload 5, 2) := by decide +kernel
theorem dR_listMonomials_79 : decode bR_listMonomials 79 = .ok (.isub, 1) := by decide +kernel
theorem dR_listMonomials_80 : decode bR_listMonomials 80 = .ok (.goto 5, 3) := by decide +kernel
theorem dR_listMonomials_83 : decode bR_listMonomials 83 = .ok (.iload 5, 2) := by decide +kernel
theorem dR_listMonomials_85 : decode bR_listMonomials 85 = .ok (.istore 6, 2) := by decide +kernel
theorem dR_listMonomials_87 : decode bR_listMonomials 87 = .ok (.aload_n 0, 1) := by decide +kernel
theorem dR_listMonomials_88 : decode bR_listMonomials 88 = .ok (.getfield 29, 3) := by decide +kernel
theorem dR_listMonomials_91 : decode bR_listMonomials 91 = .ok (.iload 4, 2) := by decide +kernel
theorem dR_listMonomials_93 : decode bR_listMonomials 93 = .ok (.iload 6, 2) := by decide +kernel
theorem dR_listMonomials_95 : decode bR_listMonomials 95 = .ok (.iastore, 1) := by decide +kernel
theorem dR_listMonomials_96 : decode bR_listMonomials 96 = .ok (.aload_n 0, 1) := by decide +kernel
theorem dR_listMonomials_97 : decode bR_listMonomials 97 = .ok (.iload_n 1, 1) := by decide +kernel
theorem dR_listMonomials_98 : decode bR_listMonomials 98 = .ok (.iconst 1, 1) := by decide +kernel
theorem dR_listMonomials_99 : decode bR_listMonomials 99 = .ok (.iadd, 1) := by decide +kernel
theorem dR_listMonomials_100 : decode bR_listMonomials 100 = .ok (.iload_n 2, 1) := by decide +kernel
theorem dR_listMonomials_101 : decode bR_listMonomials 101 = .ok (.iload 6, 2) := by decide +kernel
theorem dR_listMonomials_103 : decode bR_listMonomials 103 = .ok (.isub, 1) := by decide +kernel
theorem dR_listMonomials_104 : decode bR_listMonomials 104 = .ok (.iload_n 3, 1) := by decide +kernel
theorem dR_listMonomials_105 : decode bR_listMonomials 105 = .ok (.invokevirtual 63, 3) := by decide +kernel
theorem dR_listMonomials_108 : decode bR_listMonomials 108 = .ok (.iinc 5 1, 3) := by decide +kernel
theorem dR_listMonomials_111 : decode bR_listMonomials 111 = .ok (.goto (-49), 3) := by decide +kernel
theorem dR_listMonomials_114 : decode bR_listMonomials 114 = .ok (.return_, 1) := by decide +kernel
theorem dR_recordMonomial_0 : decode bR_recordMonomial 0 = .ok (.aload_n 0, 1) := by decide +kernel
theorem dR_recordMonomial_1 : decode bR_recordMonomial 1 = .ok (.getfield 54, 3) := by decide +kernel
theorem dR_recordMonomial_4 : decode bR_recordMonomial 4 = .ok (.bipush 126, 2) := by decide +kernel
theorem dR_recordMonomial_6 : decode bR_recordMonomial 6 = .ok (.if_icmp .lt 4, 3) := by decide +kernel
theorem dR_recordMonomial_9 : decode bR_recordMonomial 9 = .ok (.return_, 1) := by decide +kernel
theorem dR_recordMonomial_10 : decode bR_recordMonomial 10 = .ok (.iconst 0, 1) := by decide +kernel
theorem dR_recordMonomial_11 : decode bR_recordMonomial 11 = .ok (.istore_n 2, 1) := by decide +kernel
theorem dR_recordMonomial_12 : decode bR_recordMonomial 12 = .ok (.iconst 0, 1) := by decide +kernel
theorem dR_recordMonomial_13 : decode bR_recordMonomial 13 = .ok (.istore_n 3, 1) := by decide +kernel
theorem dR_recordMonomial_14 : decode bR_recordMonomial 14 = .ok (.iload_n 3, 1) := by decide +kernel
theorem dR_recordMonomial_15 : decode bR_recordMonomial 15 = .ok (.iconst 4, 1) := by decide +kernel
theorem dR_recordMonomial_16 : decode bR_recordMonomial 16 = .ok (.if_icmp .ge 42, 3) := by decide +kernel
theorem dR_recordMonomial_19 : decode bR_recordMonomial 19 = .ok (.aload_n 0, 1) := by decide +kernel
theorem dR_recordMonomial_20 : decode bR_recordMonomial 20 = .ok (.getfield 13, 3) := by decide +kernel
theorem dR_recordMonomial_23 : decode bR_recordMonomial 23 = .ok (.iload_n 3, 1) := by decide +kernel
theorem dR_recordMonomial_24 : decode bR_recordMonomial 24 = .ok (.aaload, 1) := by decide +kernel
theorem dR_recordMonomial_25 : decode bR_recordMonomial 25 = .ok (.aload_n 0, 1) := by decide +kernel
theorem dR_recordMonomial_26 : decode bR_recordMonomial 26 = .ok (.getfield 54, 3) := by decide +kernel
theorem dR_recordMonomial_29 : decode bR_recordMonomial 29 = .ok (.aload_n 0, 1) := by decide +kernel
theorem dR_recordMonomial_30 : decode bR_recordMonomial 30 = .ok (.getfield 29, 3) := by decide +kernel
theorem dR_recordMonomial_33 : decode bR_recordMonomial 33 = .ok (.iload_n 3, 1) := by decide +kernel
theorem dR_recordMonomial_34 : decode bR_recordMonomial 34 = .ok (.iaload, 1) := by decide +kernel
theorem dR_recordMonomial_35 : decode bR_recordMonomial 35 = .ok (.iastore, 1) := by decide +kernel
theorem dR_recordMonomial_36 : decode bR_recordMonomial 36 = .ok (.iload_n 2, 1) := by decide +kernel
theorem dR_recordMonomial_37 : decode bR_recordMonomial 37 = .ok (.aload_n 0, 1) := by decide +kernel
theorem dR_recordMonomial_38 : decode bR_recordMonomial 38 = .ok (.getfield 29, 3) := by decide +kernel
theorem dR_recordMonomial_41 : decode bR_recordMonomial 41 = .ok (.iload_n 3, 1) := by decide +kernel
theorem dR_recordMonomial_42 : decode bR_recordMonomial 42 = .ok (.iaload, 1) := by decide +kernel
theorem dR_recordMonomial_43 : decode bR_recordMonomial 43 = .ok (.aload_n 0, 1) := by decide +kernel
theorem dR_recordMonomial_44 : decode bR_recordMonomial 44 = .ok (.getfield 23, 3) := by decide +kernel
theorem dR_recordMonomial_47 : decode bR_recordMonomial 47 = .ok (.iload_n 3, 1) := by decide +kernel
theorem dR_recordMonomial_48 : decode bR_recordMonomial 48 = .ok (.iaload, 1) := by decide +kernel
theorem dR_recordMonomial_49 : decode bR_recordMonomial 49 = .ok (.imul, 1) := by decide +kernel
theorem dR_recordMonomial_50 : decode bR_recordMonomial 50 = .ok (.iadd, 1) := by decide +kernel
theorem dR_recordMonomial_51 : decode bR_recordMonomial 51 = .ok (.istore_n 2, 1) := by decide +kernel
theorem dR_recordMonomial_52 : decode bR_recordMonomial 52 = .ok (.iinc 3 1, 3) := by decide +kernel
theorem dR_recordMonomial_55 : decode bR_recordMonomial 55 = .ok (.goto (-41), 3) := by decide +kernel
theorem dR_recordMonomial_58 : decode bR_recordMonomial 58 = .ok (.aload_n 0, 1) := by decide +kernel
theorem dR_recordMonomial_59 : decode bR_recordMonomial 59 = .ok (.getfield 16, 3) := by decide +kernel
theorem dR_recordMonomial_62 : decode bR_recordMonomial 62 = .ok (.aload_n 0, 1) := by decide +kernel
theorem dR_recordMonomial_63 : decode bR_recordMonomial 63 = .ok (.getfield 54, 3) := by decide +kernel
theorem dR_recordMonomial_66 : decode bR_recordMonomial 66 = .ok (.iload_n 1, 1) := by decide +kernel
theorem dR_recordMonomial_67 : decode bR_recordMonomial 67 = .ok (.iastore, 1) := by decide +kernel
theorem dR_recordMonomial_68 : decode bR_recordMonomial 68 = .ok (.aload_n 0, 1) := by decide +kernel
theorem dR_recordMonomial_69 : decode bR_recordMonomial 69 = .ok (.getfield 20, 3) := by decide +kernel
theorem dR_recordMonomial_72 : decode bR_recordMonomial 72 = .ok (.aload_n 0, 1) := by decide +kernel
theorem dR_recordMonomial_73 : decode bR_recordMonomial 73 = .ok (.getfield 54, 3) := by decide +kernel
theorem dR_recordMonomial_76 : decode bR_recordMonomial 76 = .ok (.iload_n 2, 1) := by decide +kernel
theorem dR_recordMonomial_77 : decode bR_recordMonomial 77 = .ok (.iastore, 1) := by decide +kernel
theorem dR_recordMonomial_78 : decode bR_recordMonomial 78 = .ok (.iload_n 2, 1) := by decide +kernel
theorem dR_recordMonomial_79 : decode bR_recordMonomial 79 = .ok (.ifCond .lt 20, 3) := by decide +kernel
theorem dR_recordMonomial_82 : decode bR_recordMonomial 82 = .ok (.iload_n 2, 1) := by decide +kernel
theorem dR_recordMonomial_83 : decode bR_recordMonomial 83 = .ok (.sipush 1296, 3) := by decide +kernel
theorem dR_recordMonomial_86 : decode bR_recordMonomial 86 = .ok (.if_icmp .ge 13, 3) := by decide +kernel
theorem dR_recordMonomial_89 : decode bR_recordMonomial 89 = .ok (.aload_n 0, 1) := by decide +kernel
theorem dR_recordMonomial_90 : decode bR_recordMonomial 90 = .ok (.getfield 26, 3) := by decide +kernel
theorem dR_recordMonomial_93 : decode bR_recordMonomial 93 = .ok (.iload_n 2, 1) := by decide +kernel
theorem dR_recordMonomial_94 : decode bR_recordMonomial 94 = .ok (.aload_n 0, 1) := by decide +kernel
theorem dR_recordMonomial_95 : decode bR_recordMonomial 95 = .ok (.getfield 54, 3) := by decide +kernel
theorem dR_recordMonomial_98 : decode bR_recordMonomial 98 = .ok (.iastore, 1) := by decide +kernel
theorem dR_recordMonomial_99 : decode bR_recordMonomial 99 = .ok (.aload_n 0, 1) := by decide +kernel
theorem dR_recordMonomial_100 : decode bR_recordMonomial 100 = .ok (.dup, 1) := by decide +kernel
theorem dR_recordMonomial_101 : decode bR_recordMonomial 101 = .ok (.getfield 54, 3) := by decide +kernel
theorem dR_recordMonomial_104 : decode bR_recordMonomial 104 = .ok (.iconst 1, 1) := by decide +kernel
theorem dR_recordMonomial_105 : decode bR_recordMonomial 105 = .ok (.iadd, 1) := by decide +kernel
theorem dR_recordMonomial_106 : decode bR_recordMonomial 106 = .ok (.putfield 54, 3) := by decide +kernel
theorem dR_recordMonomial_109 : decode bR_recordMonomial 109 = .ok (.return_, 1) := by decide +kernel
theorem dR_variables_0 : decode bR_variables 0 = .ok (.aload_n 0, 1) := by decide +kernel
theorem dR_variables_1 : decode bR_variables 1 = .ok (.getfield 42, 3) := by decide +kernel
theorem dR_variables_4 : decode bR_variables 4 = .ok (.ireturn, 1) := by decide +kernel
theorem dR_exponentOf_0 : decode bR_exponentOf 0 = .ok (.iload_n 1, 1) := by decide +kernel
theorem dR_exponentOf_1 : decode bR_exponentOf 1 = .ok (.ifCond .lt 20, 3) := by decide +kernel
theorem dR_exponentOf_4 : decode bR_exponentOf 4 = .ok (.iload_n 1, 1) := by decide +kernel
theorem dR_exponentOf_5 : decode bR_exponentOf 5 = .ok (.aload_n 0, 1) := by decide +kernel
theorem dR_exponentOf_6 : decode bR_exponentOf 6 = .ok (.getfield 54, 3) := by decide +kernel
theorem dR_exponentOf_9 : decode bR_exponentOf 9 = .ok (.if_icmp .ge 12, 3) := by decide +kernel
theorem dR_exponentOf_12 : decode bR_exponentOf 12 = .ok (.iload_n 2, 1) := by decide +kernel
theorem dR_exponentOf_13 : decode bR_exponentOf 13 = .ok (.ifCond .lt 8, 3) := by decide +kernel
theorem dR_exponentOf_16 : decode bR_exponentOf 16 = .ok (.iload_n 2, 1) := by decide +kernel
theorem dR_exponentOf_17 : decode bR_exponentOf 17 = .ok (.iconst 4, 1) := by decide +kernel
theorem dR_exponentOf_18 : decode bR_exponentOf 18 = .ok (.if_icmp .lt 5, 3) := by decide +kernel
theorem dR_exponentOf_21 : decode bR_exponentOf 21 = .ok (.iconst 0, 1) := by decide +kernel
theorem dR_exponentOf_22 : decode bR_exponentOf 22 = .ok (.ireturn, 1) := by decide +kernel
theorem dR_exponentOf_23 : decode bR_exponentOf 23 = .ok (.aload_n 0, 1) := by decide +kernel
theorem dR_exponentOf_24 : decode bR_exponentOf 24 = .ok (.getfield 13, 3) := by decide +kernel
theorem dR_exponentOf_27 : decode bR_exponentOf 27 = .ok (.iload_n 2, 1) := by decide +kernel
theorem dR_exponentOf_28 : decode bR_exponentOf 28 = .ok (.aaload, 1) := by decide +kernel
theorem dR_exponentOf_29 : decode bR_exponentOf 29 = .ok (.iload_n 1, 1) := by decide +kernel
theorem dR_exponentOf_30 : decode bR_exponentOf 30 = .ok (.iaload, 1) := by decide +kernel
theorem dR_exponentOf_31 : decode bR_exponentOf 31 = .ok (.ireturn, 1) := by decide +kernel
theorem dR_countTerms_0 : decode bR_countTerms 0 = .ok (.iconst 0, 1) := by decide +kernel
theorem dR_countTerms_1 : decode bR_countTerms 1 = .ok (.istore_n 2, 1) := by decide +kernel
theorem dR_countTerms_2 : decode bR_countTerms 2 = .ok (.iconst 0, 1) := by decide +kernel
theorem dR_countTerms_3 : decode bR_countTerms 3 = .ok (.istore_n 3, 1) := by decide +kernel
theorem dR_countTerms_4 : decode bR_countTerms 4 = .ok (.iload_n 3, 1) := by decide +kernel
theorem dR_countTerms_5 : decode bR_countTerms 5 = .ok (.aload_n 0, 1) := by decide +kernel
theorem dR_countTerms_6 : decode bR_countTerms 6 = .ok (.getfield 54, 3) := by decide +kernel
theorem dR_countTerms_9 : decode bR_countTerms 9 = .ok (.if_icmp .ge 18, 3) := by decide +kernel
theorem dR_countTerms_12 : decode bR_countTerms 12 = .ok (.aload_n 1, 1) := by decide +kernel
theorem dR_countTerms_13 : decode bR_countTerms 13 = .ok (.iload_n 3, 1) := by decide +kernel
theorem dR_countTerms_14 : decode bR_countTerms 14 = .ok (.iaload, 1) := by decide +kernel
theorem dR_countTerms_15 : decode bR_countTerms 15 = .ok (.ifCond .eq 6, 3) := by decide +kernel
theorem dR_countTerms_18 : decode bR_countTerms 18 = .ok (.iinc 2 1, 3) := by decide +kernel
theorem dR_countTerms_21 : decode bR_countTerms 21 = .ok (.iinc 3 1, 3) := by decide +kernel
theorem dR_countTerms_24 : decode bR_countTerms 24 = .ok (.goto (-20), 3) := by decide +kernel
theorem dR_countTerms_27 : decode bR_countTerms 27 = .ok (.iload_n 2, 1) := by decide +kernel
theorem dR_countTerms_28 : decode bR_countTerms 28 = .ok (.ireturn, 1) := by decide +kernel
theorem dR_indexOfTerm_0 : decode bR_indexOfTerm 0 = .ok (.iconst 0, 1) := by decide +kernel
theorem dR_indexOfTerm_1 : decode bR_indexOfTerm 1 = .ok (.istore_n 3, 1) := by decide +kernel
theorem dR_indexOfTerm_2 : decode bR_indexOfTerm 2 = .ok (.iconst 0, 1) := by decide +kernel
theorem dR_indexOfTerm_3 : decode bR_indexOfTerm 3 = .ok (.istore 4, 2) := by decide +kernel
theorem dR_indexOfTerm_5 : decode bR_indexOfTerm 5 = .ok (.iload 4, 2) := by decide +kernel
theorem dR_indexOfTerm_7 : decode bR_indexOfTerm 7 = .ok (.aload_n 0, 1) := by decide +kernel
theorem dR_indexOfTerm_8 : decode bR_indexOfTerm 8 = .ok (.getfield 54, 3) := by decide +kernel
theorem dR_indexOfTerm_11 : decode bR_indexOfTerm 11 = .ok (.if_icmp .ge 27, 3) := by decide +kernel
theorem dR_indexOfTerm_14 : decode bR_indexOfTerm 14 = .ok (.aload_n 1, 1) := by decide +kernel
theorem dR_indexOfTerm_15 : decode bR_indexOfTerm 15 = .ok (.iload 4, 2) := by decide +kernel
theorem dR_indexOfTerm_17 : decode bR_indexOfTerm 17 = .ok (.iaload, 1) := by decide +kernel
theorem dR_indexOfTerm_18 : decode bR_indexOfTerm 18 = .ok (.ifCond .eq 14, 3) := by decide +kernel
theorem dR_indexOfTerm_21 : decode bR_indexOfTerm 21 = .ok (.iload_n 3, 1) := by decide +kernel
theorem dR_indexOfTerm_22 : decode bR_indexOfTerm 22 = .ok (.iload_n 2, 1) := by decide +kernel
theorem dR_indexOfTerm_23 : decode bR_indexOfTerm 23 = .ok (.if_icmp .ne 6, 3) := by decide +kernel
theorem dR_indexOfTerm_26 : decode bR_indexOfTerm 26 = .ok (.iload 4, 2) := by decide +kernel
theorem dR_indexOfTerm_28 : decode bR_indexOfTerm 28 = .ok (.ireturn, 1) := by decide +kernel
theorem dR_indexOfTerm_29 : decode bR_indexOfTerm 29 = .ok (.iinc 3 1, 3) := by decide +kernel
theorem dR_indexOfTerm_32 : decode bR_indexOfTerm 32 = .ok (.iinc 4 1, 3) := by decide +kernel
theorem dR_indexOfTerm_35 : decode bR_indexOfTerm 35 = .ok (.goto (-30), 3) := by decide +kernel
theorem dR_indexOfTerm_38 : decode bR_indexOfTerm 38 = .ok (.iconst (-1), 1) := by decide +kernel
theorem dR_indexOfTerm_39 : decode bR_indexOfTerm 39 = .ok (.ireturn, 1) := by decide +kernel
theorem dR_degreeOf_0 : decode bR_degreeOf 0 = .ok (.aload_n 0, 1) := by decide +kernel
theorem dR_degreeOf_1 : decode bR_degreeOf 1 = .ok (.aload_n 1, 1) := by decide +kernel
theorem dR_degreeOf_2 : decode bR_degreeOf 2 = .ok (.invokevirtual 71, 3) := by decide +kernel
theorem dR_degreeOf_5 : decode bR_degreeOf 5 = .ok (.istore_n 2, 1) := by decide +kernel
theorem dR_degreeOf_6 : decode bR_degreeOf 6 = .ok (.iload_n 2, 1) := by decide +kernel
theorem dR_degreeOf_7 : decode bR_degreeOf 7 = .ok (.aload_n 0, 1) := by decide +kernel
theorem dR_degreeOf_8 : decode bR_degreeOf 8 = .ok (.getfield 54, 3) := by decide +kernel
theorem dR_degreeOf_11 : decode bR_degreeOf 11 = .ok (.if_icmp .ge 12, 3) := by decide +kernel
theorem dR_degreeOf_14 : decode bR_degreeOf 14 = .ok (.aload_n 0, 1) := by decide +kernel
theorem dR_degreeOf_15 : decode bR_degreeOf 15 = .ok (.getfield 16, 3) := by decide +kernel
theorem dR_degreeOf_18 : decode bR_degreeOf 18 = .ok (.iload_n 2, 1) := by decide +kernel
theorem dR_degreeOf_19 : decode bR_degreeOf 19 = .ok (.iaload, 1) := by decide +kernel
theorem dR_degreeOf_20 : decode bR_degreeOf 20 = .ok (.goto 4, 3) := by decide +kernel
theorem dR_degreeOf_23 : decode bR_degreeOf 23 = .ok (.iconst (-1), 1) := by decide +kernel
theorem dR_degreeOf_24 : decode bR_degreeOf 24 = .ok (.ireturn, 1) := by decide +kernel
theorem dJ_fill_0 : decode bJ_fill 0 = .ok (.iconst 0, 1) := by decide +kernel
theorem dJ_fill_1 : decode bJ_fill 1 = .ok (.istore_n 2, 1) := by decide +kernel
theorem dJ_fill_2 : decode bJ_fill 2 = .ok (.aload_n 0, 1) := by decide +kernel
theorem dJ_fill_3 : decode bJ_fill 3 = .ok (.arraylength, 1) := by decide +kernel
theorem dJ_fill_4 : decode bJ_fill 4 = .ok (.istore_n 3, 1) := by decide +kernel
theorem dJ_fill_5 : decode bJ_fill 5 = .ok (.iload_n 2, 1) := by decide +kernel
theorem dJ_fill_6 : decode bJ_fill 6 = .ok (.iload_n 3, 1) := by decide +kernel
theorem dJ_fill_7 : decode bJ_fill 7 = .ok (.if_icmp .ge 13, 3) := by decide +kernel
theorem dJ_fill_10 : decode bJ_fill 10 = .ok (.aload_n 0, 1) := by decide +kernel
theorem dJ_fill_11 : decode bJ_fill 11 = .ok (.iload_n 2, 1) := by decide +kernel
theorem dJ_fill_12 : decode bJ_fill 12 = .ok (.iload_n 1, 1) := by decide +kernel
theorem dJ_fill_13 : decode bJ_fill 13 = .ok (.iastore, 1) := by decide +kernel
theorem dJ_fill_14 : decode bJ_fill 14 = .ok (.iinc 2 1, 3) := by decide +kernel
theorem dJ_fill_17 : decode bJ_fill 17 = .ok (.goto (-12), 3) := by decide +kernel
theorem dJ_fill_20 : decode bJ_fill 20 = .ok (.return_, 1) := by decide +kernel
