/-! decode rows, by program -/
theorem dK_value_0 : decode bK_value 0 = .ok (.iload_n 1, 1) := by decide +kernel
theorem dK_value_1 : decode bK_value 1 = .ok (.invokestatic 73, 3) := by decide +kernel
theorem dK_value_4 : decode bK_value 4 = .ok (.aload_n 0, 1) := by decide +kernel
theorem dK_value_5 : decode bK_value 5 = .ok (.getfield 41, 3) := by decide +kernel
theorem dK_value_8 : decode bK_value 8 = .ok (.iconst 0, 1) := by decide +kernel
theorem dK_value_9 : decode bK_value 9 = .ok (.iload_n 2, 1) := by decide +kernel
theorem dK_value_10 : decode bK_value 10 = .ok (.iastore, 1) := by decide +kernel
theorem dK_value_11 : decode bK_value 11 = .ok (.aload_n 0, 1) := by decide +kernel
theorem dK_value_12 : decode bK_value 12 = .ok (.getfield 41, 3) := by decide +kernel
theorem dK_value_15 : decode bK_value 15 = .ok (.iconst 1, 1) := by decide +kernel
theorem dK_value_16 : decode bK_value 16 = .ok (.iload_n 3, 1) := by decide +kernel
theorem dK_value_17 : decode bK_value 17 = .ok (.iastore, 1) := by decide +kernel
theorem dK_value_18 : decode bK_value 18 = .ok (.aload_n 0, 1) := by decide +kernel
theorem dK_value_19 : decode bK_value 19 = .ok (.getfield 41, 3) := by decide +kernel
theorem dK_value_22 : decode bK_value 22 = .ok (.iconst 2, 1) := by decide +kernel
theorem dK_value_23 : decode bK_value 23 = .ok (.iload 4, 2) := by decide +kernel
theorem dK_value_25 : decode bK_value 25 = .ok (.iastore, 1) := by decide +kernel
theorem dK_value_26 : decode bK_value 26 = .ok (.aload_n 0, 1) := by decide +kernel
theorem dK_value_27 : decode bK_value 27 = .ok (.getfield 41, 3) := by decide +kernel
theorem dK_value_30 : decode bK_value 30 = .ok (.iconst 3, 1) := by decide +kernel
theorem dK_value_31 : decode bK_value 31 = .ok (.iload 5, 2) := by decide +kernel
theorem dK_value_33 : decode bK_value 33 = .ok (.iastore, 1) := by decide +kernel
theorem dK_value_34 : decode bK_value 34 = .ok (.aload_n 0, 1) := by decide +kernel
theorem dK_value_35 : decode bK_value 35 = .ok (.getfield 10, 3) := by decide +kernel
theorem dK_value_38 : decode bK_value 38 = .ok (.aload_n 0, 1) := by decide +kernel
theorem dK_value_39 : decode bK_value 39 = .ok (.getfield 38, 3) := by decide +kernel
theorem dK_value_42 : decode bK_value 42 = .ok (.iload_n 1, 1) := by decide +kernel
theorem dK_value_43 : decode bK_value 43 = .ok (.aaload, 1) := by decide +kernel
theorem dK_value_44 : decode bK_value 44 = .ok (.aload_n 0, 1) := by decide +kernel
theorem dK_value_45 : decode bK_value 45 = .ok (.getfield 41, 3) := by decide +kernel
theorem dK_value_48 : decode bK_value 48 = .ok (.invokevirtual 122, 3) := by decide +kernel
theorem dK_value_51 : decode bK_value 51 = .ok (.ireturn, 1) := by decide +kernel
theorem dK_about_0 : decode bK_about 0 = .ok (.iload_n 1, 1) := by decide +kernel
theorem dK_about_1 : decode bK_about 1 = .ok (.invokestatic 126, 3) := by decide +kernel
theorem dK_about_4 : decode bK_about 4 = .ok (.ifCond .ne 5, 3) := by decide +kernel
theorem dK_about_7 : decode bK_about 7 = .ok (.iconst (-1), 1) := by decide +kernel
theorem dK_about_8 : decode bK_about 8 = .ok (.ireturn, 1) := by decide +kernel
theorem dK_about_9 : decode bK_about 9 = .ok (.iload_n 2, 1) := by decide +kernel
theorem dK_about_10 : decode bK_about 10 = .ok (.ifCond .ne 17, 3) := by decide +kernel
theorem dK_about_13 : decode bK_about 13 = .ok (.aload_n 0, 1) := by decide +kernel
theorem dK_about_14 : decode bK_about 14 = .ok (.getfield 10, 3) := by decide +kernel
theorem dK_about_17 : decode bK_about 17 = .ok (.aload_n 0, 1) := by decide +kernel
theorem dK_about_18 : decode bK_about 18 = .ok (.getfield 38, 3) := by decide +kernel
theorem dK_about_21 : decode bK_about 21 = .ok (.iload_n 1, 1) := by decide +kernel
theorem dK_about_22 : decode bK_about 22 = .ok (.aaload, 1) := by decide +kernel
theorem dK_about_23 : decode bK_about 23 = .ok (.invokevirtual 83, 3) := by decide +kernel
theorem dK_about_26 : decode bK_about 26 = .ok (.ireturn, 1) := by decide +kernel
theorem dK_about_27 : decode bK_about 27 = .ok (.iload_n 2, 1) := by decide +kernel
theorem dK_about_28 : decode bK_about 28 = .ok (.iconst 1, 1) := by decide +kernel
theorem dK_about_29 : decode bK_about 29 = .ok (.if_icmp .ne 19, 3) := by decide +kernel
theorem dK_about_32 : decode bK_about 32 = .ok (.aload_n 0, 1) := by decide +kernel
theorem dK_about_33 : decode bK_about 33 = .ok (.getfield 10, 3) := by decide +kernel
theorem dK_about_36 : decode bK_about 36 = .ok (.aload_n 0, 1) := by decide +kernel
theorem dK_about_37 : decode bK_about 37 = .ok (.getfield 38, 3) := by decide +kernel
theorem dK_about_40 : decode bK_about 40 = .ok (.iload_n 1, 1) := by decide +kernel
theorem dK_about_41 : decode bK_about 41 = .ok (.aaload, 1) := by decide +kernel
theorem dK_about_42 : decode bK_about 42 = .ok (.invokevirtual 129, 3) := by decide +kernel
theorem dK_about_45 : decode bK_about 45 = .ok (.goto 4, 3) := by decide +kernel
theorem dK_about_48 : decode bK_about 48 = .ok (.iconst (-1), 1) := by decide +kernel
theorem dK_about_49 : decode bK_about 49 = .ok (.ireturn, 1) := by decide +kernel
theorem dK_term_0 : decode bK_term 0 = .ok (.iload_n 1, 1) := by decide +kernel
theorem dK_term_1 : decode bK_term 1 = .ok (.invokestatic 126, 3) := by decide +kernel
theorem dK_term_4 : decode bK_term 4 = .ok (.ifCond .eq 12, 3) := by decide +kernel
theorem dK_term_7 : decode bK_term 7 = .ok (.iload_n 3, 1) := by decide +kernel
theorem dK_term_8 : decode bK_term 8 = .ok (.ifCond .lt 8, 3) := by decide +kernel
theorem dK_term_11 : decode bK_term 11 = .ok (.iload_n 3, 1) := by decide +kernel
theorem dK_term_12 : decode bK_term 12 = .ok (.iconst 4, 1) := by decide +kernel
theorem dK_term_13 : decode bK_term 13 = .ok (.if_icmp .le 5, 3) := by decide +kernel
theorem dK_term_16 : decode bK_term 16 = .ok (.iconst (-1), 1) := by decide +kernel
theorem dK_term_17 : decode bK_term 17 = .ok (.ireturn, 1) := by decide +kernel
theorem dK_term_18 : decode bK_term 18 = .ok (.aload_n 0, 1) := by decide +kernel
theorem dK_term_19 : decode bK_term 19 = .ok (.getfield 10, 3) := by decide +kernel
theorem dK_term_22 : decode bK_term 22 = .ok (.aload_n 0, 1) := by decide +kernel
theorem dK_term_23 : decode bK_term 23 = .ok (.getfield 38, 3) := by decide +kernel
theorem dK_term_26 : decode bK_term 26 = .ok (.iload_n 1, 1) := by decide +kernel
theorem dK_term_27 : decode bK_term 27 = .ok (.aaload, 1) := by decide +kernel
theorem dK_term_28 : decode bK_term 28 = .ok (.iload_n 2, 1) := by decide +kernel
theorem dK_term_29 : decode bK_term 29 = .ok (.invokevirtual 132, 3) := by decide +kernel
theorem dK_term_32 : decode bK_term 32 = .ok (.istore 4, 2) := by decide +kernel
theorem dK_term_34 : decode bK_term 34 = .ok (.iload 4, 2) := by decide +kernel
theorem dK_term_36 : decode bK_term 36 = .ok (.ifCond .lt 10, 3) := by decide +kernel
theorem dK_term_39 : decode bK_term 39 = .ok (.iload 4, 2) := by decide +kernel
theorem dK_term_41 : decode bK_term 41 = .ok (.bipush 126, 2) := by decide +kernel
theorem dK_term_43 : decode bK_term 43 = .ok (.if_icmp .lt 5, 3) := by decide +kernel
theorem dK_term_46 : decode bK_term 46 = .ok (.iconst (-1), 1) := by decide +kernel
theorem dK_term_47 : decode bK_term 47 = .ok (.ireturn, 1) := by decide +kernel
theorem dK_term_48 : decode bK_term 48 = .ok (.iload_n 3, 1) := by decide +kernel
theorem dK_term_49 : decode bK_term 49 = .ok (.iconst 4, 1) := by decide +kernel
theorem dK_term_50 : decode bK_term 50 = .ok (.if_icmp .ne 15, 3) := by decide +kernel
theorem dK_term_53 : decode bK_term 53 = .ok (.aload_n 0, 1) := by decide +kernel
theorem dK_term_54 : decode bK_term 54 = .ok (.getfield 38, 3) := by decide +kernel
theorem dK_term_57 : decode bK_term 57 = .ok (.iload_n 1, 1) := by decide +kernel
theorem dK_term_58 : decode bK_term 58 = .ok (.aaload, 1) := by decide +kernel
theorem dK_term_59 : decode bK_term 59 = .ok (.iload 4, 2) := by decide +kernel
theorem dK_term_61 : decode bK_term 61 = .ok (.iaload, 1) := by decide +kernel
theorem dK_term_62 : decode bK_term 62 = .ok (.goto 13, 3) := by decide +kernel
theorem dK_term_65 : decode bK_term 65 = .ok (.aload_n 0, 1) := by decide +kernel
theorem dK_term_66 : decode bK_term 66 = .ok (.getfield 10, 3) := by decide +kernel
theorem dK_term_69 : decode bK_term 69 = .ok (.iload 4, 2) := by decide +kernel
theorem dK_term_71 : decode bK_term 71 = .ok (.iload_n 3, 1) := by decide +kernel
theorem dK_term_72 : decode bK_term 72 = .ok (.invokevirtual 136, 3) := by decide +kernel
theorem dK_term_75 : decode bK_term 75 = .ok (.ireturn, 1) := by decide +kernel
theorem dK_print_0 : decode bK_print 0 = .ok (.iload_n 1, 1) := by decide +kernel
theorem dK_print_1 : decode bK_print 1 = .ok (.invokestatic 73, 3) := by decide +kernel
theorem dK_print_4 : decode bK_print 4 = .ok (.aload_n 0, 1) := by decide +kernel
theorem dK_print_5 : decode bK_print 5 = .ok (.getfield 32, 3) := by decide +kernel
theorem dK_print_8 : decode bK_print 8 = .ok (.aload_n 0, 1) := by decide +kernel
theorem dK_print_9 : decode bK_print 9 = .ok (.getfield 38, 3) := by decide +kernel
theorem dK_print_12 : decode bK_print 12 = .ok (.iload_n 1, 1) := by decide +kernel
theorem dK_print_13 : decode bK_print 13 = .ok (.aaload, 1) := by decide +kernel
theorem dK_print_14 : decode bK_print 14 = .ok (.invokevirtual 140, 3) := by decide +kernel
theorem dK_print_17 : decode bK_print 17 = .ok (.ireturn, 1) := by decide +kernel
theorem dK_output_0 : decode bK_output 0 = .ok (.aload_n 0, 1) := by decide +kernel
theorem dK_output_1 : decode bK_output 1 = .ok (.getfield 32, 3) := by decide +kernel
theorem dK_output_4 : decode bK_output 4 = .ok (.iload_n 1, 1) := by decide +kernel
theorem dK_output_5 : decode bK_output 5 = .ok (.invokevirtual 143, 3) := by decide +kernel
theorem dK_output_8 : decode bK_output 8 = .ok (.ireturn, 1) := by decide +kernel
theorem dK_isPolynomial_0 : decode bK_isPolynomial 0 = .ok (.iload_n 0, 1) := by decide +kernel
theorem dK_isPolynomial_1 : decode bK_isPolynomial 1 = .ok (.ifCond .lt 13, 3) := by decide +kernel
theorem dK_isPolynomial_4 : decode bK_isPolynomial 4 = .ok (.iload_n 0, 1) := by decide +kernel
theorem dK_isPolynomial_5 : decode bK_isPolynomial 5 = .ok (.bipush 8, 2) := by decide +kernel
theorem dK_isPolynomial_7 : decode bK_isPolynomial 7 = .ok (.if_icmp .ge 7, 3) := by decide +kernel
theorem dK_isPolynomial_10 : decode bK_isPolynomial 10 = .ok (.iconst 1, 1) := by decide +kernel
theorem dK_isPolynomial_11 : decode bK_isPolynomial 11 = .ok (.goto 4, 3) := by decide +kernel
theorem dK_isPolynomial_14 : decode bK_isPolynomial 14 = .ok (.iconst 0, 1) := by decide +kernel
theorem dK_isPolynomial_15 : decode bK_isPolynomial 15 = .ok (.ireturn, 1) := by decide +kernel
theorem dK_requirePolynomial_0 : decode bK_requirePolynomial 0 = .ok (.iload_n 0, 1) := by decide +kernel
theorem dK_requirePolynomial_1 : decode bK_requirePolynomial 1 = .ok (.invokestatic 126, 3) := by decide +kernel
theorem dK_requirePolynomial_4 : decode bK_requirePolynomial 4 = .ok (.ifCond .ne 13, 3) := by decide +kernel
theorem dK_requirePolynomial_7 : decode bK_requirePolynomial 7 = .ok (.new 147, 3) := by decide +kernel
theorem dK_requirePolynomial_10 : decode bK_requirePolynomial 10 = .ok (.dup, 1) := by decide +kernel
theorem dK_requirePolynomial_11 : decode bK_requirePolynomial 11 = .ok (.ldc 149, 2) := by decide +kernel
theorem dK_requirePolynomial_13 : decode bK_requirePolynomial 13 = .ok (.invokespecial 151, 3) := by decide +kernel
theorem dK_requirePolynomial_16 : decode bK_requirePolynomial 16 = .ok (.athrow, 1) := by decide +kernel
theorem dK_requirePolynomial_17 : decode bK_requirePolynomial 17 = .ok (.return_, 1) := by decide +kernel
theorem dK_requireVariable_0 : decode bK_requireVariable 0 = .ok (.iload_n 1, 1) := by decide +kernel
theorem dK_requireVariable_1 : decode bK_requireVariable 1 = .ok (.ifCond .lt 14, 3) := by decide +kernel
theorem dK_requireVariable_4 : decode bK_requireVariable 4 = .ok (.iload_n 1, 1) := by decide +kernel
theorem dK_requireVariable_5 : decode bK_requireVariable 5 = .ok (.aload_n 0, 1) := by decide +kernel
theorem dK_requireVariable_6 : decode bK_requireVariable 6 = .ok (.getfield 10, 3) := by decide +kernel
theorem dK_requireVariable_9 : decode bK_requireVariable 9 = .ok (.invokevirtual 152, 3) := by decide +kernel
theorem dK_requireVariable_12 : decode bK_requireVariable 12 = .ok (.if_icmp .lt 13, 3) := by decide +kernel
theorem dK_requireVariable_15 : decode bK_requireVariable 15 = .ok (.new 147, 3) := by decide +kernel
theorem dK_requireVariable_18 : decode bK_requireVariable 18 = .ok (.dup, 1) := by decide +kernel
theorem dK_requireVariable_19 : decode bK_requireVariable 19 = .ok (.ldc 155, 2) := by decide +kernel
theorem dK_requireVariable_21 : decode bK_requireVariable 21 = .ok (.invokespecial 151, 3) := by decide +kernel
theorem dK_requireVariable_24 : decode bK_requireVariable 24 = .ok (.athrow, 1) := by decide +kernel
theorem dK_requireVariable_25 : decode bK_requireVariable 25 = .ok (.return_, 1) := by decide +kernel
theorem dK_isPrime_0 : decode bK_isPrime 0 = .ok (.iload_n 0, 1) := by decide +kernel
theorem dK_isPrime_1 : decode bK_isPrime 1 = .ok (.iconst 2, 1) := by decide +kernel
theorem dK_isPrime_2 : decode bK_isPrime 2 = .ok (.if_icmp .lt 10, 3) := by decide +kernel
theorem dK_isPrime_5 : decode bK_isPrime 5 = .ok (.iload_n 0, 1) := by decide +kernel
theorem dK_isPrime_6 : decode bK_isPrime 6 = .ok (.sipush 32003, 3) := by decide +kernel
theorem dK_isPrime_9 : decode bK_isPrime 9 = .ok (.if_icmp .le 5, 3) := by decide +kernel
theorem dK_isPrime_12 : decode bK_isPrime 12 = .ok (.iconst 0, 1) := by decide +kernel
theorem dK_isPrime_13 : decode bK_isPrime 13 = .ok (.ireturn, 1) := by decide +kernel
theorem dK_isPrime_14 : decode bK_isPrime 14 = .ok (.iconst 2, 1) := by decide +kernel
theorem dK_isPrime_15 : decode bK_isPrime 15 = .ok (.istore_n 1, 1) := by decide +kernel
theorem dK_isPrime_16 : decode bK_isPrime 16 = .ok (.iload_n 1, 1) := by decide +kernel
theorem dK_isPrime_17 : decode bK_isPrime 17 = .ok (.iload_n 1, 1) := by decide +kernel
theorem dK_isPrime_18 : decode bK_isPrime 18 = .ok (.imul, 1) := by decide +kernel
theorem dK_isPrime_19 : decode bK_isPrime 19 = .ok (.iload_n 0, 1) := by decide +kernel
theorem dK_isPrime_20 : decode bK_isPrime 20 = .ok (.if_icmp .gt 17, 3) := by decide +kernel
theorem dK_isPrime_23 : decode bK_isPrime 23 = .ok (.iload_n 0, 1) := by decide +kernel
theorem dK_isPrime_24 : decode bK_isPrime 24 = .ok (.iload_n 1, 1) := by decide +kernel
theorem dK_isPrime_25 : decode bK_isPrime 25 = .ok (.irem, 1) := by decide +kernel
theorem dK_isPrime_26 : decode bK_isPrime 26 = .ok (.ifCond .ne 5, 3) := by decide +kernel
theorem dK_isPrime_29 : decode bK_isPrime 29 = .ok (.iconst 0, 1) := by decide +kernel
theorem dK_isPrime_30 : decode bK_isPrime 30 = .ok (.ireturn, 1) := by decide +kernel
theorem dK_isPrime_31 : decode bK_isPrime 31 = .ok (.iinc 1 1, 3) := by decide +kernel
theorem dK_isPrime_34 : decode bK_isPrime 34 = .ok (.goto (-18), 3) := by decide +kernel
theorem dK_isPrime_37 : decode bK_isPrime 37 = .ok (.iconst 1, 1) := by decide +kernel
theorem dK_isPrime_38 : decode bK_isPrime 38 = .ok (.ireturn, 1) := by decide +kernel
theorem dK_init_0 : decode bK_init 0 = .ok (.aload_n 0, 1) := by decide +kernel
theorem dK_init_1 : decode bK_init 1 = .ok (.invokespecial 1, 3) := by decide +kernel
theorem dK_init_4 : decode bK_init 4 = .ok (.aload_n 0, 1) := by decide +kernel
theorem dK_init_5 : decode bK_init 5 = .ok (.new 7, 3) := by decide +kernel
theorem dK_init_8 : decode bK_init 8 = .ok (.dup, 1) := by decide +kernel
theorem dK_init_9 : decode bK_init 9 = .ok (.invokespecial 9, 3) := by decide +kernel
theorem dK_init_12 : decode bK_init 12 = .ok (.putfield 10, 3) := by decide +kernel
theorem dK_init_15 : decode bK_init 15 = .ok (.aload_n 0, 1) := by decide +kernel
theorem dK_init_16 : decode bK_init 16 = .ok (.getfield 10, 3) := by decide +kernel
theorem dK_init_19 : decode bK_init 19 = .ok (.bipush 7, 2) := by decide +kernel
theorem dK_init_21 : decode bK_init 21 = .ok (.iconst 2, 1) := by decide +kernel
theorem dK_init_22 : decode bK_init 22 = .ok (.iconst 0, 1) := by decide +kernel
theorem dK_init_23 : decode bK_init 23 = .ok (.invokevirtual 16, 3) := by decide +kernel
theorem dK_init_26 : decode bK_init 26 = .ok (.aload_n 0, 1) := by decide +kernel
theorem dK_init_27 : decode bK_init 27 = .ok (.new 20, 3) := by decide +kernel
theorem dK_init_30 : decode bK_init 30 = .ok (.dup, 1) := by decide +kernel
theorem dK_init_31 : decode bK_init 31 = .ok (.aload_n 0, 1) := by decide +kernel
theorem dK_init_32 : decode bK_init 32 = .ok (.getfield 10, 3) := by decide +kernel
theorem dK_init_35 : decode bK_init 35 = .ok (.invokespecial 22, 3) := by decide +kernel
theorem dK_init_38 : decode bK_init 38 = .ok (.putfield 25, 3) := by decide +kernel
theorem dK_init_41 : decode bK_init 41 = .ok (.aload_n 0, 1) := by decide +kernel
theorem dK_init_42 : decode bK_init 42 = .ok (.new 29, 3) := by decide +kernel
theorem dK_init_45 : decode bK_init 45 = .ok (.dup, 1) := by decide +kernel
theorem dK_init_46 : decode bK_init 46 = .ok (.aload_n 0, 1) := by decide +kernel
theorem dK_init_47 : decode bK_init 47 = .ok (.getfield 10, 3) := by decide +kernel
theorem dK_init_50 : decode bK_init 50 = .ok (.invokespecial 31, 3) := by decide +kernel
theorem dK_init_53 : decode bK_init 53 = .ok (.putfield 32, 3) := by decide +kernel
theorem dK_init_56 : decode bK_init 56 = .ok (.aload_n 0, 1) := by decide +kernel
theorem dK_init_57 : decode bK_init 57 = .ok (.bipush 8, 2) := by decide +kernel
theorem dK_init_59 : decode bK_init 59 = .ok (.bipush 126, 2) := by decide +kernel
theorem dK_init_61 : decode bK_init 61 = .ok (.multianewarray 36 2, 4) := by decide +kernel
theorem dK_init_65 : decode bK_init 65 = .ok (.putfield 38, 3) := by decide +kernel
theorem dK_init_68 : decode bK_init 68 = .ok (.aload_n 0, 1) := by decide +kernel
theorem dK_init_69 : decode bK_init 69 = .ok (.iconst 4, 1) := by decide +kernel
theorem dK_init_70 : decode bK_init 70 = .ok (.newarray .int, 2) := by decide +kernel
theorem dK_init_72 : decode bK_init 72 = .ok (.putfield 41, 3) := by decide +kernel
theorem dK_init_75 : decode bK_init 75 = .ok (.return_, 1) := by decide +kernel
theorem dK_field_0 : decode bK_field 0 = .ok (.iload_n 1, 1) := by decide +kernel
theorem dK_field_1 : decode bK_field 1 = .ok (.invokestatic 45, 3) := by decide +kernel
theorem dK_field_4 : decode bK_field 4 = .ok (.ifCond .ne 13, 3) := by decide +kernel
theorem dK_field_7 : decode bK_field 7 = .ok (.new 49, 3) := by decide +kernel
theorem dK_field_10 : decode bK_field 10 = .ok (.dup, 1) := by decide +kernel
theorem dK_field_11 : decode bK_field 11 = .ok (.ldc 51, 2) := by decide +kernel
theorem dK_field_13 : decode bK_field 13 = .ok (.invokespecial 53, 3) := by decide +kernel
theorem dK_field_16 : decode bK_field 16 = .ok (.athrow, 1) := by decide +kernel
theorem dK_field_17 : decode bK_field 17 = .ok (.iload_n 2, 1) := by decide +kernel
theorem dK_field_18 : decode bK_field 18 = .ok (.iconst 1, 1) := by decide +kernel
theorem dK_field_19 : decode bK_field 19 = .ok (.if_icmp .lt 8, 3) := by decide +kernel
theorem dK_field_22 : decode bK_field 22 = .ok (.iload_n 2, 1) := by decide +kernel
theorem dK_field_23 : decode bK_field 23 = .ok (.iconst 4, 1) := by decide +kernel
theorem dK_field_24 : decode bK_field 24 = .ok (.if_icmp .le 13, 3) := by decide +kernel
theorem dK_field_27 : decode bK_field 27 = .ok (.new 49, 3) := by decide +kernel
theorem dK_field_30 : decode bK_field 30 = .ok (.dup, 1) := by decide +kernel
theorem dK_field_31 : decode bK_field 31 = .ok (.ldc 56, 2) := by decide +kernel
theorem dK_field_33 : decode bK_field 33 = .ok (.invokespecial 53, 3) := by decide +kernel
theorem dK_field_36 : decode bK_field 36 = .ok (.athrow, 1) := by decide +kernel
theorem dK_field_37 : decode bK_field 37 = .ok (.iload_n 3, 1) := by decide +kernel
theorem dK_field_38 : decode bK_field 38 = .ok (.ifCond .eq 18, 3) := by decide +kernel
theorem dK_field_41 : decode bK_field 41 = .ok (.iload_n 3, 1) := by decide +kernel
theorem dK_field_42 : decode bK_field 42 = .ok (.iconst 1, 1) := by decide +kernel
theorem dK_field_43 : decode bK_field 43 = .ok (.if_icmp .eq 13, 3) := by decide +kernel
theorem dK_field_46 : decode bK_field 46 = .ok (.new 49, 3) := by decide +kernel
theorem dK_field_49 : decode bK_field 49 = .ok (.dup, 1) := by decide +kernel
theorem dK_field_50 : decode bK_field 50 = .ok (.ldc 58, 2) := by decide +kernel
theorem dK_field_52 : decode bK_field 52 = .ok (.invokespecial 53, 3) := by decide +kernel
theorem dK_field_55 : decode bK_field 55 = .ok (.athrow, 1) := by decide +kernel
theorem dK_field_56 : decode bK_field 56 = .ok (.aload_n 0, 1) := by decide +kernel
theorem dK_field_57 : decode bK_field 57 = .ok (.getfield 10, 3) := by decide +kernel
theorem dK_field_60 : decode bK_field 60 = .ok (.iload_n 1, 1) := by decide +kernel
theorem dK_field_61 : decode bK_field 61 = .ok (.iload_n 2, 1) := by decide +kernel
theorem dK_field_62 : decode bK_field 62 = .ok (.iload_n 3, 1) := by decide +kernel
theorem dK_field_63 : decode bK_field 63 = .ok (.invokevirtual 16, 3) := by decide +kernel
theorem dK_field_66 : decode bK_field 66 = .ok (.iconst 0, 1) := by decide +kernel
theorem dK_field_67 : decode bK_field 67 = .ok (.istore 4, 2) := by decide +kernel
theorem dK_field_69 : decode bK_field 69 = .ok (.iload 4, 2) := by decide +kernel
theorem dK_field_71 : decode bK_field 71 = .ok (.bipush 8, 2) := by decide +kernel
theorem dK_field_73 : decode bK_field 73 = .ok (.if_icmp .ge 20, 3) := by decide +kernel
theorem dK_field_76 : decode bK_field 76 = .ok (.aload_n 0, 1) := by decide +kernel
theorem dK_field_77 : decode bK_field 77 = .ok (.getfield 38, 3) := by decide +kernel
theorem dK_field_80 : decode bK_field 80 = .ok (.iload 4, 2) := by decide +kernel
theorem dK_field_82 : decode bK_field 82 = .ok (.aaload, 1) := by decide +kernel
theorem dK_field_83 : decode bK_field 83 = .ok (.iconst 0, 1) := by decide +kernel
theorem dK_field_84 : decode bK_field 84 = .ok (.invokestatic 60, 3) := by decide +kernel
theorem dK_field_87 : decode bK_field 87 = .ok (.iinc 4 1, 3) := by decide +kernel
theorem dK_field_90 : decode bK_field 90 = .ok (.goto (-21), 3) := by decide +kernel
theorem dK_field_93 : decode bK_field 93 = .ok (.aload_n 0, 1) := by decide +kernel
theorem dK_field_94 : decode bK_field 94 = .ok (.getfield 32, 3) := by decide +kernel
theorem dK_field_97 : decode bK_field 97 = .ok (.invokevirtual 66, 3) := by decide +kernel
theorem dK_field_100 : decode bK_field 100 = .ok (.return_, 1) := by decide +kernel
theorem dK_put_0 : decode bK_put 0 = .ok (.aload_n 0, 1) := by decide +kernel
theorem dK_put_1 : decode bK_put 1 = .ok (.getfield 25, 3) := by decide +kernel
theorem dK_put_4 : decode bK_put 4 = .ok (.lload_n 1, 1) := by decide +kernel
theorem dK_put_5 : decode bK_put 5 = .ok (.iload_n 3, 1) := by decide +kernel
theorem dK_put_6 : decode bK_put 6 = .ok (.invokevirtual 69, 3) := by decide +kernel
theorem dK_put_9 : decode bK_put 9 = .ok (.ireturn, 1) := by decide +kernel
theorem dK_read_0 : decode bK_read 0 = .ok (.iload_n 1, 1) := by decide +kernel
theorem dK_read_1 : decode bK_read 1 = .ok (.invokestatic 73, 3) := by decide +kernel
theorem dK_read_4 : decode bK_read 4 = .ok (.aload_n 0, 1) := by decide +kernel
theorem dK_read_5 : decode bK_read 5 = .ok (.getfield 25, 3) := by decide +kernel
theorem dK_read_8 : decode bK_read 8 = .ok (.aload_n 0, 1) := by decide +kernel
theorem dK_read_9 : decode bK_read 9 = .ok (.getfield 38, 3) := by decide +kernel
theorem dK_read_12 : decode bK_read 12 = .ok (.iload_n 1, 1) := by decide +kernel
theorem dK_read_13 : decode bK_read 13 = .ok (.aaload, 1) := by decide +kernel
theorem dK_read_14 : decode bK_read 14 = .ok (.invokevirtual 77, 3) := by decide +kernel
theorem dK_read_17 : decode bK_read 17 = .ok (.ifCond .ne 13, 3) := by decide +kernel
theorem dK_read_20 : decode bK_read 20 = .ok (.new 49, 3) := by decide +kernel
theorem dK_read_23 : decode bK_read 23 = .ok (.dup, 1) := by decide +kernel
theorem dK_read_24 : decode bK_read 24 = .ok (.ldc 81, 2) := by decide +kernel
theorem dK_read_26 : decode bK_read 26 = .ok (.invokespecial 53, 3) := by decide +kernel
theorem dK_read_29 : decode bK_read 29 = .ok (.athrow, 1) := by decide +kernel
theorem dK_read_30 : decode bK_read 30 = .ok (.aload_n 0, 1) := by decide +kernel
theorem dK_read_31 : decode bK_read 31 = .ok (.getfield 10, 3) := by decide +kernel
theorem dK_read_34 : decode bK_read 34 = .ok (.aload_n 0, 1) := by decide +kernel
theorem dK_read_35 : decode bK_read 35 = .ok (.getfield 38, 3) := by decide +kernel
theorem dK_read_38 : decode bK_read 38 = .ok (.iload_n 1, 1) := by decide +kernel
theorem dK_read_39 : decode bK_read 39 = .ok (.aaload, 1) := by decide +kernel
theorem dK_read_40 : decode bK_read 40 = .ok (.invokevirtual 83, 3) := by decide +kernel
theorem dK_read_43 : decode bK_read 43 = .ok (.ireturn, 1) := by decide +kernel
theorem dK_fault_0 : decode bK_fault 0 = .ok (.iload_n 1, 1) := by decide +kernel
theorem dK_fault_1 : decode bK_fault 1 = .ok (.ifCond .ne 11, 3) := by decide +kernel
theorem dK_fault_4 : decode bK_fault 4 = .ok (.aload_n 0, 1) := by decide +kernel
theorem dK_fault_5 : decode bK_fault 5 = .ok (.getfield 25, 3) := by decide +kernel
theorem dK_fault_8 : decode bK_fault 8 = .ok (.invokevirtual 87, 3) := by decide +kernel
theorem dK_fault_11 : decode bK_fault 11 = .ok (.ireturn, 1) := by decide +kernel
theorem dK_fault_12 : decode bK_fault 12 = .ok (.iload_n 1, 1) := by decide +kernel
theorem dK_fault_13 : decode bK_fault 13 = .ok (.iconst 1, 1) := by decide +kernel
theorem dK_fault_14 : decode bK_fault 14 = .ok (.if_icmp .ne 13, 3) := by decide +kernel
theorem dK_fault_17 : decode bK_fault 17 = .ok (.aload_n 0, 1) := by decide +kernel
theorem dK_fault_18 : decode bK_fault 18 = .ok (.getfield 25, 3) := by decide +kernel
theorem dK_fault_21 : decode bK_fault 21 = .ok (.invokevirtual 91, 3) := by decide +kernel
theorem dK_fault_24 : decode bK_fault 24 = .ok (.goto 4, 3) := by decide +kernel
theorem dK_fault_27 : decode bK_fault 27 = .ok (.iconst (-1), 1) := by decide +kernel
theorem dK_fault_28 : decode bK_fault 28 = .ok (.ireturn, 1) := by decide +kernel
theorem dK_add_0 : decode bK_add 0 = .ok (.iload_n 1, 1) := by decide +kernel
theorem dK_add_1 : decode bK_add 1 = .ok (.invokestatic 73, 3) := by decide +kernel
theorem dK_add_4 : decode bK_add 4 = .ok (.iload_n 3, 1) := by decide +kernel
theorem dK_add_5 : decode bK_add 5 = .ok (.invokestatic 73, 3) := by decide +kernel
theorem dK_add_8 : decode bK_add 8 = .ok (.iload 4, 2) := by decide +kernel
theorem dK_add_10 : decode bK_add 10 = .ok (.invokestatic 73, 3) := by decide +kernel
theorem dK_add_13 : decode bK_add 13 = .ok (.aload_n 0, 1) := by decide +kernel
theorem dK_add_14 : decode bK_add 14 = .ok (.getfield 10, 3) := by decide +kernel
theorem dK_add_17 : decode bK_add 17 = .ok (.aload_n 0, 1) := by decide +kernel
theorem dK_add_18 : decode bK_add 18 = .ok (.getfield 38, 3) := by decide +kernel
theorem dK_add_21 : decode bK_add 21 = .ok (.iload_n 1, 1) := by decide +kernel
theorem dK_add_22 : decode bK_add 22 = .ok (.aaload, 1) := by decide +kernel
theorem dK_add_23 : decode bK_add 23 = .ok (.iload_n 2, 1) := by decide +kernel
theorem dK_add_24 : decode bK_add 24 = .ok (.aload_n 0, 1) := by decide +kernel
theorem dK_add_25 : decode bK_add 25 = .ok (.getfield 38, 3) := by decide +kernel
theorem dK_add_28 : decode bK_add 28 = .ok (.iload_n 3, 1) := by decide +kernel
theorem dK_add_29 : decode bK_add 29 = .ok (.aaload, 1) := by decide +kernel
theorem dK_add_30 : decode bK_add 30 = .ok (.aload_n 0, 1) := by decide +kernel
theorem dK_add_31 : decode bK_add 31 = .ok (.getfield 38, 3) := by decide +kernel
theorem dK_add_34 : decode bK_add 34 = .ok (.iload 4, 2) := by decide +kernel
theorem dK_add_36 : decode bK_add 36 = .ok (.aaload, 1) := by decide +kernel
theorem dK_add_37 : decode bK_add 37 = .ok (.invokevirtual 94, 3) := by decide +kernel
theorem dK_add_40 : decode bK_add 40 = .ok (.return_, 1) := by decide +kernel
theorem dK_multiply_0 : decode bK_multiply 0 = .ok (.iload_n 1, 1) := by decide +kernel
theorem dK_multiply_1 : decode bK_multiply 1 = .ok (.invokestatic 73, 3) := by decide +kernel
theorem dK_multiply_4 : decode bK_multiply 4 = .ok (.iload_n 2, 1) := by decide +kernel
theorem dK_multiply_5 : decode bK_multiply 5 = .ok (.invokestatic 73, 3) := by decide +kernel
theorem dK_multiply_8 : decode bK_multiply 8 = .ok (.iload_n 3, 1) := by decide +kernel
theorem dK_multiply_9 : decode bK_multiply 9 = .ok (.invokestatic 73, 3) := by decide +kernel
theorem dK_multiply_12 : decode bK_multiply 12 = .ok (.aload_n 0, 1) := by decide +kernel
theorem dK_multiply_13 : decode bK_multiply 13 = .ok (.getfield 10, 3) := by decide +kernel
theorem dK_multiply_16 : decode bK_multiply 16 = .ok (.aload_n 0, 1) := by decide +kernel
theorem dK_multiply_17 : decode bK_multiply 17 = .ok (.getfield 38, 3) := by decide +kernel
theorem dK_multiply_20 : decode bK_multiply 20 = .ok (.iload_n 1, 1) := by decide +kernel
theorem dK_multiply_21 : decode bK_multiply 21 = .ok (.aaload, 1) := by decide +kernel
theorem dK_multiply_22 : decode bK_multiply 22 = .ok (.aload_n 0, 1) := by decide +kernel
theorem dK_multiply_23 : decode bK_multiply 23 = .ok (.getfield 38, 3) := by decide +kernel
theorem dK_multiply_26 : decode bK_multiply 26 = .ok (.iload_n 2, 1) := by decide +kernel
theorem dK_multiply_27 : decode bK_multiply 27 = .ok (.aaload, 1) := by decide +kernel
theorem dK_multiply_28 : decode bK_multiply 28 = .ok (.invokevirtual 98, 3) := by decide +kernel
theorem dK_multiply_31 : decode bK_multiply 31 = .ok (.ifCond .eq 13, 3) := by decide +kernel
theorem dK_multiply_34 : decode bK_multiply 34 = .ok (.new 102, 3) := by decide +kernel
theorem dK_multiply_37 : decode bK_multiply 37 = .ok (.dup, 1) := by decide +kernel
theorem dK_multiply_38 : decode bK_multiply 38 = .ok (.ldc 104, 2) := by decide +kernel
theorem dK_multiply_40 : decode bK_multiply 40 = .ok (.invokespecial 106, 3) := by decide +kernel
theorem dK_multiply_43 : decode bK_multiply 43 = .ok (.athrow, 1) := by decide +kernel
theorem dK_multiply_44 : decode bK_multiply 44 = .ok (.aload_n 0, 1) := by decide +kernel
theorem dK_multiply_45 : decode bK_multiply 45 = .ok (.getfield 10, 3) := by decide +kernel
theorem dK_multiply_48 : decode bK_multiply 48 = .ok (.aload_n 0, 1) := by decide +kernel
theorem dK_multiply_49 : decode bK_multiply 49 = .ok (.getfield 38, 3) := by decide +kernel
theorem dK_multiply_52 : decode bK_multiply 52 = .ok (.iload_n 1, 1) := by decide +kernel
theorem dK_multiply_53 : decode bK_multiply 53 = .ok (.aaload, 1) := by decide +kernel
theorem dK_multiply_54 : decode bK_multiply 54 = .ok (.aload_n 0, 1) := by decide +kernel
theorem dK_multiply_55 : decode bK_multiply 55 = .ok (.getfield 38, 3) := by decide +kernel
theorem dK_multiply_58 : decode bK_multiply 58 = .ok (.iload_n 2, 1) := by decide +kernel
theorem dK_multiply_59 : decode bK_multiply 59 = .ok (.aaload, 1) := by decide +kernel
theorem dK_multiply_60 : decode bK_multiply 60 = .ok (.aload_n 0, 1) := by decide +kernel
theorem dK_multiply_61 : decode bK_multiply 61 = .ok (.getfield 38, 3) := by decide +kernel
theorem dK_multiply_64 : decode bK_multiply 64 = .ok (.iload_n 3, 1) := by decide +kernel
theorem dK_multiply_65 : decode bK_multiply 65 = .ok (.aaload, 1) := by decide +kernel
theorem dK_multiply_66 : decode bK_multiply 66 = .ok (.invokevirtual 107, 3) := by decide +kernel
theorem dK_multiply_69 : decode bK_multiply 69 = .ok (.return_, 1) := by decide +kernel
theorem dK_derive_0 : decode bK_derive 0 = .ok (.iload_n 1, 1) := by decide +kernel
theorem dK_derive_1 : decode bK_derive 1 = .ok (.invokestatic 73, 3) := by decide +kernel
theorem dK_derive_4 : decode bK_derive 4 = .ok (.aload_n 0, 1) := by decide +kernel
theorem dK_derive_5 : decode bK_derive 5 = .ok (.iload_n 2, 1) := by decide +kernel
theorem dK_derive_6 : decode bK_derive 6 = .ok (.invokevirtual 111, 3) := by decide +kernel
theorem dK_derive_9 : decode bK_derive 9 = .ok (.iload_n 3, 1) := by decide +kernel
theorem dK_derive_10 : decode bK_derive 10 = .ok (.invokestatic 73, 3) := by decide +kernel
theorem dK_derive_13 : decode bK_derive 13 = .ok (.aload_n 0, 1) := by decide +kernel
theorem dK_derive_14 : decode bK_derive 14 = .ok (.getfield 10, 3) := by decide +kernel
theorem dK_derive_17 : decode bK_derive 17 = .ok (.aload_n 0, 1) := by decide +kernel
theorem dK_derive_18 : decode bK_derive 18 = .ok (.getfield 38, 3) := by decide +kernel
theorem dK_derive_21 : decode bK_derive 21 = .ok (.iload_n 1, 1) := by decide +kernel
theorem dK_derive_22 : decode bK_derive 22 = .ok (.aaload, 1) := by decide +kernel
theorem dK_derive_23 : decode bK_derive 23 = .ok (.iload_n 2, 1) := by decide +kernel
theorem dK_derive_24 : decode bK_derive 24 = .ok (.aload_n 0, 1) := by decide +kernel
theorem dK_derive_25 : decode bK_derive 25 = .ok (.getfield 38, 3) := by decide +kernel
theorem dK_derive_28 : decode bK_derive 28 = .ok (.iload_n 3, 1) := by decide +kernel
theorem dK_derive_29 : decode bK_derive 29 = .ok (.aaload, 1) := by decide +kernel
theorem dK_derive_30 : decode bK_derive 30 = .ok (.invokevirtual 114, 3) := by decide +kernel
theorem dK_derive_33 : decode bK_derive 33 = .ok (.return_, 1) := by decide +kernel
theorem dK_set_0 : decode bK_set 0 = .ok (.iload_n 1, 1) := by decide +kernel
theorem dK_set_1 : decode bK_set 1 = .ok (.invokestatic 73, 3) := by decide +kernel
theorem dK_set_4 : decode bK_set 4 = .ok (.aload_n 0, 1) := by decide +kernel
theorem dK_set_5 : decode bK_set 5 = .ok (.iload_n 2, 1) := by decide +kernel
theorem dK_set_6 : decode bK_set 6 = .ok (.invokevirtual 111, 3) := by decide +kernel
theorem dK_set_9 : decode bK_set 9 = .ok (.iload 4, 2) := by decide +kernel
theorem dK_set_11 : decode bK_set 11 = .ok (.invokestatic 73, 3) := by decide +kernel
theorem dK_set_14 : decode bK_set 14 = .ok (.aload_n 0, 1) := by decide +kernel
theorem dK_set_15 : decode bK_set 15 = .ok (.getfield 10, 3) := by decide +kernel
theorem dK_set_18 : decode bK_set 18 = .ok (.aload_n 0, 1) := by decide +kernel
theorem dK_set_19 : decode bK_set 19 = .ok (.getfield 38, 3) := by decide +kernel
theorem dK_set_22 : decode bK_set 22 = .ok (.iload_n 1, 1) := by decide +kernel
theorem dK_set_23 : decode bK_set 23 = .ok (.aaload, 1) := by decide +kernel
theorem dK_set_24 : decode bK_set 24 = .ok (.iload_n 2, 1) := by decide +kernel
theorem dK_set_25 : decode bK_set 25 = .ok (.iload_n 3, 1) := by decide +kernel
theorem dK_set_26 : decode bK_set 26 = .ok (.aload_n 0, 1) := by decide +kernel
theorem dK_set_27 : decode bK_set 27 = .ok (.getfield 38, 3) := by decide +kernel
theorem dK_set_30 : decode bK_set 30 = .ok (.iload 4, 2) := by decide +kernel
theorem dK_set_32 : decode bK_set 32 = .ok (.aaload, 1) := by decide +kernel
theorem dK_set_33 : decode bK_set 33 = .ok (.invokevirtual 118, 3) := by decide +kernel
theorem dK_set_36 : decode bK_set 36 = .ok (.return_, 1) := by decide +kernel
