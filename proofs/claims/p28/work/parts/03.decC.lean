theorem dX0_init_0 : decode cX0_init 0 = .ok (.aload_n 0, 1) := by decide +kernel
theorem dX0_init_1 : decode cX0_init 1 = .ok (.invokespecial 3, 3) := by decide +kernel
theorem dX0_init_4 : decode cX0_init 4 = .ok (.aload_n 0, 1) := by decide +kernel
theorem dX0_init_5 : decode cX0_init 5 = .ok (.iconst 4, 1) := by decide +kernel
theorem dX0_init_6 : decode cX0_init 6 = .ok (.newarray .int, 2) := by decide +kernel
theorem dX0_init_8 : decode cX0_init 8 = .ok (.putfield 9, 3) := by decide +kernel
theorem dX0_init_11 : decode cX0_init 11 = .ok (.return_, 1) := by decide +kernel
theorem dX0_lackOf_0 : decode cX0_lackOf 0 = .ok (.iconst 0, 1) := by decide +kernel
theorem dX0_lackOf_1 : decode cX0_lackOf 1 = .ok (.iload_n 2, 1) := by decide +kernel
theorem dX0_lackOf_2 : decode cX0_lackOf 2 = .ok (.aload_n 0, 1) := by decide +kernel
theorem dX0_lackOf_3 : decode cX0_lackOf 3 = .ok (.getfield 9, 3) := by decide +kernel
theorem dX0_lackOf_6 : decode cX0_lackOf 6 = .ok (.iload_n 1, 1) := by decide +kernel
theorem dX0_lackOf_7 : decode cX0_lackOf 7 = .ok (.invokestatic 15, 3) := by decide +kernel
theorem dX0_lackOf_10 : decode cX0_lackOf 10 = .ok (.isub, 1) := by decide +kernel
theorem dX0_lackOf_11 : decode cX0_lackOf 11 = .ok (.invokestatic 19, 3) := by decide +kernel
theorem dX0_lackOf_14 : decode cX0_lackOf 14 = .ok (.ireturn, 1) := by decide +kernel
theorem dX0_pay_0 : decode cX0_pay 0 = .ok (.aload_n 0, 1) := by decide +kernel
theorem dX0_pay_1 : decode cX0_pay 1 = .ok (.iload_n 1, 1) := by decide +kernel
theorem dX0_pay_2 : decode cX0_pay 2 = .ok (.iload_n 2, 1) := by decide +kernel
theorem dX0_pay_3 : decode cX0_pay 3 = .ok (.invokevirtual 25, 3) := by decide +kernel
theorem dX0_pay_6 : decode cX0_pay 6 = .ok (.istore_n 3, 1) := by decide +kernel
theorem dX0_pay_7 : decode cX0_pay 7 = .ok (.aload_n 0, 1) := by decide +kernel
theorem dX0_pay_8 : decode cX0_pay 8 = .ok (.getfield 9, 3) := by decide +kernel
theorem dX0_pay_11 : decode cX0_pay 11 = .ok (.iload_n 1, 1) := by decide +kernel
theorem dX0_pay_12 : decode cX0_pay 12 = .ok (.iload_n 3, 1) := by decide +kernel
theorem dX0_pay_13 : decode cX0_pay 13 = .ok (.iload_n 2, 1) := by decide +kernel
theorem dX0_pay_14 : decode cX0_pay 14 = .ok (.isub, 1) := by decide +kernel
theorem dX0_pay_15 : decode cX0_pay 15 = .ok (.invokestatic 28, 3) := by decide +kernel
theorem dX0_pay_18 : decode cX0_pay 18 = .ok (.aload_n 0, 1) := by decide +kernel
theorem dX0_pay_19 : decode cX0_pay 19 = .ok (.dup, 1) := by decide +kernel
theorem dX0_pay_20 : decode cX0_pay 20 = .ok (.getfield 32, 3) := by decide +kernel
theorem dX0_pay_23 : decode cX0_pay 23 = .ok (.iload_n 3, 1) := by decide +kernel
theorem dX0_pay_24 : decode cX0_pay 24 = .ok (.isub, 1) := by decide +kernel
theorem dX0_pay_25 : decode cX0_pay 25 = .ok (.putfield 32, 3) := by decide +kernel
theorem dX0_pay_28 : decode cX0_pay 28 = .ok (.aload_n 0, 1) := by decide +kernel
theorem dX0_pay_29 : decode cX0_pay 29 = .ok (.dup, 1) := by decide +kernel
theorem dX0_pay_30 : decode cX0_pay 30 = .ok (.getfield 36, 3) := by decide +kernel
theorem dX0_pay_33 : decode cX0_pay 33 = .ok (.iload_n 2, 1) := by decide +kernel
theorem dX0_pay_34 : decode cX0_pay 34 = .ok (.iadd, 1) := by decide +kernel
theorem dX0_pay_35 : decode cX0_pay 35 = .ok (.putfield 36, 3) := by decide +kernel
theorem dX0_pay_38 : decode cX0_pay 38 = .ok (.aload_n 0, 1) := by decide +kernel
theorem dX0_pay_39 : decode cX0_pay 39 = .ok (.dup, 1) := by decide +kernel
theorem dX0_pay_40 : decode cX0_pay 40 = .ok (.getfield 39, 3) := by decide +kernel
theorem dX0_pay_43 : decode cX0_pay 43 = .ok (.iload_n 2, 1) := by decide +kernel
theorem dX0_pay_44 : decode cX0_pay 44 = .ok (.iadd, 1) := by decide +kernel
theorem dX0_pay_45 : decode cX0_pay 45 = .ok (.putfield 39, 3) := by decide +kernel
theorem dX0_pay_48 : decode cX0_pay 48 = .ok (.iload_n 3, 1) := by decide +kernel
theorem dX0_pay_49 : decode cX0_pay 49 = .ok (.ireturn, 1) := by decide +kernel
theorem dX0_payBack_0 : decode cX0_payBack 0 = .ok (.iload_n 1, 1) := by decide +kernel
theorem dX0_payBack_1 : decode cX0_payBack 1 = .ok (.aload_n 0, 1) := by decide +kernel
theorem dX0_payBack_2 : decode cX0_payBack 2 = .ok (.getfield 39, 3) := by decide +kernel
theorem dX0_payBack_5 : decode cX0_payBack 5 = .ok (.invokestatic 42, 3) := by decide +kernel
theorem dX0_payBack_8 : decode cX0_payBack 8 = .ok (.istore_n 2, 1) := by decide +kernel
theorem dX0_payBack_9 : decode cX0_payBack 9 = .ok (.aload_n 0, 1) := by decide +kernel
theorem dX0_payBack_10 : decode cX0_payBack 10 = .ok (.dup, 1) := by decide +kernel
theorem dX0_payBack_11 : decode cX0_payBack 11 = .ok (.getfield 39, 3) := by decide +kernel
theorem dX0_payBack_14 : decode cX0_payBack 14 = .ok (.iload_n 2, 1) := by decide +kernel
theorem dX0_payBack_15 : decode cX0_payBack 15 = .ok (.isub, 1) := by decide +kernel
theorem dX0_payBack_16 : decode cX0_payBack 16 = .ok (.putfield 39, 3) := by decide +kernel
theorem dX0_payBack_19 : decode cX0_payBack 19 = .ok (.iload_n 1, 1) := by decide +kernel
theorem dX0_payBack_20 : decode cX0_payBack 20 = .ok (.iload_n 2, 1) := by decide +kernel
theorem dX0_payBack_21 : decode cX0_payBack 21 = .ok (.isub, 1) := by decide +kernel
theorem dX0_payBack_22 : decode cX0_payBack 22 = .ok (.ireturn, 1) := by decide +kernel
theorem dX1_init_0 : decode cX1_init 0 = .ok (.aload_n 0, 1) := by decide +kernel
theorem dX1_init_1 : decode cX1_init 1 = .ok (.invokespecial 3, 3) := by decide +kernel
theorem dX1_init_4 : decode cX1_init 4 = .ok (.aload_n 0, 1) := by decide +kernel
theorem dX1_init_5 : decode cX1_init 5 = .ok (.bipush 10, 2) := by decide +kernel
theorem dX1_init_7 : decode cX1_init 7 = .ok (.newarray .int, 2) := by decide +kernel
theorem dX1_init_9 : decode cX1_init 9 = .ok (.putfield 9, 3) := by decide +kernel
theorem dX1_init_12 : decode cX1_init 12 = .ok (.aload_n 0, 1) := by decide +kernel
theorem dX1_init_13 : decode cX1_init 13 = .ok (.bipush 10, 2) := by decide +kernel
theorem dX1_init_15 : decode cX1_init 15 = .ok (.newarray .int, 2) := by decide +kernel
theorem dX1_init_17 : decode cX1_init 17 = .ok (.putfield 15, 3) := by decide +kernel
theorem dX1_init_20 : decode cX1_init 20 = .ok (.aload_n 0, 1) := by decide +kernel
theorem dX1_init_21 : decode cX1_init 21 = .ok (.bipush 12, 2) := by decide +kernel
theorem dX1_init_23 : decode cX1_init 23 = .ok (.newarray .int, 2) := by decide +kernel
theorem dX1_init_25 : decode cX1_init 25 = .ok (.putfield 18, 3) := by decide +kernel
theorem dX1_init_28 : decode cX1_init 28 = .ok (.aload_n 0, 1) := by decide +kernel
theorem dX1_init_29 : decode cX1_init 29 = .ok (.bipush 12, 2) := by decide +kernel
theorem dX1_init_31 : decode cX1_init 31 = .ok (.newarray .int, 2) := by decide +kernel
theorem dX1_init_33 : decode cX1_init 33 = .ok (.putfield 21, 3) := by decide +kernel
theorem dX1_init_36 : decode cX1_init 36 = .ok (.aload_n 0, 1) := by decide +kernel
theorem dX1_init_37 : decode cX1_init 37 = .ok (.bipush 12, 2) := by decide +kernel
theorem dX1_init_39 : decode cX1_init 39 = .ok (.newarray .int, 2) := by decide +kernel
theorem dX1_init_41 : decode cX1_init 41 = .ok (.putfield 24, 3) := by decide +kernel
theorem dX1_init_44 : decode cX1_init 44 = .ok (.aload_n 0, 1) := by decide +kernel
theorem dX1_init_45 : decode cX1_init 45 = .ok (.bipush 12, 2) := by decide +kernel
theorem dX1_init_47 : decode cX1_init 47 = .ok (.newarray .int, 2) := by decide +kernel
theorem dX1_init_49 : decode cX1_init 49 = .ok (.putfield 27, 3) := by decide +kernel
theorem dX1_init_52 : decode cX1_init 52 = .ok (.aload_n 0, 1) := by decide +kernel
theorem dX1_init_53 : decode cX1_init 53 = .ok (.bipush 6, 2) := by decide +kernel
theorem dX1_init_55 : decode cX1_init 55 = .ok (.newarray .int, 2) := by decide +kernel
theorem dX1_init_57 : decode cX1_init 57 = .ok (.putfield 30, 3) := by decide +kernel
theorem dX1_init_60 : decode cX1_init 60 = .ok (.return_, 1) := by decide +kernel
theorem dX1_appendLoan_0 : decode cX1_appendLoan 0 = .ok (.aload_n 0, 1) := by decide +kernel
theorem dX1_appendLoan_1 : decode cX1_appendLoan 1 = .ok (.getfield 9, 3) := by decide +kernel
theorem dX1_appendLoan_4 : decode cX1_appendLoan 4 = .ok (.aload_n 0, 1) := by decide +kernel
theorem dX1_appendLoan_5 : decode cX1_appendLoan 5 = .ok (.getfield 33, 3) := by decide +kernel
theorem dX1_appendLoan_8 : decode cX1_appendLoan 8 = .ok (.iload_n 1, 1) := by decide +kernel
theorem dX1_appendLoan_9 : decode cX1_appendLoan 9 = .ok (.invokestatic 37, 3) := by decide +kernel
theorem dX1_appendLoan_12 : decode cX1_appendLoan 12 = .ok (.aload_n 0, 1) := by decide +kernel
theorem dX1_appendLoan_13 : decode cX1_appendLoan 13 = .ok (.getfield 15, 3) := by decide +kernel
theorem dX1_appendLoan_16 : decode cX1_appendLoan 16 = .ok (.aload_n 0, 1) := by decide +kernel
theorem dX1_appendLoan_17 : decode cX1_appendLoan 17 = .ok (.getfield 33, 3) := by decide +kernel
theorem dX1_appendLoan_20 : decode cX1_appendLoan 20 = .ok (.iload_n 2, 1) := by decide +kernel
theorem dX1_appendLoan_21 : decode cX1_appendLoan 21 = .ok (.invokestatic 37, 3) := by decide +kernel
theorem dX1_appendLoan_24 : decode cX1_appendLoan 24 = .ok (.aload_n 0, 1) := by decide +kernel
theorem dX1_appendLoan_25 : decode cX1_appendLoan 25 = .ok (.dup, 1) := by decide +kernel
theorem dX1_appendLoan_26 : decode cX1_appendLoan 26 = .ok (.getfield 33, 3) := by decide +kernel
theorem dX1_appendLoan_29 : decode cX1_appendLoan 29 = .ok (.iconst 1, 1) := by decide +kernel
theorem dX1_appendLoan_30 : decode cX1_appendLoan 30 = .ok (.iadd, 1) := by decide +kernel
theorem dX1_appendLoan_31 : decode cX1_appendLoan 31 = .ok (.putfield 33, 3) := by decide +kernel
theorem dX1_appendLoan_34 : decode cX1_appendLoan 34 = .ok (.aload_n 0, 1) := by decide +kernel
theorem dX1_appendLoan_35 : decode cX1_appendLoan 35 = .ok (.getfield 33, 3) := by decide +kernel
theorem dX1_appendLoan_38 : decode cX1_appendLoan 38 = .ok (.iconst 1, 1) := by decide +kernel
theorem dX1_appendLoan_39 : decode cX1_appendLoan 39 = .ok (.isub, 1) := by decide +kernel
theorem dX1_appendLoan_40 : decode cX1_appendLoan 40 = .ok (.ireturn, 1) := by decide +kernel
theorem dX1_appendPart_0 : decode cX1_appendPart 0 = .ok (.aload_n 0, 1) := by decide +kernel
theorem dX1_appendPart_1 : decode cX1_appendPart 1 = .ok (.getfield 18, 3) := by decide +kernel
theorem dX1_appendPart_4 : decode cX1_appendPart 4 = .ok (.aload_n 0, 1) := by decide +kernel
theorem dX1_appendPart_5 : decode cX1_appendPart 5 = .ok (.getfield 41, 3) := by decide +kernel
theorem dX1_appendPart_8 : decode cX1_appendPart 8 = .ok (.iload_n 1, 1) := by decide +kernel
theorem dX1_appendPart_9 : decode cX1_appendPart 9 = .ok (.invokestatic 37, 3) := by decide +kernel
theorem dX1_appendPart_12 : decode cX1_appendPart 12 = .ok (.aload_n 0, 1) := by decide +kernel
theorem dX1_appendPart_13 : decode cX1_appendPart 13 = .ok (.getfield 21, 3) := by decide +kernel
theorem dX1_appendPart_16 : decode cX1_appendPart 16 = .ok (.aload_n 0, 1) := by decide +kernel
theorem dX1_appendPart_17 : decode cX1_appendPart 17 = .ok (.getfield 41, 3) := by decide +kernel
theorem dX1_appendPart_20 : decode cX1_appendPart 20 = .ok (.iload_n 2, 1) := by decide +kernel
theorem dX1_appendPart_21 : decode cX1_appendPart 21 = .ok (.invokestatic 37, 3) := by decide +kernel
theorem dX1_appendPart_24 : decode cX1_appendPart 24 = .ok (.aload_n 0, 1) := by decide +kernel
theorem dX1_appendPart_25 : decode cX1_appendPart 25 = .ok (.getfield 24, 3) := by decide +kernel
theorem dX1_appendPart_28 : decode cX1_appendPart 28 = .ok (.aload_n 0, 1) := by decide +kernel
theorem dX1_appendPart_29 : decode cX1_appendPart 29 = .ok (.getfield 41, 3) := by decide +kernel
theorem dX1_appendPart_32 : decode cX1_appendPart 32 = .ok (.iload_n 3, 1) := by decide +kernel
theorem dX1_appendPart_33 : decode cX1_appendPart 33 = .ok (.invokestatic 37, 3) := by decide +kernel
theorem dX1_appendPart_36 : decode cX1_appendPart 36 = .ok (.aload_n 0, 1) := by decide +kernel
theorem dX1_appendPart_37 : decode cX1_appendPart 37 = .ok (.dup, 1) := by decide +kernel
theorem dX1_appendPart_38 : decode cX1_appendPart 38 = .ok (.getfield 41, 3) := by decide +kernel
theorem dX1_appendPart_41 : decode cX1_appendPart 41 = .ok (.iconst 1, 1) := by decide +kernel
theorem dX1_appendPart_42 : decode cX1_appendPart 42 = .ok (.iadd, 1) := by decide +kernel
theorem dX1_appendPart_43 : decode cX1_appendPart 43 = .ok (.putfield 41, 3) := by decide +kernel
theorem dX1_appendPart_46 : decode cX1_appendPart 46 = .ok (.aload_n 0, 1) := by decide +kernel
theorem dX1_appendPart_47 : decode cX1_appendPart 47 = .ok (.getfield 41, 3) := by decide +kernel
theorem dX1_appendPart_50 : decode cX1_appendPart 50 = .ok (.iconst 1, 1) := by decide +kernel
theorem dX1_appendPart_51 : decode cX1_appendPart 51 = .ok (.isub, 1) := by decide +kernel
theorem dX1_appendPart_52 : decode cX1_appendPart 52 = .ok (.ireturn, 1) := by decide +kernel
theorem dX1_percentOf_0 : decode cX1_percentOf 0 = .ok (.iconst 0, 1) := by decide +kernel
theorem dX1_percentOf_1 : decode cX1_percentOf 1 = .ok (.istore_n 2, 1) := by decide +kernel
theorem dX1_percentOf_2 : decode cX1_percentOf 2 = .ok (.iconst 0, 1) := by decide +kernel
theorem dX1_percentOf_3 : decode cX1_percentOf 3 = .ok (.istore_n 3, 1) := by decide +kernel
theorem dX1_percentOf_4 : decode cX1_percentOf 4 = .ok (.iload_n 3, 1) := by decide +kernel
theorem dX1_percentOf_5 : decode cX1_percentOf 5 = .ok (.aload_n 0, 1) := by decide +kernel
theorem dX1_percentOf_6 : decode cX1_percentOf 6 = .ok (.getfield 41, 3) := by decide +kernel
theorem dX1_percentOf_9 : decode cX1_percentOf 9 = .ok (.if_icmp .ge 32, 3) := by decide +kernel
theorem dX1_percentOf_12 : decode cX1_percentOf 12 = .ok (.aload_n 0, 1) := by decide +kernel
theorem dX1_percentOf_13 : decode cX1_percentOf 13 = .ok (.getfield 18, 3) := by decide +kernel
theorem dX1_percentOf_16 : decode cX1_percentOf 16 = .ok (.iload_n 3, 1) := by decide +kernel
theorem dX1_percentOf_17 : decode cX1_percentOf 17 = .ok (.invokestatic 44, 3) := by decide +kernel
theorem dX1_percentOf_20 : decode cX1_percentOf 20 = .ok (.iload_n 1, 1) := by decide +kernel
theorem dX1_percentOf_21 : decode cX1_percentOf 21 = .ok (.if_icmp .ne 14, 3) := by decide +kernel
theorem dX1_percentOf_24 : decode cX1_percentOf 24 = .ok (.iload_n 2, 1) := by decide +kernel
theorem dX1_percentOf_25 : decode cX1_percentOf 25 = .ok (.aload_n 0, 1) := by decide +kernel
theorem dX1_percentOf_26 : decode cX1_percentOf 26 = .ok (.getfield 24, 3) := by decide +kernel
theorem dX1_percentOf_29 : decode cX1_percentOf 29 = .ok (.iload_n 3, 1) := by decide +kernel
theorem dX1_percentOf_30 : decode cX1_percentOf 30 = .ok (.invokestatic 44, 3) := by decide +kernel
theorem dX1_percentOf_33 : decode cX1_percentOf 33 = .ok (.iadd, 1) := by decide +kernel
theorem dX1_percentOf_34 : decode cX1_percentOf 34 = .ok (.istore_n 2, 1) := by decide +kernel
theorem dX1_percentOf_35 : decode cX1_percentOf 35 = .ok (.iinc 3 1, 3) := by decide +kernel
theorem dX1_percentOf_38 : decode cX1_percentOf 38 = .ok (.goto (-34), 3) := by decide +kernel
theorem dX1_percentOf_41 : decode cX1_percentOf 41 = .ok (.iload_n 2, 1) := by decide +kernel
theorem dX1_percentOf_42 : decode cX1_percentOf 42 = .ok (.ireturn, 1) := by decide +kernel
theorem dX1_payBackLoans_0 : decode cX1_payBackLoans 0 = .ok (.iload_n 1, 1) := by decide +kernel
theorem dX1_payBackLoans_1 : decode cX1_payBackLoans 1 = .ok (.istore_n 2, 1) := by decide +kernel
theorem dX1_payBackLoans_2 : decode cX1_payBackLoans 2 = .ok (.iconst 0, 1) := by decide +kernel
theorem dX1_payBackLoans_3 : decode cX1_payBackLoans 3 = .ok (.istore_n 3, 1) := by decide +kernel
theorem dX1_payBackLoans_4 : decode cX1_payBackLoans 4 = .ok (.iload_n 3, 1) := by decide +kernel
theorem dX1_payBackLoans_5 : decode cX1_payBackLoans 5 = .ok (.aload_n 0, 1) := by decide +kernel
theorem dX1_payBackLoans_6 : decode cX1_payBackLoans 6 = .ok (.getfield 33, 3) := by decide +kernel
theorem dX1_payBackLoans_9 : decode cX1_payBackLoans 9 = .ok (.if_icmp .ge 56, 3) := by decide +kernel
theorem dX1_payBackLoans_12 : decode cX1_payBackLoans 12 = .ok (.iload_n 2, 1) := by decide +kernel
theorem dX1_payBackLoans_13 : decode cX1_payBackLoans 13 = .ok (.aload_n 0, 1) := by decide +kernel
theorem dX1_payBackLoans_14 : decode cX1_payBackLoans 14 = .ok (.getfield 15, 3) := by decide +kernel
theorem dX1_payBackLoans_17 : decode cX1_payBackLoans 17 = .ok (.iload_n 3, 1) := by decide +kernel
theorem dX1_payBackLoans_18 : decode cX1_payBackLoans 18 = .ok (.invokestatic 44, 3) := by decide +kernel
theorem dX1_payBackLoans_21 : decode cX1_payBackLoans 21 = .ok (.invokestatic 48, 3) := by decide +kernel
theorem dX1_payBackLoans_24 : decode cX1_payBackLoans 24 = .ok (.istore 4, 2) := by decide +kernel
theorem dX1_payBackLoans_26 : decode cX1_payBackLoans 26 = .ok (.aload_n 0, 1) := by decide +kernel
theorem dX1_payBackLoans_27 : decode cX1_payBackLoans 27 = .ok (.getfield 15, 3) := by decide +kernel
theorem dX1_payBackLoans_30 : decode cX1_payBackLoans 30 = .ok (.iload_n 3, 1) := by decide +kernel
theorem dX1_payBackLoans_31 : decode cX1_payBackLoans 31 = .ok (.iload 4, 2) := by decide +kernel
theorem dX1_payBackLoans_33 : decode cX1_payBackLoans 33 = .ok (.ineg, 1) := by decide +kernel
theorem dX1_payBackLoans_34 : decode cX1_payBackLoans 34 = .ok (.invokestatic 54, 3) := by decide +kernel
theorem dX1_payBackLoans_37 : decode cX1_payBackLoans 37 = .ok (.aload_n 0, 1) := by decide +kernel
theorem dX1_payBackLoans_38 : decode cX1_payBackLoans 38 = .ok (.getfield 30, 3) := by decide +kernel
theorem dX1_payBackLoans_41 : decode cX1_payBackLoans 41 = .ok (.aload_n 0, 1) := by decide +kernel
theorem dX1_payBackLoans_42 : decode cX1_payBackLoans 42 = .ok (.getfield 9, 3) := by decide +kernel
theorem dX1_payBackLoans_45 : decode cX1_payBackLoans 45 = .ok (.iload_n 3, 1) := by decide +kernel
theorem dX1_payBackLoans_46 : decode cX1_payBackLoans 46 = .ok (.invokestatic 44, 3) := by decide +kernel
theorem dX1_payBackLoans_49 : decode cX1_payBackLoans 49 = .ok (.iload 4, 2) := by decide +kernel
theorem dX1_payBackLoans_51 : decode cX1_payBackLoans 51 = .ok (.invokestatic 54, 3) := by decide +kernel
theorem dX1_payBackLoans_54 : decode cX1_payBackLoans 54 = .ok (.iload_n 2, 1) := by decide +kernel
theorem dX1_payBackLoans_55 : decode cX1_payBackLoans 55 = .ok (.iload 4, 2) := by decide +kernel
theorem dX1_payBackLoans_57 : decode cX1_payBackLoans 57 = .ok (.isub, 1) := by decide +kernel
theorem dX1_payBackLoans_58 : decode cX1_payBackLoans 58 = .ok (.istore_n 2, 1) := by decide +kernel
theorem dX1_payBackLoans_59 : decode cX1_payBackLoans 59 = .ok (.iinc 3 1, 3) := by decide +kernel
theorem dX1_payBackLoans_62 : decode cX1_payBackLoans 62 = .ok (.goto (-58), 3) := by decide +kernel
theorem dX1_payBackLoans_65 : decode cX1_payBackLoans 65 = .ok (.iload_n 2, 1) := by decide +kernel
theorem dX1_payBackLoans_66 : decode cX1_payBackLoans 66 = .ok (.ireturn, 1) := by decide +kernel
theorem dX1_share_0 : decode cX1_share 0 = .ok (.iload_n 1, 1) := by decide +kernel
theorem dX1_share_1 : decode cX1_share 1 = .ok (.istore_n 2, 1) := by decide +kernel
theorem dX1_share_2 : decode cX1_share 2 = .ok (.iconst 0, 1) := by decide +kernel
theorem dX1_share_3 : decode cX1_share 3 = .ok (.istore_n 3, 1) := by decide +kernel
theorem dX1_share_4 : decode cX1_share 4 = .ok (.iload_n 3, 1) := by decide +kernel
theorem dX1_share_5 : decode cX1_share 5 = .ok (.aload_n 0, 1) := by decide +kernel
theorem dX1_share_6 : decode cX1_share 6 = .ok (.getfield 41, 3) := by decide +kernel
theorem dX1_share_9 : decode cX1_share 9 = .ok (.if_icmp .ge 112, 3) := by decide +kernel
theorem dX1_share_12 : decode cX1_share 12 = .ok (.aload_n 0, 1) := by decide +kernel
theorem dX1_share_13 : decode cX1_share 13 = .ok (.getfield 18, 3) := by decide +kernel
theorem dX1_share_16 : decode cX1_share 16 = .ok (.iload_n 3, 1) := by decide +kernel
theorem dX1_share_17 : decode cX1_share 17 = .ok (.invokestatic 44, 3) := by decide +kernel
theorem dX1_share_20 : decode cX1_share 20 = .ok (.istore 4, 2) := by decide +kernel
theorem dX1_share_22 : decode cX1_share 22 = .ok (.iload 4, 2) := by decide +kernel
theorem dX1_share_24 : decode cX1_share 24 = .ok (.iconst (-1), 1) := by decide +kernel
theorem dX1_share_25 : decode cX1_share 25 = .ok (.if_icmp .ne 7, 3) := by decide +kernel
theorem dX1_share_28 : decode cX1_share 28 = .ok (.iload_n 1, 1) := by decide +kernel
theorem dX1_share_29 : decode cX1_share 29 = .ok (.goto 12, 3) := by decide +kernel
theorem dX1_share_32 : decode cX1_share 32 = .ok (.aload_n 0, 1) := by decide +kernel
theorem dX1_share_33 : decode cX1_share 33 = .ok (.getfield 27, 3) := by decide +kernel
theorem dX1_share_36 : decode cX1_share 36 = .ok (.iload 4, 2) := by decide +kernel
theorem dX1_share_38 : decode cX1_share 38 = .ok (.invokestatic 44, 3) := by decide +kernel
theorem dX1_share_41 : decode cX1_share 41 = .ok (.aload_n 0, 1) := by decide +kernel
theorem dX1_share_42 : decode cX1_share 42 = .ok (.getfield 24, 3) := by decide +kernel
theorem dX1_share_45 : decode cX1_share 45 = .ok (.iload_n 3, 1) := by decide +kernel
theorem dX1_share_46 : decode cX1_share 46 = .ok (.invokestatic 44, 3) := by decide +kernel
theorem dX1_share_49 : decode cX1_share 49 = .ok (.imul, 1) := by decide +kernel
theorem dX1_share_50 : decode cX1_share 50 = .ok (.bipush 100, 2) := by decide +kernel
theorem dX1_share_52 : decode cX1_share 52 = .ok (.idiv, 1) := by decide +kernel
theorem dX1_share_53 : decode cX1_share 53 = .ok (.istore 5, 2) := by decide +kernel
theorem dX1_share_55 : decode cX1_share 55 = .ok (.aload_n 0, 1) := by decide +kernel
theorem dX1_share_56 : decode cX1_share 56 = .ok (.getfield 27, 3) := by decide +kernel
theorem dX1_share_59 : decode cX1_share 59 = .ok (.iload_n 3, 1) := by decide +kernel
theorem dX1_share_60 : decode cX1_share 60 = .ok (.iload 5, 2) := by decide +kernel
theorem dX1_share_62 : decode cX1_share 62 = .ok (.invokestatic 37, 3) := by decide +kernel
theorem dX1_share_65 : decode cX1_share 65 = .ok (.aload_n 0, 1) := by decide +kernel
theorem dX1_share_66 : decode cX1_share 66 = .ok (.getfield 30, 3) := by decide +kernel
theorem dX1_share_69 : decode cX1_share 69 = .ok (.aload_n 0, 1) := by decide +kernel
theorem dX1_share_70 : decode cX1_share 70 = .ok (.getfield 21, 3) := by decide +kernel
theorem dX1_share_73 : decode cX1_share 73 = .ok (.iload_n 3, 1) := by decide +kernel
theorem dX1_share_74 : decode cX1_share 74 = .ok (.invokestatic 44, 3) := by decide +kernel
theorem dX1_share_77 : decode cX1_share 77 = .ok (.iload 5, 2) := by decide +kernel
theorem dX1_share_79 : decode cX1_share 79 = .ok (.invokestatic 54, 3) := by decide +kernel
theorem dX1_share_82 : decode cX1_share 82 = .ok (.iload 4, 2) := by decide +kernel
theorem dX1_share_84 : decode cX1_share 84 = .ok (.iconst (-1), 1) := by decide +kernel
theorem dX1_share_85 : decode cX1_share 85 = .ok (.if_icmp .ne 11, 3) := by decide +kernel
theorem dX1_share_88 : decode cX1_share 88 = .ok (.iload_n 2, 1) := by decide +kernel
theorem dX1_share_89 : decode cX1_share 89 = .ok (.iload 5, 2) := by decide +kernel
theorem dX1_share_91 : decode cX1_share 91 = .ok (.isub, 1) := by decide +kernel
theorem dX1_share_92 : decode cX1_share 92 = .ok (.istore_n 2, 1) := by decide +kernel
theorem dX1_share_93 : decode cX1_share 93 = .ok (.goto 22, 3) := by decide +kernel
theorem dX1_share_96 : decode cX1_share 96 = .ok (.aload_n 0, 1) := by decide +kernel
theorem dX1_share_97 : decode cX1_share 97 = .ok (.getfield 30, 3) := by decide +kernel
theorem dX1_share_100 : decode cX1_share 100 = .ok (.aload_n 0, 1) := by decide +kernel
theorem dX1_share_101 : decode cX1_share 101 = .ok (.getfield 21, 3) := by decide +kernel
theorem dX1_share_104 : decode cX1_share 104 = .ok (.iload 4, 2) := by decide +kernel
theorem dX1_share_106 : decode cX1_share 106 = .ok (.invokestatic 44, 3) := by decide +kernel
theorem dX1_share_109 : decode cX1_share 109 = .ok (.iload 5, 2) := by decide +kernel
theorem dX1_share_111 : decode cX1_share 111 = .ok (.ineg, 1) := by decide +kernel
theorem dX1_share_112 : decode cX1_share 112 = .ok (.invokestatic 54, 3) := by decide +kernel
theorem dX1_share_115 : decode cX1_share 115 = .ok (.iinc 3 1, 3) := by decide +kernel
theorem dX1_share_118 : decode cX1_share 118 = .ok (.goto (-114), 3) := by decide +kernel
theorem dX1_share_121 : decode cX1_share 121 = .ok (.aload_n 0, 1) := by decide +kernel
theorem dX1_share_122 : decode cX1_share 122 = .ok (.dup, 1) := by decide +kernel
theorem dX1_share_123 : decode cX1_share 123 = .ok (.getfield 57, 3) := by decide +kernel
theorem dX1_share_126 : decode cX1_share 126 = .ok (.iload_n 2, 1) := by decide +kernel
theorem dX1_share_127 : decode cX1_share 127 = .ok (.iadd, 1) := by decide +kernel
theorem dX1_share_128 : decode cX1_share 128 = .ok (.putfield 57, 3) := by decide +kernel
theorem dX1_share_131 : decode cX1_share 131 = .ok (.return_, 1) := by decide +kernel
theorem dX2_init_0 : decode cX2_init 0 = .ok (.aload_n 0, 1) := by decide +kernel
theorem dX2_init_1 : decode cX2_init 1 = .ok (.invokespecial 3, 3) := by decide +kernel
theorem dX2_init_4 : decode cX2_init 4 = .ok (.aload_n 0, 1) := by decide +kernel
theorem dX2_init_5 : decode cX2_init 5 = .ok (.new 9, 3) := by decide +kernel
theorem dX2_init_8 : decode cX2_init 8 = .ok (.dup, 1) := by decide +kernel
theorem dX2_init_9 : decode cX2_init 9 = .ok (.invokespecial 11, 3) := by decide +kernel
theorem dX2_init_12 : decode cX2_init 12 = .ok (.putfield 12, 3) := by decide +kernel
theorem dX2_init_15 : decode cX2_init 15 = .ok (.aload_n 0, 1) := by decide +kernel
theorem dX2_init_16 : decode cX2_init 16 = .ok (.bipush 8, 2) := by decide +kernel
theorem dX2_init_18 : decode cX2_init 18 = .ok (.newarray .int, 2) := by decide +kernel
theorem dX2_init_20 : decode cX2_init 20 = .ok (.putfield 18, 3) := by decide +kernel
theorem dX2_init_23 : decode cX2_init 23 = .ok (.aload_n 0, 1) := by decide +kernel
theorem dX2_init_24 : decode cX2_init 24 = .ok (.bipush 8, 2) := by decide +kernel
theorem dX2_init_26 : decode cX2_init 26 = .ok (.newarray .int, 2) := by decide +kernel
theorem dX2_init_28 : decode cX2_init 28 = .ok (.putfield 22, 3) := by decide +kernel
theorem dX2_init_31 : decode cX2_init 31 = .ok (.aload_n 0, 1) := by decide +kernel
theorem dX2_init_32 : decode cX2_init 32 = .ok (.bipush 8, 2) := by decide +kernel
theorem dX2_init_34 : decode cX2_init 34 = .ok (.newarray .int, 2) := by decide +kernel
theorem dX2_init_36 : decode cX2_init 36 = .ok (.putfield 25, 3) := by decide +kernel
theorem dX2_init_39 : decode cX2_init 39 = .ok (.aload_n 0, 1) := by decide +kernel
theorem dX2_init_40 : decode cX2_init 40 = .ok (.bipush 8, 2) := by decide +kernel
theorem dX2_init_42 : decode cX2_init 42 = .ok (.newarray .int, 2) := by decide +kernel
theorem dX2_init_44 : decode cX2_init 44 = .ok (.putfield 28, 3) := by decide +kernel
theorem dX2_init_47 : decode cX2_init 47 = .ok (.return_, 1) := by decide +kernel
theorem dX2_forget_0 : decode cX2_forget 0 = .ok (.aload_n 0, 1) := by decide +kernel
theorem dX2_forget_1 : decode cX2_forget 1 = .ok (.iconst 0, 1) := by decide +kernel
theorem dX2_forget_2 : decode cX2_forget 2 = .ok (.putfield 31, 3) := by decide +kernel
theorem dX2_forget_5 : decode cX2_forget 5 = .ok (.return_, 1) := by decide +kernel
theorem dX2_makePlan_0 : decode cX2_makePlan 0 = .ok (.aload_n 0, 1) := by decide +kernel
theorem dX2_makePlan_1 : decode cX2_makePlan 1 = .ok (.getfield 31, 3) := by decide +kernel
theorem dX2_makePlan_4 : decode cX2_makePlan 4 = .ok (.ifCond .ne 26, 3) := by decide +kernel
theorem dX2_makePlan_7 : decode cX2_makePlan 7 = .ok (.aload_n 0, 1) := by decide +kernel
theorem dX2_makePlan_8 : decode cX2_makePlan 8 = .ok (.bipush 9, 2) := by decide +kernel
theorem dX2_makePlan_10 : decode cX2_makePlan 10 = .ok (.putfield 35, 3) := by decide +kernel
theorem dX2_makePlan_13 : decode cX2_makePlan 13 = .ok (.aload_n 0, 1) := by decide +kernel
theorem dX2_makePlan_14 : decode cX2_makePlan 14 = .ok (.iconst 0, 1) := by decide +kernel
theorem dX2_makePlan_15 : decode cX2_makePlan 15 = .ok (.aload_n 0, 1) := by decide +kernel
theorem dX2_makePlan_16 : decode cX2_makePlan 16 = .ok (.getfield 12, 3) := by decide +kernel
theorem dX2_makePlan_19 : decode cX2_makePlan 19 = .ok (.getfield 39, 3) := by decide +kernel
theorem dX2_makePlan_22 : decode cX2_makePlan 22 = .ok (.invokestatic 42, 3) := by decide +kernel
theorem dX2_makePlan_25 : decode cX2_makePlan 25 = .ok (.aload_n 0, 1) := by decide +kernel
theorem dX2_makePlan_26 : decode cX2_makePlan 26 = .ok (.iconst 1, 1) := by decide +kernel
theorem dX2_makePlan_27 : decode cX2_makePlan 27 = .ok (.putfield 31, 3) := by decide +kernel
theorem dX2_makePlan_30 : decode cX2_makePlan 30 = .ok (.return_, 1) := by decide +kernel
theorem dX2_fewestDays_0 : decode cX2_fewestDays 0 = .ok (.aload_n 0, 1) := by decide +kernel
theorem dX2_fewestDays_1 : decode cX2_fewestDays 1 = .ok (.iconst 0, 1) := by decide +kernel
theorem dX2_fewestDays_2 : decode cX2_fewestDays 2 = .ok (.aload_n 0, 1) := by decide +kernel
theorem dX2_fewestDays_3 : decode cX2_fewestDays 3 = .ok (.getfield 12, 3) := by decide +kernel
theorem dX2_fewestDays_6 : decode cX2_fewestDays 6 = .ok (.getfield 39, 3) := by decide +kernel
theorem dX2_fewestDays_9 : decode cX2_fewestDays 9 = .ok (.invokestatic 46, 3) := by decide +kernel
theorem dX2_fewestDays_12 : decode cX2_fewestDays 12 = .ok (.ireturn, 1) := by decide +kernel
theorem dX2_shootable_0 : decode cX2_shootable 0 = .ok (.iconst 0, 1) := by decide +kernel
theorem dX2_shootable_1 : decode cX2_shootable 1 = .ok (.istore_n 2, 1) := by decide +kernel
theorem dX2_shootable_2 : decode cX2_shootable 2 = .ok (.iconst 0, 1) := by decide +kernel
theorem dX2_shootable_3 : decode cX2_shootable 3 = .ok (.istore_n 3, 1) := by decide +kernel
theorem dX2_shootable_4 : decode cX2_shootable 4 = .ok (.iload_n 3, 1) := by decide +kernel
theorem dX2_shootable_5 : decode cX2_shootable 5 = .ok (.aload_n 0, 1) := by decide +kernel
theorem dX2_shootable_6 : decode cX2_shootable 6 = .ok (.getfield 12, 3) := by decide +kernel
theorem dX2_shootable_9 : decode cX2_shootable 9 = .ok (.invokevirtual 50, 3) := by decide +kernel
theorem dX2_shootable_12 : decode cX2_shootable 12 = .ok (.if_icmp .ge 83, 3) := by decide +kernel
theorem dX2_shootable_15 : decode cX2_shootable 15 = .ok (.aload_n 0, 1) := by decide +kernel
theorem dX2_shootable_16 : decode cX2_shootable 16 = .ok (.getfield 25, 3) := by decide +kernel
theorem dX2_shootable_19 : decode cX2_shootable 19 = .ok (.iload_n 3, 1) := by decide +kernel
theorem dX2_shootable_20 : decode cX2_shootable 20 = .ok (.invokestatic 54, 3) := by decide +kernel
theorem dX2_shootable_23 : decode cX2_shootable 23 = .ok (.istore 4, 2) := by decide +kernel
theorem dX2_shootable_25 : decode cX2_shootable 25 = .ok (.aload_n 0, 1) := by decide +kernel
theorem dX2_shootable_26 : decode cX2_shootable 26 = .ok (.getfield 28, 3) := by decide +kernel
theorem dX2_shootable_29 : decode cX2_shootable 29 = .ok (.iload 4, 2) := by decide +kernel
theorem dX2_shootable_31 : decode cX2_shootable 31 = .ok (.invokestatic 54, 3) := by decide +kernel
theorem dX2_shootable_34 : decode cX2_shootable 34 = .ok (.invokestatic 58, 3) := by decide +kernel
theorem dX2_shootable_37 : decode cX2_shootable 37 = .ok (.aload_n 0, 1) := by decide +kernel
theorem dX2_shootable_38 : decode cX2_shootable 38 = .ok (.getfield 62, 3) := by decide +kernel
theorem dX2_shootable_41 : decode cX2_shootable 41 = .ok (.if_icmp .ne 48, 3) := by decide +kernel
theorem dX2_shootable_44 : decode cX2_shootable 44 = .ok (.iload_n 1, 1) := by decide +kernel
theorem dX2_shootable_45 : decode cX2_shootable 45 = .ok (.ifCond .eq 15, 3) := by decide +kernel
theorem dX2_shootable_48 : decode cX2_shootable 48 = .ok (.aload_n 0, 1) := by decide +kernel
theorem dX2_shootable_49 : decode cX2_shootable 49 = .ok (.getfield 12, 3) := by decide +kernel
theorem dX2_shootable_52 : decode cX2_shootable 52 = .ok (.iload 4, 2) := by decide +kernel
theorem dX2_shootable_54 : decode cX2_shootable 54 = .ok (.invokevirtual 65, 3) := by decide +kernel
theorem dX2_shootable_57 : decode cX2_shootable 57 = .ok (.ifCond .ne 32, 3) := by decide +kernel
theorem dX2_shootable_60 : decode cX2_shootable 60 = .ok (.aload_n 0, 1) := by decide +kernel
theorem dX2_shootable_61 : decode cX2_shootable 61 = .ok (.getfield 12, 3) := by decide +kernel
theorem dX2_shootable_64 : decode cX2_shootable 64 = .ok (.iload 4, 2) := by decide +kernel
theorem dX2_shootable_66 : decode cX2_shootable 66 = .ok (.aload_n 0, 1) := by decide +kernel
theorem dX2_shootable_67 : decode cX2_shootable 67 = .ok (.getfield 12, 3) := by decide +kernel
theorem dX2_shootable_70 : decode cX2_shootable 70 = .ok (.getfield 39, 3) := by decide +kernel
theorem dX2_shootable_73 : decode cX2_shootable 73 = .ok (.iload_n 2, 1) := by decide +kernel
theorem dX2_shootable_74 : decode cX2_shootable 74 = .ok (.ior, 1) := by decide +kernel
theorem dX2_shootable_75 : decode cX2_shootable 75 = .ok (.invokevirtual 69, 3) := by decide +kernel
theorem dX2_shootable_78 : decode cX2_shootable 78 = .ok (.ifCond .eq 11, 3) := by decide +kernel
theorem dX2_shootable_81 : decode cX2_shootable 81 = .ok (.iload_n 2, 1) := by decide +kernel
theorem dX2_shootable_82 : decode cX2_shootable 82 = .ok (.iload 4, 2) := by decide +kernel
theorem dX2_shootable_84 : decode cX2_shootable 84 = .ok (.iconst 1, 1) := by decide +kernel
theorem dX2_shootable_85 : decode cX2_shootable 85 = .ok (.invokestatic 73, 3) := by decide +kernel
theorem dX2_shootable_88 : decode cX2_shootable 88 = .ok (.istore_n 2, 1) := by decide +kernel
theorem dX2_shootable_89 : decode cX2_shootable 89 = .ok (.iinc 3 1, 3) := by decide +kernel
theorem dX2_shootable_92 : decode cX2_shootable 92 = .ok (.goto (-88), 3) := by decide +kernel
theorem dX2_shootable_95 : decode cX2_shootable 95 = .ok (.iload_n 2, 1) := by decide +kernel
theorem dX2_shootable_96 : decode cX2_shootable 96 = .ok (.ireturn, 1) := by decide +kernel
theorem dX2_endDay_0 : decode cX2_endDay 0 = .ok (.iconst 0, 1) := by decide +kernel
theorem dX2_endDay_1 : decode cX2_endDay 1 = .ok (.istore_n 2, 1) := by decide +kernel
theorem dX2_endDay_2 : decode cX2_endDay 2 = .ok (.iload_n 2, 1) := by decide +kernel
theorem dX2_endDay_3 : decode cX2_endDay 3 = .ok (.aload_n 0, 1) := by decide +kernel
theorem dX2_endDay_4 : decode cX2_endDay 4 = .ok (.getfield 12, 3) := by decide +kernel
theorem dX2_endDay_7 : decode cX2_endDay 7 = .ok (.getfield 77, 3) := by decide +kernel
theorem dX2_endDay_10 : decode cX2_endDay 10 = .ok (.if_icmp .ge 33, 3) := by decide +kernel
theorem dX2_endDay_13 : decode cX2_endDay 13 = .ok (.iload_n 1, 1) := by decide +kernel
theorem dX2_endDay_14 : decode cX2_endDay 14 = .ok (.iload_n 2, 1) := by decide +kernel
theorem dX2_endDay_15 : decode cX2_endDay 15 = .ok (.invokestatic 80, 3) := by decide +kernel
theorem dX2_endDay_18 : decode cX2_endDay 18 = .ok (.ifCond .eq 19, 3) := by decide +kernel
theorem dX2_endDay_21 : decode cX2_endDay 21 = .ok (.aload_n 0, 1) := by decide +kernel
theorem dX2_endDay_22 : decode cX2_endDay 22 = .ok (.getfield 22, 3) := by decide +kernel
theorem dX2_endDay_25 : decode cX2_endDay 25 = .ok (.iload_n 2, 1) := by decide +kernel
theorem dX2_endDay_26 : decode cX2_endDay 26 = .ok (.aload_n 0, 1) := by decide +kernel
theorem dX2_endDay_27 : decode cX2_endDay 27 = .ok (.getfield 28, 3) := by decide +kernel
theorem dX2_endDay_30 : decode cX2_endDay 30 = .ok (.iload_n 2, 1) := by decide +kernel
theorem dX2_endDay_31 : decode cX2_endDay 31 = .ok (.invokestatic 54, 3) := by decide +kernel
theorem dX2_endDay_34 : decode cX2_endDay 34 = .ok (.invokestatic 83, 3) := by decide +kernel
theorem dX2_endDay_37 : decode cX2_endDay 37 = .ok (.iinc 2 1, 3) := by decide +kernel
theorem dX2_endDay_40 : decode cX2_endDay 40 = .ok (.goto (-38), 3) := by decide +kernel
theorem dX2_endDay_43 : decode cX2_endDay 43 = .ok (.aload_n 0, 1) := by decide +kernel
theorem dX2_endDay_44 : decode cX2_endDay 44 = .ok (.getfield 12, 3) := by decide +kernel
theorem dX2_endDay_47 : decode cX2_endDay 47 = .ok (.dup, 1) := by decide +kernel
theorem dX2_endDay_48 : decode cX2_endDay 48 = .ok (.getfield 39, 3) := by decide +kernel
theorem dX2_endDay_51 : decode cX2_endDay 51 = .ok (.iload_n 1, 1) := by decide +kernel
theorem dX2_endDay_52 : decode cX2_endDay 52 = .ok (.ior, 1) := by decide +kernel
theorem dX2_endDay_53 : decode cX2_endDay 53 = .ok (.putfield 39, 3) := by decide +kernel
theorem dX2_endDay_56 : decode cX2_endDay 56 = .ok (.aload_n 0, 1) := by decide +kernel
theorem dX2_endDay_57 : decode cX2_endDay 57 = .ok (.dup, 1) := by decide +kernel
theorem dX2_endDay_58 : decode cX2_endDay 58 = .ok (.getfield 62, 3) := by decide +kernel
theorem dX2_endDay_61 : decode cX2_endDay 61 = .ok (.iconst 1, 1) := by decide +kernel
theorem dX2_endDay_62 : decode cX2_endDay 62 = .ok (.iadd, 1) := by decide +kernel
theorem dX2_endDay_63 : decode cX2_endDay 63 = .ok (.putfield 62, 3) := by decide +kernel
theorem dX2_endDay_66 : decode cX2_endDay 66 = .ok (.aload_n 0, 1) := by decide +kernel
theorem dX2_endDay_67 : decode cX2_endDay 67 = .ok (.invokevirtual 87, 3) := by decide +kernel
theorem dX2_endDay_70 : decode cX2_endDay 70 = .ok (.return_, 1) := by decide +kernel
theorem dX2_tryOrders_0 : decode cX2_tryOrders 0 = .ok (.iload_n 2, 1) := by decide +kernel
theorem dX2_tryOrders_1 : decode cX2_tryOrders 1 = .ok (.aload_n 0, 1) := by decide +kernel
theorem dX2_tryOrders_2 : decode cX2_tryOrders 2 = .ok (.getfield 12, 3) := by decide +kernel
theorem dX2_tryOrders_5 : decode cX2_tryOrders 5 = .ok (.invokevirtual 90, 3) := by decide +kernel
theorem dX2_tryOrders_8 : decode cX2_tryOrders 8 = .ok (.if_icmp .eq 9, 3) := by decide +kernel
theorem dX2_tryOrders_11 : decode cX2_tryOrders 11 = .ok (.iload_n 1, 1) := by decide +kernel
theorem dX2_tryOrders_12 : decode cX2_tryOrders 12 = .ok (.bipush 8, 2) := by decide +kernel
theorem dX2_tryOrders_14 : decode cX2_tryOrders 14 = .ok (.if_icmp .lt 9, 3) := by decide +kernel
theorem dX2_tryOrders_17 : decode cX2_tryOrders 17 = .ok (.aload_n 0, 1) := by decide +kernel
theorem dX2_tryOrders_18 : decode cX2_tryOrders 18 = .ok (.iload_n 1, 1) := by decide +kernel
theorem dX2_tryOrders_19 : decode cX2_tryOrders 19 = .ok (.invokevirtual 93, 3) := by decide +kernel
theorem dX2_tryOrders_22 : decode cX2_tryOrders 22 = .ok (.return_, 1) := by decide +kernel
theorem dX2_tryOrders_23 : decode cX2_tryOrders 23 = .ok (.iconst 0, 1) := by decide +kernel
theorem dX2_tryOrders_24 : decode cX2_tryOrders 24 = .ok (.istore_n 3, 1) := by decide +kernel
theorem dX2_tryOrders_25 : decode cX2_tryOrders 25 = .ok (.iload_n 3, 1) := by decide +kernel
theorem dX2_tryOrders_26 : decode cX2_tryOrders 26 = .ok (.aload_n 0, 1) := by decide +kernel
theorem dX2_tryOrders_27 : decode cX2_tryOrders 27 = .ok (.getfield 12, 3) := by decide +kernel
theorem dX2_tryOrders_30 : decode cX2_tryOrders 30 = .ok (.getfield 77, 3) := by decide +kernel
theorem dX2_tryOrders_33 : decode cX2_tryOrders 33 = .ok (.if_icmp .ge 57, 3) := by decide +kernel
theorem dX2_tryOrders_36 : decode cX2_tryOrders 36 = .ok (.aload_n 0, 1) := by decide +kernel
theorem dX2_tryOrders_37 : decode cX2_tryOrders 37 = .ok (.getfield 12, 3) := by decide +kernel
theorem dX2_tryOrders_40 : decode cX2_tryOrders 40 = .ok (.iload_n 3, 1) := by decide +kernel
theorem dX2_tryOrders_41 : decode cX2_tryOrders 41 = .ok (.iload_n 2, 1) := by decide +kernel
theorem dX2_tryOrders_42 : decode cX2_tryOrders 42 = .ok (.invokevirtual 97, 3) := by decide +kernel
theorem dX2_tryOrders_45 : decode cX2_tryOrders 45 = .ok (.ifCond .eq 39, 3) := by decide +kernel
theorem dX2_tryOrders_48 : decode cX2_tryOrders 48 = .ok (.aload_n 0, 1) := by decide +kernel
theorem dX2_tryOrders_49 : decode cX2_tryOrders 49 = .ok (.iload_n 3, 1) := by decide +kernel
theorem dX2_tryOrders_50 : decode cX2_tryOrders 50 = .ok (.iload_n 1, 1) := by decide +kernel
theorem dX2_tryOrders_51 : decode cX2_tryOrders 51 = .ok (.iload_n 2, 1) := by decide +kernel
theorem dX2_tryOrders_52 : decode cX2_tryOrders 52 = .ok (.invokevirtual 100, 3) := by decide +kernel
theorem dX2_tryOrders_55 : decode cX2_tryOrders 55 = .ok (.iload_n 2, 1) := by decide +kernel
theorem dX2_tryOrders_56 : decode cX2_tryOrders 56 = .ok (.iload_n 3, 1) := by decide +kernel
theorem dX2_tryOrders_57 : decode cX2_tryOrders 57 = .ok (.iconst 1, 1) := by decide +kernel
theorem dX2_tryOrders_58 : decode cX2_tryOrders 58 = .ok (.invokestatic 73, 3) := by decide +kernel
theorem dX2_tryOrders_61 : decode cX2_tryOrders 61 = .ok (.istore 4, 2) := by decide +kernel
theorem dX2_tryOrders_63 : decode cX2_tryOrders 63 = .ok (.aload_n 0, 1) := by decide +kernel
theorem dX2_tryOrders_64 : decode cX2_tryOrders 64 = .ok (.iload_n 1, 1) := by decide +kernel
theorem dX2_tryOrders_65 : decode cX2_tryOrders 65 = .ok (.iconst 1, 1) := by decide +kernel
theorem dX2_tryOrders_66 : decode cX2_tryOrders 66 = .ok (.iadd, 1) := by decide +kernel
theorem dX2_tryOrders_67 : decode cX2_tryOrders 67 = .ok (.iload 4, 2) := by decide +kernel
theorem dX2_tryOrders_69 : decode cX2_tryOrders 69 = .ok (.invokevirtual 104, 3) := by decide +kernel
theorem dX2_tryOrders_72 : decode cX2_tryOrders 72 = .ok (.ifCond .eq 12, 3) := by decide +kernel
theorem dX2_tryOrders_75 : decode cX2_tryOrders 75 = .ok (.aload_n 0, 1) := by decide +kernel
theorem dX2_tryOrders_76 : decode cX2_tryOrders 76 = .ok (.iload_n 1, 1) := by decide +kernel
theorem dX2_tryOrders_77 : decode cX2_tryOrders 77 = .ok (.iconst 1, 1) := by decide +kernel
theorem dX2_tryOrders_78 : decode cX2_tryOrders 78 = .ok (.iadd, 1) := by decide +kernel
theorem dX2_tryOrders_79 : decode cX2_tryOrders 79 = .ok (.iload 4, 2) := by decide +kernel
theorem dX2_tryOrders_81 : decode cX2_tryOrders 81 = .ok (.invokestatic 42, 3) := by decide +kernel
theorem dX2_tryOrders_84 : decode cX2_tryOrders 84 = .ok (.iinc 3 1, 3) := by decide +kernel
theorem dX2_tryOrders_87 : decode cX2_tryOrders 87 = .ok (.goto (-62), 3) := by decide +kernel
theorem dX2_tryOrders_90 : decode cX2_tryOrders 90 = .ok (.return_, 1) := by decide +kernel
theorem dX2_fewestOfAll_0 : decode cX2_fewestOfAll 0 = .ok (.iload_n 2, 1) := by decide +kernel
theorem dX2_fewestOfAll_1 : decode cX2_fewestOfAll 1 = .ok (.aload_n 0, 1) := by decide +kernel
theorem dX2_fewestOfAll_2 : decode cX2_fewestOfAll 2 = .ok (.getfield 12, 3) := by decide +kernel
theorem dX2_fewestOfAll_5 : decode cX2_fewestOfAll 5 = .ok (.invokevirtual 90, 3) := by decide +kernel
theorem dX2_fewestOfAll_8 : decode cX2_fewestOfAll 8 = .ok (.if_icmp .eq 9, 3) := by decide +kernel
theorem dX2_fewestOfAll_11 : decode cX2_fewestOfAll 11 = .ok (.iload_n 1, 1) := by decide +kernel
theorem dX2_fewestOfAll_12 : decode cX2_fewestOfAll 12 = .ok (.bipush 8, 2) := by decide +kernel
theorem dX2_fewestOfAll_14 : decode cX2_fewestOfAll 14 = .ok (.if_icmp .lt 9, 3) := by decide +kernel
theorem dX2_fewestOfAll_17 : decode cX2_fewestOfAll 17 = .ok (.aload_n 0, 1) := by decide +kernel
theorem dX2_fewestOfAll_18 : decode cX2_fewestOfAll 18 = .ok (.iload_n 1, 1) := by decide +kernel
theorem dX2_fewestOfAll_19 : decode cX2_fewestOfAll 19 = .ok (.invokevirtual 107, 3) := by decide +kernel
theorem dX2_fewestOfAll_22 : decode cX2_fewestOfAll 22 = .ok (.ireturn, 1) := by decide +kernel
theorem dX2_fewestOfAll_23 : decode cX2_fewestOfAll 23 = .ok (.bipush 9, 2) := by decide +kernel
theorem dX2_fewestOfAll_25 : decode cX2_fewestOfAll 25 = .ok (.istore_n 3, 1) := by decide +kernel
theorem dX2_fewestOfAll_26 : decode cX2_fewestOfAll 26 = .ok (.iconst 0, 1) := by decide +kernel
theorem dX2_fewestOfAll_27 : decode cX2_fewestOfAll 27 = .ok (.istore 4, 2) := by decide +kernel
theorem dX2_fewestOfAll_29 : decode cX2_fewestOfAll 29 = .ok (.iload 4, 2) := by decide +kernel
theorem dX2_fewestOfAll_31 : decode cX2_fewestOfAll 31 = .ok (.aload_n 0, 1) := by decide +kernel
theorem dX2_fewestOfAll_32 : decode cX2_fewestOfAll 32 = .ok (.getfield 12, 3) := by decide +kernel
theorem dX2_fewestOfAll_35 : decode cX2_fewestOfAll 35 = .ok (.getfield 77, 3) := by decide +kernel
theorem dX2_fewestOfAll_38 : decode cX2_fewestOfAll 38 = .ok (.if_icmp .ge 49, 3) := by decide +kernel
theorem dX2_fewestOfAll_41 : decode cX2_fewestOfAll 41 = .ok (.aload_n 0, 1) := by decide +kernel
theorem dX2_fewestOfAll_42 : decode cX2_fewestOfAll 42 = .ok (.getfield 12, 3) := by decide +kernel
theorem dX2_fewestOfAll_45 : decode cX2_fewestOfAll 45 = .ok (.iload 4, 2) := by decide +kernel
theorem dX2_fewestOfAll_47 : decode cX2_fewestOfAll 47 = .ok (.iload_n 2, 1) := by decide +kernel
theorem dX2_fewestOfAll_48 : decode cX2_fewestOfAll 48 = .ok (.invokevirtual 97, 3) := by decide +kernel
theorem dX2_fewestOfAll_51 : decode cX2_fewestOfAll 51 = .ok (.ifCond .eq 30, 3) := by decide +kernel
theorem dX2_fewestOfAll_54 : decode cX2_fewestOfAll 54 = .ok (.aload_n 0, 1) := by decide +kernel
theorem dX2_fewestOfAll_55 : decode cX2_fewestOfAll 55 = .ok (.iload 4, 2) := by decide +kernel
theorem dX2_fewestOfAll_57 : decode cX2_fewestOfAll 57 = .ok (.iload_n 1, 1) := by decide +kernel
theorem dX2_fewestOfAll_58 : decode cX2_fewestOfAll 58 = .ok (.iload_n 2, 1) := by decide +kernel
theorem dX2_fewestOfAll_59 : decode cX2_fewestOfAll 59 = .ok (.invokevirtual 100, 3) := by decide +kernel
theorem dX2_fewestOfAll_62 : decode cX2_fewestOfAll 62 = .ok (.iload_n 3, 1) := by decide +kernel
theorem dX2_fewestOfAll_63 : decode cX2_fewestOfAll 63 = .ok (.aload_n 0, 1) := by decide +kernel
theorem dX2_fewestOfAll_64 : decode cX2_fewestOfAll 64 = .ok (.iload_n 1, 1) := by decide +kernel
theorem dX2_fewestOfAll_65 : decode cX2_fewestOfAll 65 = .ok (.iconst 1, 1) := by decide +kernel
theorem dX2_fewestOfAll_66 : decode cX2_fewestOfAll 66 = .ok (.iadd, 1) := by decide +kernel
theorem dX2_fewestOfAll_67 : decode cX2_fewestOfAll 67 = .ok (.iload_n 2, 1) := by decide +kernel
theorem dX2_fewestOfAll_68 : decode cX2_fewestOfAll 68 = .ok (.iload 4, 2) := by decide +kernel
theorem dX2_fewestOfAll_70 : decode cX2_fewestOfAll 70 = .ok (.iconst 1, 1) := by decide +kernel
theorem dX2_fewestOfAll_71 : decode cX2_fewestOfAll 71 = .ok (.invokestatic 73, 3) := by decide +kernel
theorem dX2_fewestOfAll_74 : decode cX2_fewestOfAll 74 = .ok (.invokestatic 46, 3) := by decide +kernel
theorem dX2_fewestOfAll_77 : decode cX2_fewestOfAll 77 = .ok (.invokestatic 110, 3) := by decide +kernel
theorem dX2_fewestOfAll_80 : decode cX2_fewestOfAll 80 = .ok (.istore_n 3, 1) := by decide +kernel
theorem dX2_fewestOfAll_81 : decode cX2_fewestOfAll 81 = .ok (.iinc 4 1, 3) := by decide +kernel
theorem dX2_fewestOfAll_84 : decode cX2_fewestOfAll 84 = .ok (.goto (-55), 3) := by decide +kernel
theorem dX2_fewestOfAll_87 : decode cX2_fewestOfAll 87 = .ok (.iload_n 3, 1) := by decide +kernel
theorem dX2_fewestOfAll_88 : decode cX2_fewestOfAll 88 = .ok (.ireturn, 1) := by decide +kernel
theorem dX2_keepIfBetter_0 : decode cX2_keepIfBetter 0 = .ok (.aload_n 0, 1) := by decide +kernel
theorem dX2_keepIfBetter_1 : decode cX2_keepIfBetter 1 = .ok (.iload_n 1, 1) := by decide +kernel
theorem dX2_keepIfBetter_2 : decode cX2_keepIfBetter 2 = .ok (.invokevirtual 107, 3) := by decide +kernel
theorem dX2_keepIfBetter_5 : decode cX2_keepIfBetter 5 = .ok (.aload_n 0, 1) := by decide +kernel
theorem dX2_keepIfBetter_6 : decode cX2_keepIfBetter 6 = .ok (.getfield 35, 3) := by decide +kernel
theorem dX2_keepIfBetter_9 : decode cX2_keepIfBetter 9 = .ok (.if_icmp .lt 4, 3) := by decide +kernel
theorem dX2_keepIfBetter_12 : decode cX2_keepIfBetter 12 = .ok (.return_, 1) := by decide +kernel
theorem dX2_keepIfBetter_13 : decode cX2_keepIfBetter 13 = .ok (.aload_n 0, 1) := by decide +kernel
theorem dX2_keepIfBetter_14 : decode cX2_keepIfBetter 14 = .ok (.aload_n 0, 1) := by decide +kernel
theorem dX2_keepIfBetter_15 : decode cX2_keepIfBetter 15 = .ok (.iload_n 1, 1) := by decide +kernel
theorem dX2_keepIfBetter_16 : decode cX2_keepIfBetter 16 = .ok (.invokevirtual 107, 3) := by decide +kernel
theorem dX2_keepIfBetter_19 : decode cX2_keepIfBetter 19 = .ok (.putfield 35, 3) := by decide +kernel
theorem dX2_keepIfBetter_22 : decode cX2_keepIfBetter 22 = .ok (.iconst 0, 1) := by decide +kernel
theorem dX2_keepIfBetter_23 : decode cX2_keepIfBetter 23 = .ok (.istore_n 2, 1) := by decide +kernel
theorem dX2_keepIfBetter_24 : decode cX2_keepIfBetter 24 = .ok (.iload_n 2, 1) := by decide +kernel
theorem dX2_keepIfBetter_25 : decode cX2_keepIfBetter 25 = .ok (.bipush 8, 2) := by decide +kernel
theorem dX2_keepIfBetter_27 : decode cX2_keepIfBetter 27 = .ok (.if_icmp .ge 41, 3) := by decide +kernel
theorem dX2_keepIfBetter_30 : decode cX2_keepIfBetter 30 = .ok (.aload_n 0, 1) := by decide +kernel
theorem dX2_keepIfBetter_31 : decode cX2_keepIfBetter 31 = .ok (.getfield 25, 3) := by decide +kernel
theorem dX2_keepIfBetter_34 : decode cX2_keepIfBetter 34 = .ok (.iload_n 2, 1) := by decide +kernel
theorem dX2_keepIfBetter_35 : decode cX2_keepIfBetter 35 = .ok (.aload_n 0, 1) := by decide +kernel
theorem dX2_keepIfBetter_36 : decode cX2_keepIfBetter 36 = .ok (.getfield 18, 3) := by decide +kernel
theorem dX2_keepIfBetter_39 : decode cX2_keepIfBetter 39 = .ok (.iload_n 2, 1) := by decide +kernel
theorem dX2_keepIfBetter_40 : decode cX2_keepIfBetter 40 = .ok (.invokestatic 54, 3) := by decide +kernel
theorem dX2_keepIfBetter_43 : decode cX2_keepIfBetter 43 = .ok (.invokestatic 83, 3) := by decide +kernel
theorem dX2_keepIfBetter_46 : decode cX2_keepIfBetter 46 = .ok (.aload_n 0, 1) := by decide +kernel
theorem dX2_keepIfBetter_47 : decode cX2_keepIfBetter 47 = .ok (.getfield 28, 3) := by decide +kernel
theorem dX2_keepIfBetter_50 : decode cX2_keepIfBetter 50 = .ok (.iload_n 2, 1) := by decide +kernel
theorem dX2_keepIfBetter_51 : decode cX2_keepIfBetter 51 = .ok (.aload_n 0, 1) := by decide +kernel
theorem dX2_keepIfBetter_52 : decode cX2_keepIfBetter 52 = .ok (.getfield 22, 3) := by decide +kernel
theorem dX2_keepIfBetter_55 : decode cX2_keepIfBetter 55 = .ok (.iload_n 2, 1) := by decide +kernel
theorem dX2_keepIfBetter_56 : decode cX2_keepIfBetter 56 = .ok (.invokestatic 54, 3) := by decide +kernel
theorem dX2_keepIfBetter_59 : decode cX2_keepIfBetter 59 = .ok (.invokestatic 83, 3) := by decide +kernel
theorem dX2_keepIfBetter_62 : decode cX2_keepIfBetter 62 = .ok (.iinc 2 1, 3) := by decide +kernel
theorem dX2_keepIfBetter_65 : decode cX2_keepIfBetter 65 = .ok (.goto (-41), 3) := by decide +kernel
theorem dX2_keepIfBetter_68 : decode cX2_keepIfBetter 68 = .ok (.return_, 1) := by decide +kernel
theorem dX2_daysUpTo_0 : decode cX2_daysUpTo 0 = .ok (.iload_n 1, 1) := by decide +kernel
theorem dX2_daysUpTo_1 : decode cX2_daysUpTo 1 = .ok (.ifCond .ne 7, 3) := by decide +kernel
theorem dX2_daysUpTo_4 : decode cX2_daysUpTo 4 = .ok (.iconst 0, 1) := by decide +kernel
theorem dX2_daysUpTo_5 : decode cX2_daysUpTo 5 = .ok (.goto 30, 3) := by decide +kernel
theorem dX2_daysUpTo_8 : decode cX2_daysUpTo 8 = .ok (.aload_n 0, 1) := by decide +kernel
theorem dX2_daysUpTo_9 : decode cX2_daysUpTo 9 = .ok (.getfield 22, 3) := by decide +kernel
theorem dX2_daysUpTo_12 : decode cX2_daysUpTo 12 = .ok (.aload_n 0, 1) := by decide +kernel
theorem dX2_daysUpTo_13 : decode cX2_daysUpTo 13 = .ok (.getfield 18, 3) := by decide +kernel
theorem dX2_daysUpTo_16 : decode cX2_daysUpTo 16 = .ok (.iload_n 1, 1) := by decide +kernel
theorem dX2_daysUpTo_17 : decode cX2_daysUpTo 17 = .ok (.iconst 1, 1) := by decide +kernel
theorem dX2_daysUpTo_18 : decode cX2_daysUpTo 18 = .ok (.isub, 1) := by decide +kernel
theorem dX2_daysUpTo_19 : decode cX2_daysUpTo 19 = .ok (.invokestatic 54, 3) := by decide +kernel
theorem dX2_daysUpTo_22 : decode cX2_daysUpTo 22 = .ok (.invokestatic 54, 3) := by decide +kernel
theorem dX2_daysUpTo_25 : decode cX2_daysUpTo 25 = .ok (.invokestatic 58, 3) := by decide +kernel
theorem dX2_daysUpTo_28 : decode cX2_daysUpTo 28 = .ok (.aload_n 0, 1) := by decide +kernel
theorem dX2_daysUpTo_29 : decode cX2_daysUpTo 29 = .ok (.getfield 62, 3) := by decide +kernel
theorem dX2_daysUpTo_32 : decode cX2_daysUpTo 32 = .ok (.isub, 1) := by decide +kernel
theorem dX2_daysUpTo_33 : decode cX2_daysUpTo 33 = .ok (.iconst 1, 1) := by decide +kernel
theorem dX2_daysUpTo_34 : decode cX2_daysUpTo 34 = .ok (.iadd, 1) := by decide +kernel
theorem dX2_daysUpTo_35 : decode cX2_daysUpTo 35 = .ok (.ireturn, 1) := by decide +kernel
theorem dX2_canBeBetter_0 : decode cX2_canBeBetter 0 = .ok (.aload_n 0, 1) := by decide +kernel
theorem dX2_canBeBetter_1 : decode cX2_canBeBetter 1 = .ok (.getfield 35, 3) := by decide +kernel
theorem dX2_canBeBetter_4 : decode cX2_canBeBetter 4 = .ok (.iconst 1, 1) := by decide +kernel
theorem dX2_canBeBetter_5 : decode cX2_canBeBetter 5 = .ok (.isub, 1) := by decide +kernel
theorem dX2_canBeBetter_6 : decode cX2_canBeBetter 6 = .ok (.aload_n 0, 1) := by decide +kernel
theorem dX2_canBeBetter_7 : decode cX2_canBeBetter 7 = .ok (.iload_n 1, 1) := by decide +kernel
theorem dX2_canBeBetter_8 : decode cX2_canBeBetter 8 = .ok (.invokevirtual 107, 3) := by decide +kernel
theorem dX2_canBeBetter_11 : decode cX2_canBeBetter 11 = .ok (.isub, 1) := by decide +kernel
theorem dX2_canBeBetter_12 : decode cX2_canBeBetter 12 = .ok (.istore_n 3, 1) := by decide +kernel
theorem dX2_canBeBetter_13 : decode cX2_canBeBetter 13 = .ok (.aload_n 0, 1) := by decide +kernel
theorem dX2_canBeBetter_14 : decode cX2_canBeBetter 14 = .ok (.getfield 18, 3) := by decide +kernel
theorem dX2_canBeBetter_17 : decode cX2_canBeBetter 17 = .ok (.iload_n 1, 1) := by decide +kernel
theorem dX2_canBeBetter_18 : decode cX2_canBeBetter 18 = .ok (.iconst 1, 1) := by decide +kernel
theorem dX2_canBeBetter_19 : decode cX2_canBeBetter 19 = .ok (.isub, 1) := by decide +kernel
theorem dX2_canBeBetter_20 : decode cX2_canBeBetter 20 = .ok (.invokestatic 54, 3) := by decide +kernel
theorem dX2_canBeBetter_23 : decode cX2_canBeBetter 23 = .ok (.istore 4, 2) := by decide +kernel
theorem dX2_canBeBetter_25 : decode cX2_canBeBetter 25 = .ok (.aload_n 0, 1) := by decide +kernel
theorem dX2_canBeBetter_26 : decode cX2_canBeBetter 26 = .ok (.getfield 12, 3) := by decide +kernel
theorem dX2_canBeBetter_29 : decode cX2_canBeBetter 29 = .ok (.invokevirtual 90, 3) := by decide +kernel
theorem dX2_canBeBetter_32 : decode cX2_canBeBetter 32 = .ok (.iload_n 2, 1) := by decide +kernel
theorem dX2_canBeBetter_33 : decode cX2_canBeBetter 33 = .ok (.iconst (-1), 1) := by decide +kernel
theorem dX2_canBeBetter_34 : decode cX2_canBeBetter 34 = .ok (.ixor, 1) := by decide +kernel
theorem dX2_canBeBetter_35 : decode cX2_canBeBetter 35 = .ok (.iand, 1) := by decide +kernel
theorem dX2_canBeBetter_36 : decode cX2_canBeBetter 36 = .ok (.istore 5, 2) := by decide +kernel
theorem dX2_canBeBetter_38 : decode cX2_canBeBetter 38 = .ok (.iload_n 3, 1) := by decide +kernel
theorem dX2_canBeBetter_39 : decode cX2_canBeBetter 39 = .ok (.ifCond .lt 32, 3) := by decide +kernel
theorem dX2_canBeBetter_42 : decode cX2_canBeBetter 42 = .ok (.aload_n 0, 1) := by decide +kernel
theorem dX2_canBeBetter_43 : decode cX2_canBeBetter 43 = .ok (.iload 5, 2) := by decide +kernel
theorem dX2_canBeBetter_45 : decode cX2_canBeBetter 45 = .ok (.iload 4, 2) := by decide +kernel
theorem dX2_canBeBetter_47 : decode cX2_canBeBetter 47 = .ok (.iload_n 3, 1) := by decide +kernel
theorem dX2_canBeBetter_48 : decode cX2_canBeBetter 48 = .ok (.invokevirtual 116, 3) := by decide +kernel
theorem dX2_canBeBetter_51 : decode cX2_canBeBetter 51 = .ok (.ifCond .eq 20, 3) := by decide +kernel
theorem dX2_canBeBetter_54 : decode cX2_canBeBetter 54 = .ok (.aload_n 0, 1) := by decide +kernel
theorem dX2_canBeBetter_55 : decode cX2_canBeBetter 55 = .ok (.iload 5, 2) := by decide +kernel
theorem dX2_canBeBetter_57 : decode cX2_canBeBetter 57 = .ok (.iload_n 2, 1) := by decide +kernel
theorem dX2_canBeBetter_58 : decode cX2_canBeBetter 58 = .ok (.iload 4, 2) := by decide +kernel
theorem dX2_canBeBetter_60 : decode cX2_canBeBetter 60 = .ok (.iload_n 3, 1) := by decide +kernel
theorem dX2_canBeBetter_61 : decode cX2_canBeBetter 61 = .ok (.invokevirtual 120, 3) := by decide +kernel
theorem dX2_canBeBetter_64 : decode cX2_canBeBetter 64 = .ok (.ifCond .eq 7, 3) := by decide +kernel
theorem dX2_canBeBetter_67 : decode cX2_canBeBetter 67 = .ok (.iconst 1, 1) := by decide +kernel
theorem dX2_canBeBetter_68 : decode cX2_canBeBetter 68 = .ok (.goto 4, 3) := by decide +kernel
theorem dX2_canBeBetter_71 : decode cX2_canBeBetter 71 = .ok (.iconst 0, 1) := by decide +kernel
theorem dX2_canBeBetter_72 : decode cX2_canBeBetter 72 = .ok (.ireturn, 1) := by decide +kernel
theorem dX2_hasRoom_0 : decode cX2_hasRoom 0 = .ok (.aload_n 0, 1) := by decide +kernel
theorem dX2_hasRoom_1 : decode cX2_hasRoom 1 = .ok (.iload_n 2, 1) := by decide +kernel
theorem dX2_hasRoom_2 : decode cX2_hasRoom 2 = .ok (.invokevirtual 124, 3) := by decide +kernel
theorem dX2_hasRoom_5 : decode cX2_hasRoom 5 = .ok (.bipush 24, 2) := by decide +kernel
theorem dX2_hasRoom_7 : decode cX2_hasRoom 7 = .ok (.aload_n 0, 1) := by decide +kernel
theorem dX2_hasRoom_8 : decode cX2_hasRoom 8 = .ok (.getfield 22, 3) := by decide +kernel
theorem dX2_hasRoom_11 : decode cX2_hasRoom 11 = .ok (.iload_n 2, 1) := by decide +kernel
theorem dX2_hasRoom_12 : decode cX2_hasRoom 12 = .ok (.invokestatic 54, 3) := by decide +kernel
theorem dX2_hasRoom_15 : decode cX2_hasRoom 15 = .ok (.invokestatic 58, 3) := by decide +kernel
theorem dX2_hasRoom_18 : decode cX2_hasRoom 18 = .ok (.imul, 1) := by decide +kernel
theorem dX2_hasRoom_19 : decode cX2_hasRoom 19 = .ok (.isub, 1) := by decide +kernel
theorem dX2_hasRoom_20 : decode cX2_hasRoom 20 = .ok (.istore 4, 2) := by decide +kernel
theorem dX2_hasRoom_22 : decode cX2_hasRoom 22 = .ok (.aload_n 0, 1) := by decide +kernel
theorem dX2_hasRoom_23 : decode cX2_hasRoom 23 = .ok (.getfield 12, 3) := by decide +kernel
theorem dX2_hasRoom_26 : decode cX2_hasRoom 26 = .ok (.iload_n 1, 1) := by decide +kernel
theorem dX2_hasRoom_27 : decode cX2_hasRoom 27 = .ok (.invokevirtual 127, 3) := by decide +kernel
theorem dX2_hasRoom_30 : decode cX2_hasRoom 30 = .ok (.bipush 24, 2) := by decide +kernel
theorem dX2_hasRoom_32 : decode cX2_hasRoom 32 = .ok (.iload 4, 2) := by decide +kernel
theorem dX2_hasRoom_34 : decode cX2_hasRoom 34 = .ok (.isub, 1) := by decide +kernel
theorem dX2_hasRoom_35 : decode cX2_hasRoom 35 = .ok (.iload_n 3, 1) := by decide +kernel
theorem dX2_hasRoom_36 : decode cX2_hasRoom 36 = .ok (.bipush 16, 2) := by decide +kernel
theorem dX2_hasRoom_38 : decode cX2_hasRoom 38 = .ok (.imul, 1) := by decide +kernel
theorem dX2_hasRoom_39 : decode cX2_hasRoom 39 = .ok (.iadd, 1) := by decide +kernel
theorem dX2_hasRoom_40 : decode cX2_hasRoom 40 = .ok (.if_icmp .gt 54, 3) := by decide +kernel
theorem dX2_hasRoom_43 : decode cX2_hasRoom 43 = .ok (.aload_n 0, 1) := by decide +kernel
theorem dX2_hasRoom_44 : decode cX2_hasRoom 44 = .ok (.iload_n 1, 1) := by decide +kernel
theorem dX2_hasRoom_45 : decode cX2_hasRoom 45 = .ok (.iconst 1, 1) := by decide +kernel
theorem dX2_hasRoom_46 : decode cX2_hasRoom 46 = .ok (.invokevirtual 130, 3) := by decide +kernel
theorem dX2_hasRoom_49 : decode cX2_hasRoom 49 = .ok (.iconst 0, 1) := by decide +kernel
theorem dX2_hasRoom_50 : decode cX2_hasRoom 50 = .ok (.bipush 18, 2) := by decide +kernel
theorem dX2_hasRoom_52 : decode cX2_hasRoom 52 = .ok (.iload 4, 2) := by decide +kernel
theorem dX2_hasRoom_54 : decode cX2_hasRoom 54 = .ok (.isub, 1) := by decide +kernel
theorem dX2_hasRoom_55 : decode cX2_hasRoom 55 = .ok (.invokestatic 133, 3) := by decide +kernel
theorem dX2_hasRoom_58 : decode cX2_hasRoom 58 = .ok (.iload_n 3, 1) := by decide +kernel
theorem dX2_hasRoom_59 : decode cX2_hasRoom 59 = .ok (.bipush 10, 2) := by decide +kernel
theorem dX2_hasRoom_61 : decode cX2_hasRoom 61 = .ok (.imul, 1) := by decide +kernel
theorem dX2_hasRoom_62 : decode cX2_hasRoom 62 = .ok (.iadd, 1) := by decide +kernel
theorem dX2_hasRoom_63 : decode cX2_hasRoom 63 = .ok (.if_icmp .gt 31, 3) := by decide +kernel
theorem dX2_hasRoom_66 : decode cX2_hasRoom 66 = .ok (.aload_n 0, 1) := by decide +kernel
theorem dX2_hasRoom_67 : decode cX2_hasRoom 67 = .ok (.iload_n 1, 1) := by decide +kernel
theorem dX2_hasRoom_68 : decode cX2_hasRoom 68 = .ok (.iconst 2, 1) := by decide +kernel
theorem dX2_hasRoom_69 : decode cX2_hasRoom 69 = .ok (.invokevirtual 130, 3) := by decide +kernel
theorem dX2_hasRoom_72 : decode cX2_hasRoom 72 = .ok (.bipush 24, 2) := by decide +kernel
theorem dX2_hasRoom_74 : decode cX2_hasRoom 74 = .ok (.bipush 18, 2) := by decide +kernel
theorem dX2_hasRoom_76 : decode cX2_hasRoom 76 = .ok (.iload 4, 2) := by decide +kernel
theorem dX2_hasRoom_78 : decode cX2_hasRoom 78 = .ok (.invokestatic 133, 3) := by decide +kernel
theorem dX2_hasRoom_81 : decode cX2_hasRoom 81 = .ok (.isub, 1) := by decide +kernel
theorem dX2_hasRoom_82 : decode cX2_hasRoom 82 = .ok (.iload_n 3, 1) := by decide +kernel
theorem dX2_hasRoom_83 : decode cX2_hasRoom 83 = .ok (.bipush 6, 2) := by decide +kernel
theorem dX2_hasRoom_85 : decode cX2_hasRoom 85 = .ok (.imul, 1) := by decide +kernel
theorem dX2_hasRoom_86 : decode cX2_hasRoom 86 = .ok (.iadd, 1) := by decide +kernel
theorem dX2_hasRoom_87 : decode cX2_hasRoom 87 = .ok (.if_icmp .gt 7, 3) := by decide +kernel
theorem dX2_hasRoom_90 : decode cX2_hasRoom 90 = .ok (.iconst 1, 1) := by decide +kernel
theorem dX2_hasRoom_91 : decode cX2_hasRoom 91 = .ok (.goto 4, 3) := by decide +kernel
theorem dX2_hasRoom_94 : decode cX2_hasRoom 94 = .ok (.iconst 0, 1) := by decide +kernel
theorem dX2_hasRoom_95 : decode cX2_hasRoom 95 = .ok (.ireturn, 1) := by decide +kernel
theorem dX2_hasRoomForChildren_0 : decode cX2_hasRoomForChildren 0 = .ok (.aload_n 0, 1) := by decide +kernel
theorem dX2_hasRoomForChildren_1 : decode cX2_hasRoomForChildren 1 = .ok (.getfield 22, 3) := by decide +kernel
theorem dX2_hasRoomForChildren_4 : decode cX2_hasRoomForChildren 4 = .ok (.iload_n 3, 1) := by decide +kernel
theorem dX2_hasRoomForChildren_5 : decode cX2_hasRoomForChildren 5 = .ok (.invokestatic 54, 3) := by decide +kernel
theorem dX2_hasRoomForChildren_8 : decode cX2_hasRoomForChildren 8 = .ok (.invokestatic 58, 3) := by decide +kernel
theorem dX2_hasRoomForChildren_11 : decode cX2_hasRoomForChildren 11 = .ok (.istore 5, 2) := by decide +kernel
theorem dX2_hasRoomForChildren_13 : decode cX2_hasRoomForChildren 13 = .ok (.iconst 0, 1) := by decide +kernel
theorem dX2_hasRoomForChildren_14 : decode cX2_hasRoomForChildren 14 = .ok (.istore 6, 2) := by decide +kernel
theorem dX2_hasRoomForChildren_16 : decode cX2_hasRoomForChildren 16 = .ok (.iload 6, 2) := by decide +kernel
theorem dX2_hasRoomForChildren_18 : decode cX2_hasRoomForChildren 18 = .ok (.bipush 6, 2) := by decide +kernel
theorem dX2_hasRoomForChildren_20 : decode cX2_hasRoomForChildren 20 = .ok (.if_icmp .ge 57, 3) := by decide +kernel
theorem dX2_hasRoomForChildren_23 : decode cX2_hasRoomForChildren 23 = .ok (.aload_n 0, 1) := by decide +kernel
theorem dX2_hasRoomForChildren_24 : decode cX2_hasRoomForChildren 24 = .ok (.getfield 12, 3) := by decide +kernel
theorem dX2_hasRoomForChildren_27 : decode cX2_hasRoomForChildren 27 = .ok (.getfield 136, 3) := by decide +kernel
theorem dX2_hasRoomForChildren_30 : decode cX2_hasRoomForChildren 30 = .ok (.iload 6, 2) := by decide +kernel
theorem dX2_hasRoomForChildren_32 : decode cX2_hasRoomForChildren 32 = .ok (.invokestatic 80, 3) := by decide +kernel
theorem dX2_hasRoomForChildren_35 : decode cX2_hasRoomForChildren 35 = .ok (.ifCond .eq 36, 3) := by decide +kernel
theorem dX2_hasRoomForChildren_38 : decode cX2_hasRoomForChildren 38 = .ok (.aload_n 0, 1) := by decide +kernel
theorem dX2_hasRoomForChildren_39 : decode cX2_hasRoomForChildren 39 = .ok (.iload 6, 2) := by decide +kernel
theorem dX2_hasRoomForChildren_41 : decode cX2_hasRoomForChildren 41 = .ok (.iload_n 1, 1) := by decide +kernel
theorem dX2_hasRoomForChildren_42 : decode cX2_hasRoomForChildren 42 = .ok (.invokevirtual 139, 3) := by decide +kernel
theorem dX2_hasRoomForChildren_45 : decode cX2_hasRoomForChildren 45 = .ok (.bipush 6, 2) := by decide +kernel
theorem dX2_hasRoomForChildren_47 : decode cX2_hasRoomForChildren 47 = .ok (.iload 4, 2) := by decide +kernel
theorem dX2_hasRoomForChildren_49 : decode cX2_hasRoomForChildren 49 = .ok (.iconst 1, 1) := by decide +kernel
theorem dX2_hasRoomForChildren_50 : decode cX2_hasRoomForChildren 50 = .ok (.iadd, 1) := by decide +kernel
theorem dX2_hasRoomForChildren_51 : decode cX2_hasRoomForChildren 51 = .ok (.imul, 1) := by decide +kernel
theorem dX2_hasRoomForChildren_52 : decode cX2_hasRoomForChildren 52 = .ok (.aload_n 0, 1) := by decide +kernel
theorem dX2_hasRoomForChildren_53 : decode cX2_hasRoomForChildren 53 = .ok (.iload 6, 2) := by decide +kernel
theorem dX2_hasRoomForChildren_55 : decode cX2_hasRoomForChildren 55 = .ok (.aload_n 0, 1) := by decide +kernel
theorem dX2_hasRoomForChildren_56 : decode cX2_hasRoomForChildren 56 = .ok (.iload 5, 2) := by decide +kernel
theorem dX2_hasRoomForChildren_58 : decode cX2_hasRoomForChildren 58 = .ok (.iload_n 2, 1) := by decide +kernel
theorem dX2_hasRoomForChildren_59 : decode cX2_hasRoomForChildren 59 = .ok (.invokevirtual 142, 3) := by decide +kernel
theorem dX2_hasRoomForChildren_62 : decode cX2_hasRoomForChildren 62 = .ok (.invokevirtual 139, 3) := by decide +kernel
theorem dX2_hasRoomForChildren_65 : decode cX2_hasRoomForChildren 65 = .ok (.isub, 1) := by decide +kernel
theorem dX2_hasRoomForChildren_66 : decode cX2_hasRoomForChildren 66 = .ok (.if_icmp .le 5, 3) := by decide +kernel
theorem dX2_hasRoomForChildren_69 : decode cX2_hasRoomForChildren 69 = .ok (.iconst 0, 1) := by decide +kernel
theorem dX2_hasRoomForChildren_70 : decode cX2_hasRoomForChildren 70 = .ok (.ireturn, 1) := by decide +kernel
theorem dX2_hasRoomForChildren_71 : decode cX2_hasRoomForChildren 71 = .ok (.iinc 6 1, 3) := by decide +kernel
theorem dX2_hasRoomForChildren_74 : decode cX2_hasRoomForChildren 74 = .ok (.goto (-58), 3) := by decide +kernel
theorem dX2_hasRoomForChildren_77 : decode cX2_hasRoomForChildren 77 = .ok (.iconst 1, 1) := by decide +kernel
theorem dX2_hasRoomForChildren_78 : decode cX2_hasRoomForChildren 78 = .ok (.ireturn, 1) := by decide +kernel
theorem dX2_hoursIn_0 : decode cX2_hoursIn 0 = .ok (.iconst 0, 1) := by decide +kernel
theorem dX2_hoursIn_1 : decode cX2_hoursIn 1 = .ok (.istore_n 3, 1) := by decide +kernel
theorem dX2_hoursIn_2 : decode cX2_hoursIn 2 = .ok (.iconst 0, 1) := by decide +kernel
theorem dX2_hoursIn_3 : decode cX2_hoursIn 3 = .ok (.istore 4, 2) := by decide +kernel
theorem dX2_hoursIn_5 : decode cX2_hoursIn 5 = .ok (.iload 4, 2) := by decide +kernel
theorem dX2_hoursIn_7 : decode cX2_hoursIn 7 = .ok (.aload_n 0, 1) := by decide +kernel
theorem dX2_hoursIn_8 : decode cX2_hoursIn 8 = .ok (.getfield 12, 3) := by decide +kernel
theorem dX2_hoursIn_11 : decode cX2_hoursIn 11 = .ok (.getfield 77, 3) := by decide +kernel
theorem dX2_hoursIn_14 : decode cX2_hoursIn 14 = .ok (.if_icmp .ge 49, 3) := by decide +kernel
theorem dX2_hoursIn_17 : decode cX2_hoursIn 17 = .ok (.iload_n 1, 1) := by decide +kernel
theorem dX2_hoursIn_18 : decode cX2_hoursIn 18 = .ok (.iload 4, 2) := by decide +kernel
theorem dX2_hoursIn_20 : decode cX2_hoursIn 20 = .ok (.invokestatic 80, 3) := by decide +kernel
theorem dX2_hoursIn_23 : decode cX2_hoursIn 23 = .ok (.ifCond .eq 34, 3) := by decide +kernel
theorem dX2_hoursIn_26 : decode cX2_hoursIn 26 = .ok (.aload_n 0, 1) := by decide +kernel
theorem dX2_hoursIn_27 : decode cX2_hoursIn 27 = .ok (.getfield 12, 3) := by decide +kernel
theorem dX2_hoursIn_30 : decode cX2_hoursIn 30 = .ok (.getfield 145, 3) := by decide +kernel
theorem dX2_hoursIn_33 : decode cX2_hoursIn 33 = .ok (.iload 4, 2) := by decide +kernel
theorem dX2_hoursIn_35 : decode cX2_hoursIn 35 = .ok (.invokestatic 54, 3) := by decide +kernel
theorem dX2_hoursIn_38 : decode cX2_hoursIn 38 = .ok (.iload_n 2, 1) := by decide +kernel
theorem dX2_hoursIn_39 : decode cX2_hoursIn 39 = .ok (.if_icmp .ne 18, 3) := by decide +kernel
theorem dX2_hoursIn_42 : decode cX2_hoursIn 42 = .ok (.iload_n 3, 1) := by decide +kernel
theorem dX2_hoursIn_43 : decode cX2_hoursIn 43 = .ok (.aload_n 0, 1) := by decide +kernel
theorem dX2_hoursIn_44 : decode cX2_hoursIn 44 = .ok (.getfield 12, 3) := by decide +kernel
theorem dX2_hoursIn_47 : decode cX2_hoursIn 47 = .ok (.getfield 148, 3) := by decide +kernel
theorem dX2_hoursIn_50 : decode cX2_hoursIn 50 = .ok (.iload 4, 2) := by decide +kernel
theorem dX2_hoursIn_52 : decode cX2_hoursIn 52 = .ok (.invokestatic 54, 3) := by decide +kernel
theorem dX2_hoursIn_55 : decode cX2_hoursIn 55 = .ok (.iadd, 1) := by decide +kernel
theorem dX2_hoursIn_56 : decode cX2_hoursIn 56 = .ok (.istore_n 3, 1) := by decide +kernel
theorem dX2_hoursIn_57 : decode cX2_hoursIn 57 = .ok (.iinc 4 1, 3) := by decide +kernel
theorem dX2_hoursIn_60 : decode cX2_hoursIn 60 = .ok (.goto (-55), 3) := by decide +kernel
theorem dX2_hoursIn_63 : decode cX2_hoursIn 63 = .ok (.iload_n 3, 1) := by decide +kernel
theorem dX2_hoursIn_64 : decode cX2_hoursIn 64 = .ok (.ireturn, 1) := by decide +kernel
theorem dX2_place_0 : decode cX2_place 0 = .ok (.aload_n 0, 1) := by decide +kernel
theorem dX2_place_1 : decode cX2_place 1 = .ok (.getfield 62, 3) := by decide +kernel
theorem dX2_place_4 : decode cX2_place 4 = .ok (.istore 4, 2) := by decide +kernel
theorem dX2_place_6 : decode cX2_place 6 = .ok (.iload 4, 2) := by decide +kernel
theorem dX2_place_8 : decode cX2_place 8 = .ok (.invokestatic 151, 3) := by decide +kernel
theorem dX2_place_11 : decode cX2_place 11 = .ok (.istore 5, 2) := by decide +kernel
theorem dX2_place_13 : decode cX2_place 13 = .ok (.iload_n 2, 1) := by decide +kernel
theorem dX2_place_14 : decode cX2_place 14 = .ok (.ifCond .le 69, 3) := by decide +kernel
theorem dX2_place_17 : decode cX2_place 17 = .ok (.aload_n 0, 1) := by decide +kernel
theorem dX2_place_18 : decode cX2_place 18 = .ok (.getfield 18, 3) := by decide +kernel
theorem dX2_place_21 : decode cX2_place 21 = .ok (.iload_n 2, 1) := by decide +kernel
theorem dX2_place_22 : decode cX2_place 22 = .ok (.iconst 1, 1) := by decide +kernel
theorem dX2_place_23 : decode cX2_place 23 = .ok (.isub, 1) := by decide +kernel
theorem dX2_place_24 : decode cX2_place 24 = .ok (.invokestatic 54, 3) := by decide +kernel
theorem dX2_place_27 : decode cX2_place 27 = .ok (.istore 6, 2) := by decide +kernel
theorem dX2_place_29 : decode cX2_place 29 = .ok (.aload_n 0, 1) := by decide +kernel
theorem dX2_place_30 : decode cX2_place 30 = .ok (.getfield 22, 3) := by decide +kernel
theorem dX2_place_33 : decode cX2_place 33 = .ok (.iload 6, 2) := by decide +kernel
theorem dX2_place_35 : decode cX2_place 35 = .ok (.invokestatic 54, 3) := by decide +kernel
theorem dX2_place_38 : decode cX2_place 38 = .ok (.invokestatic 58, 3) := by decide +kernel
theorem dX2_place_41 : decode cX2_place 41 = .ok (.istore 4, 2) := by decide +kernel
theorem dX2_place_43 : decode cX2_place 43 = .ok (.aload_n 0, 1) := by decide +kernel
theorem dX2_place_44 : decode cX2_place 44 = .ok (.iload 6, 2) := by decide +kernel
theorem dX2_place_46 : decode cX2_place 46 = .ok (.invokevirtual 124, 3) := by decide +kernel
theorem dX2_place_49 : decode cX2_place 49 = .ok (.aload_n 0, 1) := by decide +kernel
theorem dX2_place_50 : decode cX2_place 50 = .ok (.getfield 12, 3) := by decide +kernel
theorem dX2_place_53 : decode cX2_place 53 = .ok (.getfield 154, 3) := by decide +kernel
theorem dX2_place_56 : decode cX2_place 56 = .ok (.iload 6, 2) := by decide +kernel
theorem dX2_place_58 : decode cX2_place 58 = .ok (.invokestatic 54, 3) := by decide +kernel
theorem dX2_place_61 : decode cX2_place 61 = .ok (.aload_n 0, 1) := by decide +kernel
theorem dX2_place_62 : decode cX2_place 62 = .ok (.getfield 12, 3) := by decide +kernel
theorem dX2_place_65 : decode cX2_place 65 = .ok (.getfield 154, 3) := by decide +kernel
theorem dX2_place_68 : decode cX2_place 68 = .ok (.iload_n 1, 1) := by decide +kernel
theorem dX2_place_69 : decode cX2_place 69 = .ok (.invokestatic 54, 3) := by decide +kernel
theorem dX2_place_72 : decode cX2_place 72 = .ok (.if_icmp .ne 7, 3) := by decide +kernel
theorem dX2_place_75 : decode cX2_place 75 = .ok (.iconst 0, 1) := by decide +kernel
theorem dX2_place_76 : decode cX2_place 76 = .ok (.goto 4, 3) := by decide +kernel
theorem dX2_place_79 : decode cX2_place 79 = .ok (.iconst 1, 1) := by decide +kernel
theorem dX2_place_80 : decode cX2_place 80 = .ok (.iadd, 1) := by decide +kernel
theorem dX2_place_81 : decode cX2_place 81 = .ok (.istore 5, 2) := by decide +kernel
theorem dX2_place_83 : decode cX2_place 83 = .ok (.aload_n 0, 1) := by decide +kernel
theorem dX2_place_84 : decode cX2_place 84 = .ok (.iload 5, 2) := by decide +kernel
theorem dX2_place_86 : decode cX2_place 86 = .ok (.iload_n 1, 1) := by decide +kernel
theorem dX2_place_87 : decode cX2_place 87 = .ok (.iload 4, 2) := by decide +kernel
theorem dX2_place_89 : decode cX2_place 89 = .ok (.iload_n 3, 1) := by decide +kernel
theorem dX2_place_90 : decode cX2_place 90 = .ok (.invokevirtual 157, 3) := by decide +kernel
theorem dX2_place_93 : decode cX2_place 93 = .ok (.istore 5, 2) := by decide +kernel
theorem dX2_place_95 : decode cX2_place 95 = .ok (.aload_n 0, 1) := by decide +kernel
theorem dX2_place_96 : decode cX2_place 96 = .ok (.iload_n 1, 1) := by decide +kernel
theorem dX2_place_97 : decode cX2_place 97 = .ok (.iload 5, 2) := by decide +kernel
theorem dX2_place_99 : decode cX2_place 99 = .ok (.iload 4, 2) := by decide +kernel
theorem dX2_place_101 : decode cX2_place 101 = .ok (.invokevirtual 161, 3) := by decide +kernel
theorem dX2_place_104 : decode cX2_place 104 = .ok (.ifCond .eq 14, 3) := by decide +kernel
theorem dX2_place_107 : decode cX2_place 107 = .ok (.aload_n 0, 1) := by decide +kernel
theorem dX2_place_108 : decode cX2_place 108 = .ok (.iload_n 1, 1) := by decide +kernel
theorem dX2_place_109 : decode cX2_place 109 = .ok (.iload 4, 2) := by decide +kernel
theorem dX2_place_111 : decode cX2_place 111 = .ok (.iload_n 3, 1) := by decide +kernel
theorem dX2_place_112 : decode cX2_place 112 = .ok (.invokevirtual 164, 3) := by decide +kernel
theorem dX2_place_115 : decode cX2_place 115 = .ok (.ifCond .ne 21, 3) := by decide +kernel
theorem dX2_place_118 : decode cX2_place 118 = .ok (.iinc 4 1, 3) := by decide +kernel
theorem dX2_place_121 : decode cX2_place 121 = .ok (.aload_n 0, 1) := by decide +kernel
theorem dX2_place_122 : decode cX2_place 122 = .ok (.iload 4, 2) := by decide +kernel
theorem dX2_place_124 : decode cX2_place 124 = .ok (.invokestatic 151, 3) := by decide +kernel
theorem dX2_place_127 : decode cX2_place 127 = .ok (.iload_n 1, 1) := by decide +kernel
theorem dX2_place_128 : decode cX2_place 128 = .ok (.iload 4, 2) := by decide +kernel
theorem dX2_place_130 : decode cX2_place 130 = .ok (.iload_n 3, 1) := by decide +kernel
theorem dX2_place_131 : decode cX2_place 131 = .ok (.invokevirtual 157, 3) := by decide +kernel
theorem dX2_place_134 : decode cX2_place 134 = .ok (.istore 5, 2) := by decide +kernel
theorem dX2_place_136 : decode cX2_place 136 = .ok (.aload_n 0, 1) := by decide +kernel
theorem dX2_place_137 : decode cX2_place 137 = .ok (.getfield 18, 3) := by decide +kernel
theorem dX2_place_140 : decode cX2_place 140 = .ok (.iload_n 2, 1) := by decide +kernel
theorem dX2_place_141 : decode cX2_place 141 = .ok (.iload_n 1, 1) := by decide +kernel
theorem dX2_place_142 : decode cX2_place 142 = .ok (.invokestatic 83, 3) := by decide +kernel
theorem dX2_place_145 : decode cX2_place 145 = .ok (.aload_n 0, 1) := by decide +kernel
theorem dX2_place_146 : decode cX2_place 146 = .ok (.getfield 22, 3) := by decide +kernel
theorem dX2_place_149 : decode cX2_place 149 = .ok (.iload_n 1, 1) := by decide +kernel
theorem dX2_place_150 : decode cX2_place 150 = .ok (.iload 5, 2) := by decide +kernel
theorem dX2_place_152 : decode cX2_place 152 = .ok (.invokestatic 83, 3) := by decide +kernel
theorem dX2_place_155 : decode cX2_place 155 = .ok (.return_, 1) := by decide +kernel
theorem dX2_endsInTime_0 : decode cX2_endsInTime 0 = .ok (.aload_n 0, 1) := by decide +kernel
theorem dX2_endsInTime_1 : decode cX2_endsInTime 1 = .ok (.getfield 12, 3) := by decide +kernel
theorem dX2_endsInTime_4 : decode cX2_endsInTime 4 = .ok (.getfield 145, 3) := by decide +kernel
theorem dX2_endsInTime_7 : decode cX2_endsInTime 7 = .ok (.iload_n 1, 1) := by decide +kernel
theorem dX2_endsInTime_8 : decode cX2_endsInTime 8 = .ok (.invokestatic 54, 3) := by decide +kernel
theorem dX2_endsInTime_11 : decode cX2_endsInTime 11 = .ok (.iconst 1, 1) := by decide +kernel
theorem dX2_endsInTime_12 : decode cX2_endsInTime 12 = .ok (.if_icmp .ne 8, 3) := by decide +kernel
theorem dX2_endsInTime_15 : decode cX2_endsInTime 15 = .ok (.bipush 18, 2) := by decide +kernel
theorem dX2_endsInTime_17 : decode cX2_endsInTime 17 = .ok (.goto 5, 3) := by decide +kernel
theorem dX2_endsInTime_20 : decode cX2_endsInTime 20 = .ok (.bipush 24, 2) := by decide +kernel
theorem dX2_endsInTime_22 : decode cX2_endsInTime 22 = .ok (.istore 4, 2) := by decide +kernel
theorem dX2_endsInTime_24 : decode cX2_endsInTime 24 = .ok (.iload_n 2, 1) := by decide +kernel
theorem dX2_endsInTime_25 : decode cX2_endsInTime 25 = .ok (.aload_n 0, 1) := by decide +kernel
theorem dX2_endsInTime_26 : decode cX2_endsInTime 26 = .ok (.getfield 12, 3) := by decide +kernel
theorem dX2_endsInTime_29 : decode cX2_endsInTime 29 = .ok (.getfield 148, 3) := by decide +kernel
theorem dX2_endsInTime_32 : decode cX2_endsInTime 32 = .ok (.iload_n 1, 1) := by decide +kernel
theorem dX2_endsInTime_33 : decode cX2_endsInTime 33 = .ok (.invokestatic 54, 3) := by decide +kernel
theorem dX2_endsInTime_36 : decode cX2_endsInTime 36 = .ok (.iadd, 1) := by decide +kernel
theorem dX2_endsInTime_37 : decode cX2_endsInTime 37 = .ok (.bipush 24, 2) := by decide +kernel
theorem dX2_endsInTime_39 : decode cX2_endsInTime 39 = .ok (.iload_n 3, 1) := by decide +kernel
theorem dX2_endsInTime_40 : decode cX2_endsInTime 40 = .ok (.imul, 1) := by decide +kernel
theorem dX2_endsInTime_41 : decode cX2_endsInTime 41 = .ok (.iload 4, 2) := by decide +kernel
theorem dX2_endsInTime_43 : decode cX2_endsInTime 43 = .ok (.iadd, 1) := by decide +kernel
theorem dX2_endsInTime_44 : decode cX2_endsInTime 44 = .ok (.if_icmp .gt 7, 3) := by decide +kernel
theorem dX2_endsInTime_47 : decode cX2_endsInTime 47 = .ok (.iconst 1, 1) := by decide +kernel
theorem dX2_endsInTime_48 : decode cX2_endsInTime 48 = .ok (.goto 4, 3) := by decide +kernel
theorem dX2_endsInTime_51 : decode cX2_endsInTime 51 = .ok (.iconst 0, 1) := by decide +kernel
theorem dX2_endsInTime_52 : decode cX2_endsInTime 52 = .ok (.ireturn, 1) := by decide +kernel
theorem dX2_beginFrom_0 : decode cX2_beginFrom 0 = .ok (.bipush 24, 2) := by decide +kernel
theorem dX2_beginFrom_2 : decode cX2_beginFrom 2 = .ok (.iload_n 3, 1) := by decide +kernel
theorem dX2_beginFrom_3 : decode cX2_beginFrom 3 = .ok (.imul, 1) := by decide +kernel
theorem dX2_beginFrom_4 : decode cX2_beginFrom 4 = .ok (.aload_n 0, 1) := by decide +kernel
theorem dX2_beginFrom_5 : decode cX2_beginFrom 5 = .ok (.getfield 12, 3) := by decide +kernel
theorem dX2_beginFrom_8 : decode cX2_beginFrom 8 = .ok (.getfield 145, 3) := by decide +kernel
theorem dX2_beginFrom_11 : decode cX2_beginFrom 11 = .ok (.iload_n 2, 1) := by decide +kernel
theorem dX2_beginFrom_12 : decode cX2_beginFrom 12 = .ok (.invokestatic 54, 3) := by decide +kernel
theorem dX2_beginFrom_15 : decode cX2_beginFrom 15 = .ok (.iconst 2, 1) := by decide +kernel
theorem dX2_beginFrom_16 : decode cX2_beginFrom 16 = .ok (.if_icmp .ne 8, 3) := by decide +kernel
theorem dX2_beginFrom_19 : decode cX2_beginFrom 19 = .ok (.bipush 18, 2) := by decide +kernel
theorem dX2_beginFrom_21 : decode cX2_beginFrom 21 = .ok (.goto 5, 3) := by decide +kernel
theorem dX2_beginFrom_24 : decode cX2_beginFrom 24 = .ok (.bipush 8, 2) := by decide +kernel
theorem dX2_beginFrom_26 : decode cX2_beginFrom 26 = .ok (.iadd, 1) := by decide +kernel
theorem dX2_beginFrom_27 : decode cX2_beginFrom 27 = .ok (.istore 5, 2) := by decide +kernel
theorem dX2_beginFrom_29 : decode cX2_beginFrom 29 = .ok (.iload_n 1, 1) := by decide +kernel
theorem dX2_beginFrom_30 : decode cX2_beginFrom 30 = .ok (.iload 5, 2) := by decide +kernel
theorem dX2_beginFrom_32 : decode cX2_beginFrom 32 = .ok (.invokestatic 133, 3) := by decide +kernel
theorem dX2_beginFrom_35 : decode cX2_beginFrom 35 = .ok (.istore 6, 2) := by decide +kernel
theorem dX2_beginFrom_37 : decode cX2_beginFrom 37 = .ok (.iconst 0, 1) := by decide +kernel
theorem dX2_beginFrom_38 : decode cX2_beginFrom 38 = .ok (.istore 7, 2) := by decide +kernel
theorem dX2_beginFrom_40 : decode cX2_beginFrom 40 = .ok (.iload 7, 2) := by decide +kernel
theorem dX2_beginFrom_42 : decode cX2_beginFrom 42 = .ok (.aload_n 0, 1) := by decide +kernel
theorem dX2_beginFrom_43 : decode cX2_beginFrom 43 = .ok (.getfield 12, 3) := by decide +kernel
theorem dX2_beginFrom_46 : decode cX2_beginFrom 46 = .ok (.getfield 77, 3) := by decide +kernel
theorem dX2_beginFrom_49 : decode cX2_beginFrom 49 = .ok (.if_icmp .ge 78, 3) := by decide +kernel
theorem dX2_beginFrom_52 : decode cX2_beginFrom 52 = .ok (.iload 4, 2) := by decide +kernel
theorem dX2_beginFrom_54 : decode cX2_beginFrom 54 = .ok (.iload 7, 2) := by decide +kernel
theorem dX2_beginFrom_56 : decode cX2_beginFrom 56 = .ok (.invokestatic 80, 3) := by decide +kernel
theorem dX2_beginFrom_59 : decode cX2_beginFrom 59 = .ok (.ifCond .eq 62, 3) := by decide +kernel
theorem dX2_beginFrom_62 : decode cX2_beginFrom 62 = .ok (.aload_n 0, 1) := by decide +kernel
theorem dX2_beginFrom_63 : decode cX2_beginFrom 63 = .ok (.getfield 12, 3) := by decide +kernel
theorem dX2_beginFrom_66 : decode cX2_beginFrom 66 = .ok (.getfield 167, 3) := by decide +kernel
theorem dX2_beginFrom_69 : decode cX2_beginFrom 69 = .ok (.iload 7, 2) := by decide +kernel
theorem dX2_beginFrom_71 : decode cX2_beginFrom 71 = .ok (.invokestatic 54, 3) := by decide +kernel
theorem dX2_beginFrom_74 : decode cX2_beginFrom 74 = .ok (.aload_n 0, 1) := by decide +kernel
theorem dX2_beginFrom_75 : decode cX2_beginFrom 75 = .ok (.getfield 12, 3) := by decide +kernel
theorem dX2_beginFrom_78 : decode cX2_beginFrom 78 = .ok (.getfield 167, 3) := by decide +kernel
theorem dX2_beginFrom_81 : decode cX2_beginFrom 81 = .ok (.iload_n 2, 1) := by decide +kernel
theorem dX2_beginFrom_82 : decode cX2_beginFrom 82 = .ok (.invokestatic 54, 3) := by decide +kernel
theorem dX2_beginFrom_85 : decode cX2_beginFrom 85 = .ok (.iand, 1) := by decide +kernel
theorem dX2_beginFrom_86 : decode cX2_beginFrom 86 = .ok (.ifCond .eq 35, 3) := by decide +kernel
theorem dX2_beginFrom_89 : decode cX2_beginFrom 89 = .ok (.aload_n 0, 1) := by decide +kernel
theorem dX2_beginFrom_90 : decode cX2_beginFrom 90 = .ok (.getfield 22, 3) := by decide +kernel
theorem dX2_beginFrom_93 : decode cX2_beginFrom 93 = .ok (.iload 7, 2) := by decide +kernel
theorem dX2_beginFrom_95 : decode cX2_beginFrom 95 = .ok (.invokestatic 54, 3) := by decide +kernel
theorem dX2_beginFrom_98 : decode cX2_beginFrom 98 = .ok (.invokestatic 58, 3) := by decide +kernel
theorem dX2_beginFrom_101 : decode cX2_beginFrom 101 = .ok (.iload_n 3, 1) := by decide +kernel
theorem dX2_beginFrom_102 : decode cX2_beginFrom 102 = .ok (.if_icmp .ge 19, 3) := by decide +kernel
theorem dX2_beginFrom_105 : decode cX2_beginFrom 105 = .ok (.iload 6, 2) := by decide +kernel
theorem dX2_beginFrom_107 : decode cX2_beginFrom 107 = .ok (.aload_n 0, 1) := by decide +kernel
theorem dX2_beginFrom_108 : decode cX2_beginFrom 108 = .ok (.iload 7, 2) := by decide +kernel
theorem dX2_beginFrom_110 : decode cX2_beginFrom 110 = .ok (.invokevirtual 124, 3) := by decide +kernel
theorem dX2_beginFrom_113 : decode cX2_beginFrom 113 = .ok (.bipush 11, 2) := by decide +kernel
theorem dX2_beginFrom_115 : decode cX2_beginFrom 115 = .ok (.iadd, 1) := by decide +kernel
theorem dX2_beginFrom_116 : decode cX2_beginFrom 116 = .ok (.invokestatic 133, 3) := by decide +kernel
theorem dX2_beginFrom_119 : decode cX2_beginFrom 119 = .ok (.istore 6, 2) := by decide +kernel
theorem dX2_beginFrom_121 : decode cX2_beginFrom 121 = .ok (.iinc 7 1, 3) := by decide +kernel
theorem dX2_beginFrom_124 : decode cX2_beginFrom 124 = .ok (.goto (-84), 3) := by decide +kernel
theorem dX2_beginFrom_127 : decode cX2_beginFrom 127 = .ok (.iload 6, 2) := by decide +kernel
theorem dX2_beginFrom_129 : decode cX2_beginFrom 129 = .ok (.ireturn, 1) := by decide +kernel
theorem dX2_isFitForChildren_0 : decode cX2_isFitForChildren 0 = .ok (.aload_n 0, 1) := by decide +kernel
theorem dX2_isFitForChildren_1 : decode cX2_isFitForChildren 1 = .ok (.getfield 12, 3) := by decide +kernel
theorem dX2_isFitForChildren_4 : decode cX2_isFitForChildren 4 = .ok (.getfield 136, 3) := by decide +kernel
theorem dX2_isFitForChildren_7 : decode cX2_isFitForChildren 7 = .ok (.aload_n 0, 1) := by decide +kernel
theorem dX2_isFitForChildren_8 : decode cX2_isFitForChildren 8 = .ok (.getfield 12, 3) := by decide +kernel
theorem dX2_isFitForChildren_11 : decode cX2_isFitForChildren 11 = .ok (.getfield 167, 3) := by decide +kernel
theorem dX2_isFitForChildren_14 : decode cX2_isFitForChildren 14 = .ok (.iload_n 1, 1) := by decide +kernel
theorem dX2_isFitForChildren_15 : decode cX2_isFitForChildren 15 = .ok (.invokestatic 54, 3) := by decide +kernel
theorem dX2_isFitForChildren_18 : decode cX2_isFitForChildren 18 = .ok (.iand, 1) := by decide +kernel
theorem dX2_isFitForChildren_19 : decode cX2_isFitForChildren 19 = .ok (.istore 4, 2) := by decide +kernel
theorem dX2_isFitForChildren_21 : decode cX2_isFitForChildren 21 = .ok (.iconst 0, 1) := by decide +kernel
theorem dX2_isFitForChildren_22 : decode cX2_isFitForChildren 22 = .ok (.istore 5, 2) := by decide +kernel
theorem dX2_isFitForChildren_24 : decode cX2_isFitForChildren 24 = .ok (.iload 5, 2) := by decide +kernel
theorem dX2_isFitForChildren_26 : decode cX2_isFitForChildren 26 = .ok (.bipush 6, 2) := by decide +kernel
theorem dX2_isFitForChildren_28 : decode cX2_isFitForChildren 28 = .ok (.if_icmp .ge 50, 3) := by decide +kernel
theorem dX2_isFitForChildren_31 : decode cX2_isFitForChildren 31 = .ok (.iload 4, 2) := by decide +kernel
theorem dX2_isFitForChildren_33 : decode cX2_isFitForChildren 33 = .ok (.iload 5, 2) := by decide +kernel
theorem dX2_isFitForChildren_35 : decode cX2_isFitForChildren 35 = .ok (.invokestatic 80, 3) := by decide +kernel
theorem dX2_isFitForChildren_38 : decode cX2_isFitForChildren 38 = .ok (.ifCond .eq 34, 3) := by decide +kernel
theorem dX2_isFitForChildren_41 : decode cX2_isFitForChildren 41 = .ok (.aload_n 0, 1) := by decide +kernel
theorem dX2_isFitForChildren_42 : decode cX2_isFitForChildren 42 = .ok (.iload 5, 2) := by decide +kernel
theorem dX2_isFitForChildren_44 : decode cX2_isFitForChildren 44 = .ok (.aload_n 0, 1) := by decide +kernel
theorem dX2_isFitForChildren_45 : decode cX2_isFitForChildren 45 = .ok (.iload_n 2, 1) := by decide +kernel
theorem dX2_isFitForChildren_46 : decode cX2_isFitForChildren 46 = .ok (.iload_n 3, 1) := by decide +kernel
theorem dX2_isFitForChildren_47 : decode cX2_isFitForChildren 47 = .ok (.invokevirtual 142, 3) := by decide +kernel
theorem dX2_isFitForChildren_50 : decode cX2_isFitForChildren 50 = .ok (.invokevirtual 139, 3) := by decide +kernel
theorem dX2_isFitForChildren_53 : decode cX2_isFitForChildren 53 = .ok (.aload_n 0, 1) := by decide +kernel
theorem dX2_isFitForChildren_54 : decode cX2_isFitForChildren 54 = .ok (.getfield 12, 3) := by decide +kernel
theorem dX2_isFitForChildren_57 : decode cX2_isFitForChildren 57 = .ok (.getfield 148, 3) := by decide +kernel
theorem dX2_isFitForChildren_60 : decode cX2_isFitForChildren 60 = .ok (.iload_n 1, 1) := by decide +kernel
theorem dX2_isFitForChildren_61 : decode cX2_isFitForChildren 61 = .ok (.invokestatic 54, 3) := by decide +kernel
theorem dX2_isFitForChildren_64 : decode cX2_isFitForChildren 64 = .ok (.iadd, 1) := by decide +kernel
theorem dX2_isFitForChildren_65 : decode cX2_isFitForChildren 65 = .ok (.bipush 6, 2) := by decide +kernel
theorem dX2_isFitForChildren_67 : decode cX2_isFitForChildren 67 = .ok (.if_icmp .le 5, 3) := by decide +kernel
theorem dX2_isFitForChildren_70 : decode cX2_isFitForChildren 70 = .ok (.iconst 0, 1) := by decide +kernel
theorem dX2_isFitForChildren_71 : decode cX2_isFitForChildren 71 = .ok (.ireturn, 1) := by decide +kernel
theorem dX2_isFitForChildren_72 : decode cX2_isFitForChildren 72 = .ok (.iinc 5 1, 3) := by decide +kernel
theorem dX2_isFitForChildren_75 : decode cX2_isFitForChildren 75 = .ok (.goto (-51), 3) := by decide +kernel
theorem dX2_isFitForChildren_78 : decode cX2_isFitForChildren 78 = .ok (.iconst 1, 1) := by decide +kernel
theorem dX2_isFitForChildren_79 : decode cX2_isFitForChildren 79 = .ok (.ireturn, 1) := by decide +kernel
theorem dX2_hoursFor_0 : decode cX2_hoursFor 0 = .ok (.iconst 0, 1) := by decide +kernel
theorem dX2_hoursFor_1 : decode cX2_hoursFor 1 = .ok (.istore_n 3, 1) := by decide +kernel
theorem dX2_hoursFor_2 : decode cX2_hoursFor 2 = .ok (.iconst 0, 1) := by decide +kernel
theorem dX2_hoursFor_3 : decode cX2_hoursFor 3 = .ok (.istore 4, 2) := by decide +kernel
theorem dX2_hoursFor_5 : decode cX2_hoursFor 5 = .ok (.iload 4, 2) := by decide +kernel
theorem dX2_hoursFor_7 : decode cX2_hoursFor 7 = .ok (.aload_n 0, 1) := by decide +kernel
theorem dX2_hoursFor_8 : decode cX2_hoursFor 8 = .ok (.getfield 12, 3) := by decide +kernel
theorem dX2_hoursFor_11 : decode cX2_hoursFor 11 = .ok (.getfield 77, 3) := by decide +kernel
theorem dX2_hoursFor_14 : decode cX2_hoursFor 14 = .ok (.if_icmp .ge 52, 3) := by decide +kernel
theorem dX2_hoursFor_17 : decode cX2_hoursFor 17 = .ok (.iload_n 2, 1) := by decide +kernel
theorem dX2_hoursFor_18 : decode cX2_hoursFor 18 = .ok (.iload 4, 2) := by decide +kernel
theorem dX2_hoursFor_20 : decode cX2_hoursFor 20 = .ok (.invokestatic 80, 3) := by decide +kernel
theorem dX2_hoursFor_23 : decode cX2_hoursFor 23 = .ok (.ifCond .eq 37, 3) := by decide +kernel
theorem dX2_hoursFor_26 : decode cX2_hoursFor 26 = .ok (.aload_n 0, 1) := by decide +kernel
theorem dX2_hoursFor_27 : decode cX2_hoursFor 27 = .ok (.getfield 12, 3) := by decide +kernel
theorem dX2_hoursFor_30 : decode cX2_hoursFor 30 = .ok (.getfield 167, 3) := by decide +kernel
theorem dX2_hoursFor_33 : decode cX2_hoursFor 33 = .ok (.iload 4, 2) := by decide +kernel
theorem dX2_hoursFor_35 : decode cX2_hoursFor 35 = .ok (.invokestatic 54, 3) := by decide +kernel
theorem dX2_hoursFor_38 : decode cX2_hoursFor 38 = .ok (.iload_n 1, 1) := by decide +kernel
theorem dX2_hoursFor_39 : decode cX2_hoursFor 39 = .ok (.invokestatic 80, 3) := by decide +kernel
theorem dX2_hoursFor_42 : decode cX2_hoursFor 42 = .ok (.ifCond .eq 18, 3) := by decide +kernel
theorem dX2_hoursFor_45 : decode cX2_hoursFor 45 = .ok (.iload_n 3, 1) := by decide +kernel
theorem dX2_hoursFor_46 : decode cX2_hoursFor 46 = .ok (.aload_n 0, 1) := by decide +kernel
theorem dX2_hoursFor_47 : decode cX2_hoursFor 47 = .ok (.getfield 12, 3) := by decide +kernel
theorem dX2_hoursFor_50 : decode cX2_hoursFor 50 = .ok (.getfield 148, 3) := by decide +kernel
theorem dX2_hoursFor_53 : decode cX2_hoursFor 53 = .ok (.iload 4, 2) := by decide +kernel
theorem dX2_hoursFor_55 : decode cX2_hoursFor 55 = .ok (.invokestatic 54, 3) := by decide +kernel
theorem dX2_hoursFor_58 : decode cX2_hoursFor 58 = .ok (.iadd, 1) := by decide +kernel
theorem dX2_hoursFor_59 : decode cX2_hoursFor 59 = .ok (.istore_n 3, 1) := by decide +kernel
theorem dX2_hoursFor_60 : decode cX2_hoursFor 60 = .ok (.iinc 4 1, 3) := by decide +kernel
theorem dX2_hoursFor_63 : decode cX2_hoursFor 63 = .ok (.goto (-58), 3) := by decide +kernel
theorem dX2_hoursFor_66 : decode cX2_hoursFor 66 = .ok (.iload_n 3, 1) := by decide +kernel
theorem dX2_hoursFor_67 : decode cX2_hoursFor 67 = .ok (.ireturn, 1) := by decide +kernel
theorem dX2_placedOn_0 : decode cX2_placedOn 0 = .ok (.iconst 0, 1) := by decide +kernel
theorem dX2_placedOn_1 : decode cX2_placedOn 1 = .ok (.istore_n 3, 1) := by decide +kernel
theorem dX2_placedOn_2 : decode cX2_placedOn 2 = .ok (.iconst 0, 1) := by decide +kernel
theorem dX2_placedOn_3 : decode cX2_placedOn 3 = .ok (.istore 4, 2) := by decide +kernel
theorem dX2_placedOn_5 : decode cX2_placedOn 5 = .ok (.iload 4, 2) := by decide +kernel
theorem dX2_placedOn_7 : decode cX2_placedOn 7 = .ok (.aload_n 0, 1) := by decide +kernel
theorem dX2_placedOn_8 : decode cX2_placedOn 8 = .ok (.getfield 12, 3) := by decide +kernel
theorem dX2_placedOn_11 : decode cX2_placedOn 11 = .ok (.getfield 77, 3) := by decide +kernel
theorem dX2_placedOn_14 : decode cX2_placedOn 14 = .ok (.if_icmp .ge 42, 3) := by decide +kernel
theorem dX2_placedOn_17 : decode cX2_placedOn 17 = .ok (.iload_n 2, 1) := by decide +kernel
theorem dX2_placedOn_18 : decode cX2_placedOn 18 = .ok (.iload 4, 2) := by decide +kernel
theorem dX2_placedOn_20 : decode cX2_placedOn 20 = .ok (.invokestatic 80, 3) := by decide +kernel
theorem dX2_placedOn_23 : decode cX2_placedOn 23 = .ok (.ifCond .eq 27, 3) := by decide +kernel
theorem dX2_placedOn_26 : decode cX2_placedOn 26 = .ok (.aload_n 0, 1) := by decide +kernel
theorem dX2_placedOn_27 : decode cX2_placedOn 27 = .ok (.getfield 22, 3) := by decide +kernel
theorem dX2_placedOn_30 : decode cX2_placedOn 30 = .ok (.iload 4, 2) := by decide +kernel
theorem dX2_placedOn_32 : decode cX2_placedOn 32 = .ok (.invokestatic 54, 3) := by decide +kernel
theorem dX2_placedOn_35 : decode cX2_placedOn 35 = .ok (.invokestatic 58, 3) := by decide +kernel
theorem dX2_placedOn_38 : decode cX2_placedOn 38 = .ok (.iload_n 1, 1) := by decide +kernel
theorem dX2_placedOn_39 : decode cX2_placedOn 39 = .ok (.if_icmp .ne 11, 3) := by decide +kernel
theorem dX2_placedOn_42 : decode cX2_placedOn 42 = .ok (.iload_n 3, 1) := by decide +kernel
theorem dX2_placedOn_43 : decode cX2_placedOn 43 = .ok (.iload 4, 2) := by decide +kernel
theorem dX2_placedOn_45 : decode cX2_placedOn 45 = .ok (.iconst 1, 1) := by decide +kernel
theorem dX2_placedOn_46 : decode cX2_placedOn 46 = .ok (.invokestatic 73, 3) := by decide +kernel
theorem dX2_placedOn_49 : decode cX2_placedOn 49 = .ok (.istore_n 3, 1) := by decide +kernel
theorem dX2_placedOn_50 : decode cX2_placedOn 50 = .ok (.iinc 4 1, 3) := by decide +kernel
theorem dX2_placedOn_53 : decode cX2_placedOn 53 = .ok (.goto (-48), 3) := by decide +kernel
theorem dX2_placedOn_56 : decode cX2_placedOn 56 = .ok (.iload_n 3, 1) := by decide +kernel
theorem dX2_placedOn_57 : decode cX2_placedOn 57 = .ok (.ireturn, 1) := by decide +kernel
theorem dX2_endOf_0 : decode cX2_endOf 0 = .ok (.aload_n 0, 1) := by decide +kernel
theorem dX2_endOf_1 : decode cX2_endOf 1 = .ok (.getfield 22, 3) := by decide +kernel
theorem dX2_endOf_4 : decode cX2_endOf 4 = .ok (.iload_n 1, 1) := by decide +kernel
theorem dX2_endOf_5 : decode cX2_endOf 5 = .ok (.invokestatic 54, 3) := by decide +kernel
theorem dX2_endOf_8 : decode cX2_endOf 8 = .ok (.aload_n 0, 1) := by decide +kernel
theorem dX2_endOf_9 : decode cX2_endOf 9 = .ok (.getfield 12, 3) := by decide +kernel
theorem dX2_endOf_12 : decode cX2_endOf 12 = .ok (.getfield 148, 3) := by decide +kernel
theorem dX2_endOf_15 : decode cX2_endOf 15 = .ok (.iload_n 1, 1) := by decide +kernel
theorem dX2_endOf_16 : decode cX2_endOf 16 = .ok (.invokestatic 54, 3) := by decide +kernel
theorem dX2_endOf_19 : decode cX2_endOf 19 = .ok (.iadd, 1) := by decide +kernel
theorem dX2_endOf_20 : decode cX2_endOf 20 = .ok (.ireturn, 1) := by decide +kernel
theorem dX2_dayOf_0 : decode cX2_dayOf 0 = .ok (.iload_n 0, 1) := by decide +kernel
theorem dX2_dayOf_1 : decode cX2_dayOf 1 = .ok (.bipush 24, 2) := by decide +kernel
theorem dX2_dayOf_3 : decode cX2_dayOf 3 = .ok (.idiv, 1) := by decide +kernel
theorem dX2_dayOf_4 : decode cX2_dayOf 4 = .ok (.ireturn, 1) := by decide +kernel
theorem dX2_startOf_0 : decode cX2_startOf 0 = .ok (.bipush 24, 2) := by decide +kernel
theorem dX2_startOf_2 : decode cX2_startOf 2 = .ok (.iload_n 0, 1) := by decide +kernel
theorem dX2_startOf_3 : decode cX2_startOf 3 = .ok (.imul, 1) := by decide +kernel
theorem dX2_startOf_4 : decode cX2_startOf 4 = .ok (.bipush 8, 2) := by decide +kernel
theorem dX2_startOf_6 : decode cX2_startOf 6 = .ok (.iadd, 1) := by decide +kernel
theorem dX2_startOf_7 : decode cX2_startOf 7 = .ok (.ireturn, 1) := by decide +kernel
theorem dX3_init_0 : decode cX3_init 0 = .ok (.aload_n 0, 1) := by decide +kernel
theorem dX3_init_1 : decode cX3_init 1 = .ok (.invokespecial 3, 3) := by decide +kernel
theorem dX3_init_4 : decode cX3_init 4 = .ok (.aload_n 0, 1) := by decide +kernel
theorem dX3_init_5 : decode cX3_init 5 = .ok (.bipush 8, 2) := by decide +kernel
theorem dX3_init_7 : decode cX3_init 7 = .ok (.newarray .int, 2) := by decide +kernel
theorem dX3_init_9 : decode cX3_init 9 = .ok (.putfield 9, 3) := by decide +kernel
theorem dX3_init_12 : decode cX3_init 12 = .ok (.aload_n 0, 1) := by decide +kernel
theorem dX3_init_13 : decode cX3_init 13 = .ok (.bipush 8, 2) := by decide +kernel
theorem dX3_init_15 : decode cX3_init 15 = .ok (.newarray .int, 2) := by decide +kernel
theorem dX3_init_17 : decode cX3_init 17 = .ok (.putfield 15, 3) := by decide +kernel
theorem dX3_init_20 : decode cX3_init 20 = .ok (.aload_n 0, 1) := by decide +kernel
theorem dX3_init_21 : decode cX3_init 21 = .ok (.bipush 8, 2) := by decide +kernel
theorem dX3_init_23 : decode cX3_init 23 = .ok (.newarray .int, 2) := by decide +kernel
theorem dX3_init_25 : decode cX3_init 25 = .ok (.putfield 18, 3) := by decide +kernel
theorem dX3_init_28 : decode cX3_init 28 = .ok (.aload_n 0, 1) := by decide +kernel
theorem dX3_init_29 : decode cX3_init 29 = .ok (.bipush 8, 2) := by decide +kernel
theorem dX3_init_31 : decode cX3_init 31 = .ok (.newarray .int, 2) := by decide +kernel
theorem dX3_init_33 : decode cX3_init 33 = .ok (.putfield 21, 3) := by decide +kernel
theorem dX3_init_36 : decode cX3_init 36 = .ok (.aload_n 0, 1) := by decide +kernel
theorem dX3_init_37 : decode cX3_init 37 = .ok (.bipush 8, 2) := by decide +kernel
theorem dX3_init_39 : decode cX3_init 39 = .ok (.newarray .int, 2) := by decide +kernel
theorem dX3_init_41 : decode cX3_init 41 = .ok (.putfield 24, 3) := by decide +kernel
theorem dX3_init_44 : decode cX3_init 44 = .ok (.return_, 1) := by decide +kernel
theorem dX3_append_0 : decode cX3_append 0 = .ok (.aload_n 0, 1) := by decide +kernel
theorem dX3_append_1 : decode cX3_append 1 = .ok (.getfield 9, 3) := by decide +kernel
theorem dX3_append_4 : decode cX3_append 4 = .ok (.aload_n 0, 1) := by decide +kernel
theorem dX3_append_5 : decode cX3_append 5 = .ok (.getfield 27, 3) := by decide +kernel
theorem dX3_append_8 : decode cX3_append 8 = .ok (.iload_n 1, 1) := by decide +kernel
theorem dX3_append_9 : decode cX3_append 9 = .ok (.invokestatic 31, 3) := by decide +kernel
theorem dX3_append_12 : decode cX3_append 12 = .ok (.aload_n 0, 1) := by decide +kernel
theorem dX3_append_13 : decode cX3_append 13 = .ok (.getfield 15, 3) := by decide +kernel
theorem dX3_append_16 : decode cX3_append 16 = .ok (.aload_n 0, 1) := by decide +kernel
theorem dX3_append_17 : decode cX3_append 17 = .ok (.getfield 27, 3) := by decide +kernel
theorem dX3_append_20 : decode cX3_append 20 = .ok (.iload_n 2, 1) := by decide +kernel
theorem dX3_append_21 : decode cX3_append 21 = .ok (.invokestatic 31, 3) := by decide +kernel
theorem dX3_append_24 : decode cX3_append 24 = .ok (.aload_n 0, 1) := by decide +kernel
theorem dX3_append_25 : decode cX3_append 25 = .ok (.getfield 18, 3) := by decide +kernel
theorem dX3_append_28 : decode cX3_append 28 = .ok (.aload_n 0, 1) := by decide +kernel
theorem dX3_append_29 : decode cX3_append 29 = .ok (.getfield 27, 3) := by decide +kernel
theorem dX3_append_32 : decode cX3_append 32 = .ok (.iload_n 3, 1) := by decide +kernel
theorem dX3_append_33 : decode cX3_append 33 = .ok (.invokestatic 31, 3) := by decide +kernel
theorem dX3_append_36 : decode cX3_append 36 = .ok (.aload_n 0, 1) := by decide +kernel
theorem dX3_append_37 : decode cX3_append 37 = .ok (.getfield 21, 3) := by decide +kernel
theorem dX3_append_40 : decode cX3_append 40 = .ok (.aload_n 0, 1) := by decide +kernel
theorem dX3_append_41 : decode cX3_append 41 = .ok (.getfield 27, 3) := by decide +kernel
theorem dX3_append_44 : decode cX3_append 44 = .ok (.iload 4, 2) := by decide +kernel
theorem dX3_append_46 : decode cX3_append 46 = .ok (.invokestatic 31, 3) := by decide +kernel
theorem dX3_append_49 : decode cX3_append 49 = .ok (.aload_n 0, 1) := by decide +kernel
theorem dX3_append_50 : decode cX3_append 50 = .ok (.getfield 24, 3) := by decide +kernel
theorem dX3_append_53 : decode cX3_append 53 = .ok (.aload_n 0, 1) := by decide +kernel
theorem dX3_append_54 : decode cX3_append 54 = .ok (.getfield 27, 3) := by decide +kernel
theorem dX3_append_57 : decode cX3_append 57 = .ok (.iload 5, 2) := by decide +kernel
theorem dX3_append_59 : decode cX3_append 59 = .ok (.invokestatic 31, 3) := by decide +kernel
theorem dX3_append_62 : decode cX3_append 62 = .ok (.aload_n 0, 1) := by decide +kernel
theorem dX3_append_63 : decode cX3_append 63 = .ok (.dup, 1) := by decide +kernel
theorem dX3_append_64 : decode cX3_append 64 = .ok (.getfield 27, 3) := by decide +kernel
theorem dX3_append_67 : decode cX3_append 67 = .ok (.iconst 1, 1) := by decide +kernel
theorem dX3_append_68 : decode cX3_append 68 = .ok (.iadd, 1) := by decide +kernel
theorem dX3_append_69 : decode cX3_append 69 = .ok (.putfield 27, 3) := by decide +kernel
theorem dX3_append_72 : decode cX3_append 72 = .ok (.aload_n 0, 1) := by decide +kernel
theorem dX3_append_73 : decode cX3_append 73 = .ok (.getfield 27, 3) := by decide +kernel
theorem dX3_append_76 : decode cX3_append 76 = .ok (.iconst 1, 1) := by decide +kernel
theorem dX3_append_77 : decode cX3_append 77 = .ok (.isub, 1) := by decide +kernel
theorem dX3_append_78 : decode cX3_append 78 = .ok (.ireturn, 1) := by decide +kernel
theorem dX3_everyScene_0 : decode cX3_everyScene 0 = .ok (.iconst 1, 1) := by decide +kernel
theorem dX3_everyScene_1 : decode cX3_everyScene 1 = .ok (.aload_n 0, 1) := by decide +kernel
theorem dX3_everyScene_2 : decode cX3_everyScene 2 = .ok (.getfield 27, 3) := by decide +kernel
theorem dX3_everyScene_5 : decode cX3_everyScene 5 = .ok (.ishl, 1) := by decide +kernel
theorem dX3_everyScene_6 : decode cX3_everyScene 6 = .ok (.iconst 1, 1) := by decide +kernel
theorem dX3_everyScene_7 : decode cX3_everyScene 7 = .ok (.isub, 1) := by decide +kernel
theorem dX3_everyScene_8 : decode cX3_everyScene 8 = .ok (.ireturn, 1) := by decide +kernel
theorem dX3_countOpen_0 : decode cX3_countOpen 0 = .ok (.aload_n 0, 1) := by decide +kernel
theorem dX3_countOpen_1 : decode cX3_countOpen 1 = .ok (.getfield 27, 3) := by decide +kernel
theorem dX3_countOpen_4 : decode cX3_countOpen 4 = .ok (.aload_n 0, 1) := by decide +kernel
theorem dX3_countOpen_5 : decode cX3_countOpen 5 = .ok (.getfield 35, 3) := by decide +kernel
theorem dX3_countOpen_8 : decode cX3_countOpen 8 = .ok (.invokestatic 38, 3) := by decide +kernel
theorem dX3_countOpen_11 : decode cX3_countOpen 11 = .ok (.isub, 1) := by decide +kernel
theorem dX3_countOpen_12 : decode cX3_countOpen 12 = .ok (.ireturn, 1) := by decide +kernel
theorem dX3_hoursOf_0 : decode cX3_hoursOf 0 = .ok (.iconst 0, 1) := by decide +kernel
theorem dX3_hoursOf_1 : decode cX3_hoursOf 1 = .ok (.istore_n 2, 1) := by decide +kernel
theorem dX3_hoursOf_2 : decode cX3_hoursOf 2 = .ok (.iconst 0, 1) := by decide +kernel
theorem dX3_hoursOf_3 : decode cX3_hoursOf 3 = .ok (.istore_n 3, 1) := by decide +kernel
theorem dX3_hoursOf_4 : decode cX3_hoursOf 4 = .ok (.iload_n 3, 1) := by decide +kernel
theorem dX3_hoursOf_5 : decode cX3_hoursOf 5 = .ok (.aload_n 0, 1) := by decide +kernel
theorem dX3_hoursOf_6 : decode cX3_hoursOf 6 = .ok (.getfield 27, 3) := by decide +kernel
theorem dX3_hoursOf_9 : decode cX3_hoursOf 9 = .ok (.if_icmp .ge 28, 3) := by decide +kernel
theorem dX3_hoursOf_12 : decode cX3_hoursOf 12 = .ok (.iload_n 1, 1) := by decide +kernel
theorem dX3_hoursOf_13 : decode cX3_hoursOf 13 = .ok (.iload_n 3, 1) := by decide +kernel
theorem dX3_hoursOf_14 : decode cX3_hoursOf 14 = .ok (.invokestatic 44, 3) := by decide +kernel
theorem dX3_hoursOf_17 : decode cX3_hoursOf 17 = .ok (.ifCond .eq 14, 3) := by decide +kernel
theorem dX3_hoursOf_20 : decode cX3_hoursOf 20 = .ok (.iload_n 2, 1) := by decide +kernel
theorem dX3_hoursOf_21 : decode cX3_hoursOf 21 = .ok (.aload_n 0, 1) := by decide +kernel
theorem dX3_hoursOf_22 : decode cX3_hoursOf 22 = .ok (.getfield 9, 3) := by decide +kernel
theorem dX3_hoursOf_25 : decode cX3_hoursOf 25 = .ok (.iload_n 3, 1) := by decide +kernel
theorem dX3_hoursOf_26 : decode cX3_hoursOf 26 = .ok (.invokestatic 48, 3) := by decide +kernel
theorem dX3_hoursOf_29 : decode cX3_hoursOf 29 = .ok (.iadd, 1) := by decide +kernel
theorem dX3_hoursOf_30 : decode cX3_hoursOf 30 = .ok (.istore_n 2, 1) := by decide +kernel
theorem dX3_hoursOf_31 : decode cX3_hoursOf 31 = .ok (.iinc 3 1, 3) := by decide +kernel
theorem dX3_hoursOf_34 : decode cX3_hoursOf 34 = .ok (.goto (-30), 3) := by decide +kernel
theorem dX3_hoursOf_37 : decode cX3_hoursOf 37 = .ok (.iload_n 2, 1) := by decide +kernel
theorem dX3_hoursOf_38 : decode cX3_hoursOf 38 = .ok (.ireturn, 1) := by decide +kernel
theorem dX3_isFree_0 : decode cX3_isFree 0 = .ok (.aload_n 0, 1) := by decide +kernel
theorem dX3_isFree_1 : decode cX3_isFree 1 = .ok (.getfield 24, 3) := by decide +kernel
theorem dX3_isFree_4 : decode cX3_isFree 4 = .ok (.iload_n 1, 1) := by decide +kernel
theorem dX3_isFree_5 : decode cX3_isFree 5 = .ok (.invokestatic 48, 3) := by decide +kernel
theorem dX3_isFree_8 : decode cX3_isFree 8 = .ok (.iload_n 2, 1) := by decide +kernel
theorem dX3_isFree_9 : decode cX3_isFree 9 = .ok (.iconst (-1), 1) := by decide +kernel
theorem dX3_isFree_10 : decode cX3_isFree 10 = .ok (.ixor, 1) := by decide +kernel
theorem dX3_isFree_11 : decode cX3_isFree 11 = .ok (.iand, 1) := by decide +kernel
theorem dX3_isFree_12 : decode cX3_isFree 12 = .ok (.ifCond .ne 7, 3) := by decide +kernel
theorem dX3_isFree_15 : decode cX3_isFree 15 = .ok (.iconst 1, 1) := by decide +kernel
theorem dX3_isFree_16 : decode cX3_isFree 16 = .ok (.goto 4, 3) := by decide +kernel
theorem dX3_isFree_19 : decode cX3_isFree 19 = .ok (.iconst 0, 1) := by decide +kernel
theorem dX3_isFree_20 : decode cX3_isFree 20 = .ok (.ireturn, 1) := by decide +kernel
theorem dX3_canFollow_0 : decode cX3_canFollow 0 = .ok (.iload_n 2, 1) := by decide +kernel
theorem dX3_canFollow_1 : decode cX3_canFollow 1 = .ok (.iload_n 1, 1) := by decide +kernel
theorem dX3_canFollow_2 : decode cX3_canFollow 2 = .ok (.invokestatic 44, 3) := by decide +kernel
theorem dX3_canFollow_5 : decode cX3_canFollow 5 = .ok (.ifCond .ne 16, 3) := by decide +kernel
theorem dX3_canFollow_8 : decode cX3_canFollow 8 = .ok (.aload_n 0, 1) := by decide +kernel
theorem dX3_canFollow_9 : decode cX3_canFollow 9 = .ok (.iload_n 1, 1) := by decide +kernel
theorem dX3_canFollow_10 : decode cX3_canFollow 10 = .ok (.iload_n 2, 1) := by decide +kernel
theorem dX3_canFollow_11 : decode cX3_canFollow 11 = .ok (.invokevirtual 52, 3) := by decide +kernel
theorem dX3_canFollow_14 : decode cX3_canFollow 14 = .ok (.ifCond .eq 7, 3) := by decide +kernel
theorem dX3_canFollow_17 : decode cX3_canFollow 17 = .ok (.iconst 1, 1) := by decide +kernel
theorem dX3_canFollow_18 : decode cX3_canFollow 18 = .ok (.goto 4, 3) := by decide +kernel
theorem dX3_canFollow_21 : decode cX3_canFollow 21 = .ok (.iconst 0, 1) := by decide +kernel
theorem dX3_canFollow_22 : decode cX3_canFollow 22 = .ok (.ireturn, 1) := by decide +kernel
theorem dX3_isOutdoors_0 : decode cX3_isOutdoors 0 = .ok (.aload_n 0, 1) := by decide +kernel
theorem dX3_isOutdoors_1 : decode cX3_isOutdoors 1 = .ok (.getfield 55, 3) := by decide +kernel
theorem dX3_isOutdoors_4 : decode cX3_isOutdoors 4 = .ok (.aload_n 0, 1) := by decide +kernel
theorem dX3_isOutdoors_5 : decode cX3_isOutdoors 5 = .ok (.getfield 15, 3) := by decide +kernel
theorem dX3_isOutdoors_8 : decode cX3_isOutdoors 8 = .ok (.iload_n 1, 1) := by decide +kernel
theorem dX3_isOutdoors_9 : decode cX3_isOutdoors 9 = .ok (.invokestatic 48, 3) := by decide +kernel
theorem dX3_isOutdoors_12 : decode cX3_isOutdoors 12 = .ok (.invokestatic 44, 3) := by decide +kernel
theorem dX3_isOutdoors_15 : decode cX3_isOutdoors 15 = .ok (.ireturn, 1) := by decide +kernel
theorem dX4_init_0 : decode cX4_init 0 = .ok (.aload_n 0, 1) := by decide +kernel
theorem dX4_init_1 : decode cX4_init 1 = .ok (.invokespecial 1, 3) := by decide +kernel
theorem dX4_init_4 : decode cX4_init 4 = .ok (.aload_n 0, 1) := by decide +kernel
theorem dX4_init_5 : decode cX4_init 5 = .ok (.new 7, 3) := by decide +kernel
theorem dX4_init_8 : decode cX4_init 8 = .ok (.dup, 1) := by decide +kernel
theorem dX4_init_9 : decode cX4_init 9 = .ok (.invokespecial 9, 3) := by decide +kernel
theorem dX4_init_12 : decode cX4_init 12 = .ok (.putfield 10, 3) := by decide +kernel
theorem dX4_init_15 : decode cX4_init 15 = .ok (.aload_n 0, 1) := by decide +kernel
theorem dX4_init_16 : decode cX4_init 16 = .ok (.aload_n 0, 1) := by decide +kernel
theorem dX4_init_17 : decode cX4_init 17 = .ok (.getfield 10, 3) := by decide +kernel
theorem dX4_init_20 : decode cX4_init 20 = .ok (.getfield 16, 3) := by decide +kernel
theorem dX4_init_23 : decode cX4_init 23 = .ok (.putfield 20, 3) := by decide +kernel
theorem dX4_init_26 : decode cX4_init 26 = .ok (.aload_n 0, 1) := by decide +kernel
theorem dX4_init_27 : decode cX4_init 27 = .ok (.new 21, 3) := by decide +kernel
theorem dX4_init_30 : decode cX4_init 30 = .ok (.dup, 1) := by decide +kernel
theorem dX4_init_31 : decode cX4_init 31 = .ok (.invokespecial 23, 3) := by decide +kernel
theorem dX4_init_34 : decode cX4_init 34 = .ok (.putfield 24, 3) := by decide +kernel
theorem dX4_init_37 : decode cX4_init 37 = .ok (.aload_n 0, 1) := by decide +kernel
theorem dX4_init_38 : decode cX4_init 38 = .ok (.new 28, 3) := by decide +kernel
theorem dX4_init_41 : decode cX4_init 41 = .ok (.dup, 1) := by decide +kernel
theorem dX4_init_42 : decode cX4_init 42 = .ok (.invokespecial 30, 3) := by decide +kernel
theorem dX4_init_45 : decode cX4_init 45 = .ok (.putfield 31, 3) := by decide +kernel
theorem dX4_init_48 : decode cX4_init 48 = .ok (.aload_n 0, 1) := by decide +kernel
theorem dX4_init_49 : decode cX4_init 49 = .ok (.bipush 100, 2) := by decide +kernel
theorem dX4_init_51 : decode cX4_init 51 = .ok (.putfield 35, 3) := by decide +kernel
theorem dX4_init_54 : decode cX4_init 54 = .ok (.aload_n 0, 1) := by decide +kernel
theorem dX4_init_55 : decode cX4_init 55 = .ok (.bipush 50, 2) := by decide +kernel
theorem dX4_init_57 : decode cX4_init 57 = .ok (.putfield 39, 3) := by decide +kernel
theorem dX4_init_60 : decode cX4_init 60 = .ok (.return_, 1) := by decide +kernel
theorem dX4_addScene_0 : decode cX4_addScene 0 = .ok (.iload_n 1, 1) := by decide +kernel
theorem dX4_addScene_1 : decode cX4_addScene 1 = .ok (.iconst 1, 1) := by decide +kernel
theorem dX4_addScene_2 : decode cX4_addScene 2 = .ok (.bipush 6, 2) := by decide +kernel
theorem dX4_addScene_4 : decode cX4_addScene 4 = .ok (.invokestatic 42, 3) := by decide +kernel
theorem dX4_addScene_7 : decode cX4_addScene 7 = .ok (.ifCond .eq 47, 3) := by decide +kernel
theorem dX4_addScene_10 : decode cX4_addScene 10 = .ok (.iload_n 2, 1) := by decide +kernel
theorem dX4_addScene_11 : decode cX4_addScene 11 = .ok (.iconst 0, 1) := by decide +kernel
theorem dX4_addScene_12 : decode cX4_addScene 12 = .ok (.iconst 3, 1) := by decide +kernel
theorem dX4_addScene_13 : decode cX4_addScene 13 = .ok (.invokestatic 42, 3) := by decide +kernel
theorem dX4_addScene_16 : decode cX4_addScene 16 = .ok (.ifCond .eq 38, 3) := by decide +kernel
theorem dX4_addScene_19 : decode cX4_addScene 19 = .ok (.iload_n 3, 1) := by decide +kernel
theorem dX4_addScene_20 : decode cX4_addScene 20 = .ok (.iconst 0, 1) := by decide +kernel
theorem dX4_addScene_21 : decode cX4_addScene 21 = .ok (.bipush 63, 2) := by decide +kernel
theorem dX4_addScene_23 : decode cX4_addScene 23 = .ok (.invokestatic 42, 3) := by decide +kernel
theorem dX4_addScene_26 : decode cX4_addScene 26 = .ok (.ifCond .eq 28, 3) := by decide +kernel
theorem dX4_addScene_29 : decode cX4_addScene 29 = .ok (.iload 4, 2) := by decide +kernel
theorem dX4_addScene_31 : decode cX4_addScene 31 = .ok (.iconst 0, 1) := by decide +kernel
theorem dX4_addScene_32 : decode cX4_addScene 32 = .ok (.iconst 2, 1) := by decide +kernel
theorem dX4_addScene_33 : decode cX4_addScene 33 = .ok (.invokestatic 42, 3) := by decide +kernel
theorem dX4_addScene_36 : decode cX4_addScene 36 = .ok (.ifCond .eq 18, 3) := by decide +kernel
theorem dX4_addScene_39 : decode cX4_addScene 39 = .ok (.iload 5, 2) := by decide +kernel
theorem dX4_addScene_41 : decode cX4_addScene 41 = .ok (.aload_n 0, 1) := by decide +kernel
theorem dX4_addScene_42 : decode cX4_addScene 42 = .ok (.getfield 20, 3) := by decide +kernel
theorem dX4_addScene_45 : decode cX4_addScene 45 = .ok (.invokevirtual 46, 3) := by decide +kernel
theorem dX4_addScene_48 : decode cX4_addScene 48 = .ok (.iconst (-1), 1) := by decide +kernel
theorem dX4_addScene_49 : decode cX4_addScene 49 = .ok (.ixor, 1) := by decide +kernel
theorem dX4_addScene_50 : decode cX4_addScene 50 = .ok (.iand, 1) := by decide +kernel
theorem dX4_addScene_51 : decode cX4_addScene 51 = .ok (.ifCond .eq 11, 3) := by decide +kernel
theorem dX4_addScene_54 : decode cX4_addScene 54 = .ok (.new 52, 3) := by decide +kernel
theorem dX4_addScene_57 : decode cX4_addScene 57 = .ok (.dup, 1) := by decide +kernel
theorem dX4_addScene_58 : decode cX4_addScene 58 = .ok (.invokespecial 54, 3) := by decide +kernel
theorem dX4_addScene_61 : decode cX4_addScene 61 = .ok (.athrow, 1) := by decide +kernel
theorem dX4_addScene_62 : decode cX4_addScene 62 = .ok (.aload_n 0, 1) := by decide +kernel
theorem dX4_addScene_63 : decode cX4_addScene 63 = .ok (.getfield 20, 3) := by decide +kernel
theorem dX4_addScene_66 : decode cX4_addScene 66 = .ok (.getfield 55, 3) := by decide +kernel
theorem dX4_addScene_69 : decode cX4_addScene 69 = .ok (.bipush 8, 2) := by decide +kernel
theorem dX4_addScene_71 : decode cX4_addScene 71 = .ok (.if_icmp .lt 11, 3) := by decide +kernel
theorem dX4_addScene_74 : decode cX4_addScene 74 = .ok (.new 58, 3) := by decide +kernel
theorem dX4_addScene_77 : decode cX4_addScene 77 = .ok (.dup, 1) := by decide +kernel
theorem dX4_addScene_78 : decode cX4_addScene 78 = .ok (.invokespecial 60, 3) := by decide +kernel
theorem dX4_addScene_81 : decode cX4_addScene 81 = .ok (.athrow, 1) := by decide +kernel
theorem dX4_addScene_82 : decode cX4_addScene 82 = .ok (.aload_n 0, 1) := by decide +kernel
theorem dX4_addScene_83 : decode cX4_addScene 83 = .ok (.getfield 10, 3) := by decide +kernel
theorem dX4_addScene_86 : decode cX4_addScene 86 = .ok (.invokevirtual 61, 3) := by decide +kernel
theorem dX4_addScene_89 : decode cX4_addScene 89 = .ok (.aload_n 0, 1) := by decide +kernel
theorem dX4_addScene_90 : decode cX4_addScene 90 = .ok (.getfield 20, 3) := by decide +kernel
theorem dX4_addScene_93 : decode cX4_addScene 93 = .ok (.iload_n 1, 1) := by decide +kernel
theorem dX4_addScene_94 : decode cX4_addScene 94 = .ok (.iload_n 2, 1) := by decide +kernel
theorem dX4_addScene_95 : decode cX4_addScene 95 = .ok (.iload_n 3, 1) := by decide +kernel
theorem dX4_addScene_96 : decode cX4_addScene 96 = .ok (.iload 4, 2) := by decide +kernel
theorem dX4_addScene_98 : decode cX4_addScene 98 = .ok (.iload 5, 2) := by decide +kernel
theorem dX4_addScene_100 : decode cX4_addScene 100 = .ok (.invokevirtual 64, 3) := by decide +kernel
theorem dX4_addScene_103 : decode cX4_addScene 103 = .ok (.ireturn, 1) := by decide +kernel
theorem dX4_setOut_0 : decode cX4_setOut 0 = .ok (.iload_n 1, 1) := by decide +kernel
theorem dX4_setOut_1 : decode cX4_setOut 1 = .ok (.iconst 0, 1) := by decide +kernel
theorem dX4_setOut_2 : decode cX4_setOut 2 = .ok (.iconst 3, 1) := by decide +kernel
theorem dX4_setOut_3 : decode cX4_setOut 3 = .ok (.invokestatic 42, 3) := by decide +kernel
theorem dX4_setOut_6 : decode cX4_setOut 6 = .ok (.ifCond .ne 11, 3) := by decide +kernel
theorem dX4_setOut_9 : decode cX4_setOut 9 = .ok (.new 68, 3) := by decide +kernel
theorem dX4_setOut_12 : decode cX4_setOut 12 = .ok (.dup, 1) := by decide +kernel
theorem dX4_setOut_13 : decode cX4_setOut 13 = .ok (.invokespecial 70, 3) := by decide +kernel
theorem dX4_setOut_16 : decode cX4_setOut 16 = .ok (.athrow, 1) := by decide +kernel
theorem dX4_setOut_17 : decode cX4_setOut 17 = .ok (.aload_n 0, 1) := by decide +kernel
theorem dX4_setOut_18 : decode cX4_setOut 18 = .ok (.getfield 20, 3) := by decide +kernel
theorem dX4_setOut_21 : decode cX4_setOut 21 = .ok (.getfield 71, 3) := by decide +kernel
theorem dX4_setOut_24 : decode cX4_setOut 24 = .ok (.iload_n 1, 1) := by decide +kernel
theorem dX4_setOut_25 : decode cX4_setOut 25 = .ok (.invokestatic 74, 3) := by decide +kernel
theorem dX4_setOut_28 : decode cX4_setOut 28 = .ok (.istore_n 3, 1) := by decide +kernel
theorem dX4_setOut_29 : decode cX4_setOut 29 = .ok (.aload_n 0, 1) := by decide +kernel
theorem dX4_setOut_30 : decode cX4_setOut 30 = .ok (.getfield 20, 3) := by decide +kernel
theorem dX4_setOut_33 : decode cX4_setOut 33 = .ok (.aload_n 0, 1) := by decide +kernel
theorem dX4_setOut_34 : decode cX4_setOut 34 = .ok (.getfield 20, 3) := by decide +kernel
theorem dX4_setOut_37 : decode cX4_setOut 37 = .ok (.getfield 71, 3) := by decide +kernel
theorem dX4_setOut_40 : decode cX4_setOut 40 = .ok (.iload_n 1, 1) := by decide +kernel
theorem dX4_setOut_41 : decode cX4_setOut 41 = .ok (.iload_n 2, 1) := by decide +kernel
theorem dX4_setOut_42 : decode cX4_setOut 42 = .ok (.invokestatic 78, 3) := by decide +kernel
theorem dX4_setOut_45 : decode cX4_setOut 45 = .ok (.putfield 71, 3) := by decide +kernel
theorem dX4_setOut_48 : decode cX4_setOut 48 = .ok (.iload_n 3, 1) := by decide +kernel
theorem dX4_setOut_49 : decode cX4_setOut 49 = .ok (.ireturn, 1) := by decide +kernel
theorem dX4_setChild_0 : decode cX4_setChild 0 = .ok (.iload_n 1, 1) := by decide +kernel
theorem dX4_setChild_1 : decode cX4_setChild 1 = .ok (.iconst 0, 1) := by decide +kernel
theorem dX4_setChild_2 : decode cX4_setChild 2 = .ok (.iconst 5, 1) := by decide +kernel
theorem dX4_setChild_3 : decode cX4_setChild 3 = .ok (.invokestatic 42, 3) := by decide +kernel
theorem dX4_setChild_6 : decode cX4_setChild 6 = .ok (.ifCond .ne 11, 3) := by decide +kernel
theorem dX4_setChild_9 : decode cX4_setChild 9 = .ok (.new 68, 3) := by decide +kernel
theorem dX4_setChild_12 : decode cX4_setChild 12 = .ok (.dup, 1) := by decide +kernel
theorem dX4_setChild_13 : decode cX4_setChild 13 = .ok (.invokespecial 70, 3) := by decide +kernel
theorem dX4_setChild_16 : decode cX4_setChild 16 = .ok (.athrow, 1) := by decide +kernel
theorem dX4_setChild_17 : decode cX4_setChild 17 = .ok (.aload_n 0, 1) := by decide +kernel
theorem dX4_setChild_18 : decode cX4_setChild 18 = .ok (.getfield 20, 3) := by decide +kernel
theorem dX4_setChild_21 : decode cX4_setChild 21 = .ok (.getfield 82, 3) := by decide +kernel
theorem dX4_setChild_24 : decode cX4_setChild 24 = .ok (.iload_n 1, 1) := by decide +kernel
theorem dX4_setChild_25 : decode cX4_setChild 25 = .ok (.invokestatic 74, 3) := by decide +kernel
theorem dX4_setChild_28 : decode cX4_setChild 28 = .ok (.istore_n 3, 1) := by decide +kernel
theorem dX4_setChild_29 : decode cX4_setChild 29 = .ok (.iload_n 3, 1) := by decide +kernel
theorem dX4_setChild_30 : decode cX4_setChild 30 = .ok (.iload_n 2, 1) := by decide +kernel
theorem dX4_setChild_31 : decode cX4_setChild 31 = .ok (.if_icmp .eq 29, 3) := by decide +kernel
theorem dX4_setChild_34 : decode cX4_setChild 34 = .ok (.aload_n 0, 1) := by decide +kernel
theorem dX4_setChild_35 : decode cX4_setChild 35 = .ok (.getfield 10, 3) := by decide +kernel
theorem dX4_setChild_38 : decode cX4_setChild 38 = .ok (.invokevirtual 61, 3) := by decide +kernel
theorem dX4_setChild_41 : decode cX4_setChild 41 = .ok (.aload_n 0, 1) := by decide +kernel
theorem dX4_setChild_42 : decode cX4_setChild 42 = .ok (.getfield 20, 3) := by decide +kernel
theorem dX4_setChild_45 : decode cX4_setChild 45 = .ok (.aload_n 0, 1) := by decide +kernel
theorem dX4_setChild_46 : decode cX4_setChild 46 = .ok (.getfield 20, 3) := by decide +kernel
theorem dX4_setChild_49 : decode cX4_setChild 49 = .ok (.getfield 82, 3) := by decide +kernel
theorem dX4_setChild_52 : decode cX4_setChild 52 = .ok (.iload_n 1, 1) := by decide +kernel
theorem dX4_setChild_53 : decode cX4_setChild 53 = .ok (.iload_n 2, 1) := by decide +kernel
theorem dX4_setChild_54 : decode cX4_setChild 54 = .ok (.invokestatic 78, 3) := by decide +kernel
theorem dX4_setChild_57 : decode cX4_setChild 57 = .ok (.putfield 82, 3) := by decide +kernel
theorem dX4_setChild_60 : decode cX4_setChild 60 = .ok (.iload_n 3, 1) := by decide +kernel
theorem dX4_setChild_61 : decode cX4_setChild 61 = .ok (.ireturn, 1) := by decide +kernel
theorem dX4_setRates_0 : decode cX4_setRates 0 = .ok (.iload_n 1, 1) := by decide +kernel
theorem dX4_setRates_1 : decode cX4_setRates 1 = .ok (.iconst 0, 1) := by decide +kernel
theorem dX4_setRates_2 : decode cX4_setRates 2 = .ok (.sipush 1000, 3) := by decide +kernel
theorem dX4_setRates_5 : decode cX4_setRates 5 = .ok (.invokestatic 42, 3) := by decide +kernel
theorem dX4_setRates_8 : decode cX4_setRates 8 = .ok (.ifCond .eq 14, 3) := by decide +kernel
theorem dX4_setRates_11 : decode cX4_setRates 11 = .ok (.iload_n 2, 1) := by decide +kernel
theorem dX4_setRates_12 : decode cX4_setRates 12 = .ok (.iconst 0, 1) := by decide +kernel
theorem dX4_setRates_13 : decode cX4_setRates 13 = .ok (.sipush 1000, 3) := by decide +kernel
theorem dX4_setRates_16 : decode cX4_setRates 16 = .ok (.invokestatic 42, 3) := by decide +kernel
theorem dX4_setRates_19 : decode cX4_setRates 19 = .ok (.ifCond .ne 11, 3) := by decide +kernel
theorem dX4_setRates_22 : decode cX4_setRates 22 = .ok (.new 52, 3) := by decide +kernel
theorem dX4_setRates_25 : decode cX4_setRates 25 = .ok (.dup, 1) := by decide +kernel
theorem dX4_setRates_26 : decode cX4_setRates 26 = .ok (.invokespecial 54, 3) := by decide +kernel
theorem dX4_setRates_29 : decode cX4_setRates 29 = .ok (.athrow, 1) := by decide +kernel
theorem dX4_setRates_30 : decode cX4_setRates 30 = .ok (.aload_n 0, 1) := by decide +kernel
theorem dX4_setRates_31 : decode cX4_setRates 31 = .ok (.getfield 35, 3) := by decide +kernel
theorem dX4_setRates_34 : decode cX4_setRates 34 = .ok (.istore_n 3, 1) := by decide +kernel
theorem dX4_setRates_35 : decode cX4_setRates 35 = .ok (.aload_n 0, 1) := by decide +kernel
theorem dX4_setRates_36 : decode cX4_setRates 36 = .ok (.iload_n 1, 1) := by decide +kernel
theorem dX4_setRates_37 : decode cX4_setRates 37 = .ok (.putfield 35, 3) := by decide +kernel
theorem dX4_setRates_40 : decode cX4_setRates 40 = .ok (.aload_n 0, 1) := by decide +kernel
theorem dX4_setRates_41 : decode cX4_setRates 41 = .ok (.iload_n 2, 1) := by decide +kernel
theorem dX4_setRates_42 : decode cX4_setRates 42 = .ok (.putfield 39, 3) := by decide +kernel
theorem dX4_setRates_45 : decode cX4_setRates 45 = .ok (.iload_n 3, 1) := by decide +kernel
theorem dX4_setRates_46 : decode cX4_setRates 46 = .ok (.ireturn, 1) := by decide +kernel
theorem dX4_hold_0 : decode cX4_hold 0 = .ok (.aload_n 0, 1) := by decide +kernel
theorem dX4_hold_1 : decode cX4_hold 1 = .ok (.getfield 85, 3) := by decide +kernel
theorem dX4_hold_4 : decode cX4_hold 4 = .ok (.istore_n 2, 1) := by decide +kernel
theorem dX4_hold_5 : decode cX4_hold 5 = .ok (.aload_n 0, 1) := by decide +kernel
theorem dX4_hold_6 : decode cX4_hold 6 = .ok (.iload_n 1, 1) := by decide +kernel
theorem dX4_hold_7 : decode cX4_hold 7 = .ok (.putfield 85, 3) := by decide +kernel
theorem dX4_hold_10 : decode cX4_hold 10 = .ok (.iload_n 2, 1) := by decide +kernel
theorem dX4_hold_11 : decode cX4_hold 11 = .ok (.ireturn, 1) := by decide +kernel
theorem dX4_shoot_0 : decode cX4_shoot 0 = .ok (.aload_n 0, 1) := by decide +kernel
theorem dX4_shoot_1 : decode cX4_shoot 1 = .ok (.getfield 10, 3) := by decide +kernel
theorem dX4_shoot_4 : decode cX4_shoot 4 = .ok (.invokevirtual 89, 3) := by decide +kernel
theorem dX4_shoot_7 : decode cX4_shoot 7 = .ok (.aload_n 0, 1) := by decide +kernel
theorem dX4_shoot_8 : decode cX4_shoot 8 = .ok (.getfield 10, 3) := by decide +kernel
theorem dX4_shoot_11 : decode cX4_shoot 11 = .ok (.iload_n 1, 1) := by decide +kernel
theorem dX4_shoot_12 : decode cX4_shoot 12 = .ok (.ifCond .eq 14, 3) := by decide +kernel
theorem dX4_shoot_15 : decode cX4_shoot 15 = .ok (.aload_n 0, 1) := by decide +kernel
theorem dX4_shoot_16 : decode cX4_shoot 16 = .ok (.getfield 85, 3) := by decide +kernel
theorem dX4_shoot_19 : decode cX4_shoot 19 = .ok (.ifCond .ne 7, 3) := by decide +kernel
theorem dX4_shoot_22 : decode cX4_shoot 22 = .ok (.iconst 1, 1) := by decide +kernel
theorem dX4_shoot_23 : decode cX4_shoot 23 = .ok (.goto 4, 3) := by decide +kernel
theorem dX4_shoot_26 : decode cX4_shoot 26 = .ok (.iconst 0, 1) := by decide +kernel
theorem dX4_shoot_27 : decode cX4_shoot 27 = .ok (.invokevirtual 92, 3) := by decide +kernel
theorem dX4_shoot_30 : decode cX4_shoot 30 = .ok (.istore_n 2, 1) := by decide +kernel
theorem dX4_shoot_31 : decode cX4_shoot 31 = .ok (.aload_n 0, 1) := by decide +kernel
theorem dX4_shoot_32 : decode cX4_shoot 32 = .ok (.getfield 20, 3) := by decide +kernel
theorem dX4_shoot_35 : decode cX4_shoot 35 = .ok (.iload_n 2, 1) := by decide +kernel
theorem dX4_shoot_36 : decode cX4_shoot 36 = .ok (.invokevirtual 96, 3) := by decide +kernel
theorem dX4_shoot_39 : decode cX4_shoot 39 = .ok (.aload_n 0, 1) := by decide +kernel
theorem dX4_shoot_40 : decode cX4_shoot 40 = .ok (.getfield 35, 3) := by decide +kernel
theorem dX4_shoot_43 : decode cX4_shoot 43 = .ok (.imul, 1) := by decide +kernel
theorem dX4_shoot_44 : decode cX4_shoot 44 = .ok (.istore_n 3, 1) := by decide +kernel
theorem dX4_shoot_45 : decode cX4_shoot 45 = .ok (.aload_n 0, 1) := by decide +kernel
theorem dX4_shoot_46 : decode cX4_shoot 46 = .ok (.getfield 85, 3) := by decide +kernel
theorem dX4_shoot_49 : decode cX4_shoot 49 = .ok (.ifCond .eq 10, 3) := by decide +kernel
theorem dX4_shoot_52 : decode cX4_shoot 52 = .ok (.aload_n 0, 1) := by decide +kernel
theorem dX4_shoot_53 : decode cX4_shoot 53 = .ok (.getfield 39, 3) := by decide +kernel
theorem dX4_shoot_56 : decode cX4_shoot 56 = .ok (.goto 4, 3) := by decide +kernel
theorem dX4_shoot_59 : decode cX4_shoot 59 = .ok (.iconst 0, 1) := by decide +kernel
theorem dX4_shoot_60 : decode cX4_shoot 60 = .ok (.istore 4, 2) := by decide +kernel
theorem dX4_shoot_62 : decode cX4_shoot 62 = .ok (.aload_n 0, 1) := by decide +kernel
theorem dX4_shoot_63 : decode cX4_shoot 63 = .ok (.getfield 24, 3) := by decide +kernel
theorem dX4_shoot_66 : decode cX4_shoot 66 = .ok (.iconst 0, 1) := by decide +kernel
theorem dX4_shoot_67 : decode cX4_shoot 67 = .ok (.iload_n 3, 1) := by decide +kernel
theorem dX4_shoot_68 : decode cX4_shoot 68 = .ok (.invokevirtual 100, 3) := by decide +kernel
theorem dX4_shoot_71 : decode cX4_shoot 71 = .ok (.aload_n 0, 1) := by decide +kernel
theorem dX4_shoot_72 : decode cX4_shoot 72 = .ok (.getfield 24, 3) := by decide +kernel
theorem dX4_shoot_75 : decode cX4_shoot 75 = .ok (.iconst 1, 1) := by decide +kernel
theorem dX4_shoot_76 : decode cX4_shoot 76 = .ok (.iload 4, 2) := by decide +kernel
theorem dX4_shoot_78 : decode cX4_shoot 78 = .ok (.invokevirtual 100, 3) := by decide +kernel
theorem dX4_shoot_81 : decode cX4_shoot 81 = .ok (.iadd, 1) := by decide +kernel
theorem dX4_shoot_82 : decode cX4_shoot 82 = .ok (.istore 5, 2) := by decide +kernel
theorem dX4_shoot_84 : decode cX4_shoot 84 = .ok (.iload 5, 2) := by decide +kernel
theorem dX4_shoot_86 : decode cX4_shoot 86 = .ok (.aload_n 0, 1) := by decide +kernel
theorem dX4_shoot_87 : decode cX4_shoot 87 = .ok (.getfield 24, 3) := by decide +kernel
theorem dX4_shoot_90 : decode cX4_shoot 90 = .ok (.getfield 104, 3) := by decide +kernel
theorem dX4_shoot_93 : decode cX4_shoot 93 = .ok (.if_icmp .gt 16, 3) := by decide +kernel
theorem dX4_shoot_96 : decode cX4_shoot 96 = .ok (.aload_n 0, 1) := by decide +kernel
theorem dX4_shoot_97 : decode cX4_shoot 97 = .ok (.getfield 10, 3) := by decide +kernel
theorem dX4_shoot_100 : decode cX4_shoot 100 = .ok (.getfield 107, 3) := by decide +kernel
theorem dX4_shoot_103 : decode cX4_shoot 103 = .ok (.sipush 1000, 3) := by decide +kernel
theorem dX4_shoot_106 : decode cX4_shoot 106 = .ok (.if_icmp .lt 11, 3) := by decide +kernel
theorem dX4_shoot_109 : decode cX4_shoot 109 = .ok (.new 58, 3) := by decide +kernel
theorem dX4_shoot_112 : decode cX4_shoot 112 = .ok (.dup, 1) := by decide +kernel
theorem dX4_shoot_113 : decode cX4_shoot 113 = .ok (.invokespecial 60, 3) := by decide +kernel
theorem dX4_shoot_116 : decode cX4_shoot 116 = .ok (.athrow, 1) := by decide +kernel
theorem dX4_shoot_117 : decode cX4_shoot 117 = .ok (.aload_n 0, 1) := by decide +kernel
theorem dX4_shoot_118 : decode cX4_shoot 118 = .ok (.getfield 24, 3) := by decide +kernel
theorem dX4_shoot_121 : decode cX4_shoot 121 = .ok (.iconst 0, 1) := by decide +kernel
theorem dX4_shoot_122 : decode cX4_shoot 122 = .ok (.iload_n 3, 1) := by decide +kernel
theorem dX4_shoot_123 : decode cX4_shoot 123 = .ok (.invokevirtual 110, 3) := by decide +kernel
theorem dX4_shoot_126 : decode cX4_shoot 126 = .ok (.pop, 1) := by decide +kernel
theorem dX4_shoot_127 : decode cX4_shoot 127 = .ok (.aload_n 0, 1) := by decide +kernel
theorem dX4_shoot_128 : decode cX4_shoot 128 = .ok (.getfield 24, 3) := by decide +kernel
theorem dX4_shoot_131 : decode cX4_shoot 131 = .ok (.iconst 1, 1) := by decide +kernel
theorem dX4_shoot_132 : decode cX4_shoot 132 = .ok (.iload 4, 2) := by decide +kernel
theorem dX4_shoot_134 : decode cX4_shoot 134 = .ok (.invokevirtual 110, 3) := by decide +kernel
theorem dX4_shoot_137 : decode cX4_shoot 137 = .ok (.pop, 1) := by decide +kernel
theorem dX4_shoot_138 : decode cX4_shoot 138 = .ok (.aload_n 0, 1) := by decide +kernel
theorem dX4_shoot_139 : decode cX4_shoot 139 = .ok (.getfield 10, 3) := by decide +kernel
theorem dX4_shoot_142 : decode cX4_shoot 142 = .ok (.iload_n 2, 1) := by decide +kernel
theorem dX4_shoot_143 : decode cX4_shoot 143 = .ok (.invokevirtual 113, 3) := by decide +kernel
theorem dX4_shoot_146 : decode cX4_shoot 146 = .ok (.iload_n 2, 1) := by decide +kernel
theorem dX4_shoot_147 : decode cX4_shoot 147 = .ok (.invokestatic 117, 3) := by decide +kernel
theorem dX4_shoot_150 : decode cX4_shoot 150 = .ok (.ireturn, 1) := by decide +kernel
theorem dX4_approve_0 : decode cX4_approve 0 = .ok (.iload_n 1, 1) := by decide +kernel
theorem dX4_approve_1 : decode cX4_approve 1 = .ok (.iconst 0, 1) := by decide +kernel
theorem dX4_approve_2 : decode cX4_approve 2 = .ok (.iconst 3, 1) := by decide +kernel
theorem dX4_approve_3 : decode cX4_approve 3 = .ok (.invokestatic 42, 3) := by decide +kernel
theorem dX4_approve_6 : decode cX4_approve 6 = .ok (.ifCond .ne 11, 3) := by decide +kernel
theorem dX4_approve_9 : decode cX4_approve 9 = .ok (.new 68, 3) := by decide +kernel
theorem dX4_approve_12 : decode cX4_approve 12 = .ok (.dup, 1) := by decide +kernel
theorem dX4_approve_13 : decode cX4_approve 13 = .ok (.invokespecial 70, 3) := by decide +kernel
theorem dX4_approve_16 : decode cX4_approve 16 = .ok (.athrow, 1) := by decide +kernel
theorem dX4_approve_17 : decode cX4_approve 17 = .ok (.iload_n 2, 1) := by decide +kernel
theorem dX4_approve_18 : decode cX4_approve 18 = .ok (.iconst 1, 1) := by decide +kernel
theorem dX4_approve_19 : decode cX4_approve 19 = .ok (.ldc 122, 2) := by decide +kernel
theorem dX4_approve_21 : decode cX4_approve 21 = .ok (.invokestatic 42, 3) := by decide +kernel
theorem dX4_approve_24 : decode cX4_approve 24 = .ok (.ifCond .ne 11, 3) := by decide +kernel
theorem dX4_approve_27 : decode cX4_approve 27 = .ok (.new 52, 3) := by decide +kernel
theorem dX4_approve_30 : decode cX4_approve 30 = .ok (.dup, 1) := by decide +kernel
theorem dX4_approve_31 : decode cX4_approve 31 = .ok (.invokespecial 54, 3) := by decide +kernel
theorem dX4_approve_34 : decode cX4_approve 34 = .ok (.athrow, 1) := by decide +kernel
theorem dX4_approve_35 : decode cX4_approve 35 = .ok (.aload_n 0, 1) := by decide +kernel
theorem dX4_approve_36 : decode cX4_approve 36 = .ok (.getfield 24, 3) := by decide +kernel
theorem dX4_approve_39 : decode cX4_approve 39 = .ok (.getfield 123, 3) := by decide +kernel
theorem dX4_approve_42 : decode cX4_approve 42 = .ok (.iload_n 1, 1) := by decide +kernel
theorem dX4_approve_43 : decode cX4_approve 43 = .ok (.iload_n 2, 1) := by decide +kernel
theorem dX4_approve_44 : decode cX4_approve 44 = .ok (.invokestatic 127, 3) := by decide +kernel
theorem dX4_approve_47 : decode cX4_approve 47 = .ok (.aload_n 0, 1) := by decide +kernel
theorem dX4_approve_48 : decode cX4_approve 48 = .ok (.getfield 24, 3) := by decide +kernel
theorem dX4_approve_51 : decode cX4_approve 51 = .ok (.getfield 123, 3) := by decide +kernel
theorem dX4_approve_54 : decode cX4_approve 54 = .ok (.iload_n 1, 1) := by decide +kernel
theorem dX4_approve_55 : decode cX4_approve 55 = .ok (.invokestatic 131, 3) := by decide +kernel
theorem dX4_approve_58 : decode cX4_approve 58 = .ok (.ireturn, 1) := by decide +kernel
theorem dX4_grant_0 : decode cX4_grant 0 = .ok (.iload_n 1, 1) := by decide +kernel
theorem dX4_grant_1 : decode cX4_grant 1 = .ok (.iconst 1, 1) := by decide +kernel
theorem dX4_grant_2 : decode cX4_grant 2 = .ok (.ldc 122, 2) := by decide +kernel
theorem dX4_grant_4 : decode cX4_grant 4 = .ok (.invokestatic 42, 3) := by decide +kernel
theorem dX4_grant_7 : decode cX4_grant 7 = .ok (.ifCond .ne 11, 3) := by decide +kernel
theorem dX4_grant_10 : decode cX4_grant 10 = .ok (.new 52, 3) := by decide +kernel
theorem dX4_grant_13 : decode cX4_grant 13 = .ok (.dup, 1) := by decide +kernel
theorem dX4_grant_14 : decode cX4_grant 14 = .ok (.invokespecial 54, 3) := by decide +kernel
theorem dX4_grant_17 : decode cX4_grant 17 = .ok (.athrow, 1) := by decide +kernel
theorem dX4_grant_18 : decode cX4_grant 18 = .ok (.aload_n 0, 1) := by decide +kernel
theorem dX4_grant_19 : decode cX4_grant 19 = .ok (.getfield 24, 3) := by decide +kernel
theorem dX4_grant_22 : decode cX4_grant 22 = .ok (.dup, 1) := by decide +kernel
theorem dX4_grant_23 : decode cX4_grant 23 = .ok (.getfield 104, 3) := by decide +kernel
theorem dX4_grant_26 : decode cX4_grant 26 = .ok (.iload_n 1, 1) := by decide +kernel
theorem dX4_grant_27 : decode cX4_grant 27 = .ok (.iadd, 1) := by decide +kernel
theorem dX4_grant_28 : decode cX4_grant 28 = .ok (.putfield 104, 3) := by decide +kernel
theorem dX4_grant_31 : decode cX4_grant 31 = .ok (.aload_n 0, 1) := by decide +kernel
theorem dX4_grant_32 : decode cX4_grant 32 = .ok (.getfield 24, 3) := by decide +kernel
theorem dX4_grant_35 : decode cX4_grant 35 = .ok (.getfield 104, 3) := by decide +kernel
theorem dX4_grant_38 : decode cX4_grant 38 = .ok (.ireturn, 1) := by decide +kernel
theorem dX4_bill_0 : decode cX4_bill 0 = .ok (.iload_n 1, 1) := by decide +kernel
theorem dX4_bill_1 : decode cX4_bill 1 = .ok (.iconst 0, 1) := by decide +kernel
theorem dX4_bill_2 : decode cX4_bill 2 = .ok (.iconst 3, 1) := by decide +kernel
theorem dX4_bill_3 : decode cX4_bill 3 = .ok (.invokestatic 42, 3) := by decide +kernel
theorem dX4_bill_6 : decode cX4_bill 6 = .ok (.ifCond .ne 11, 3) := by decide +kernel
theorem dX4_bill_9 : decode cX4_bill 9 = .ok (.new 68, 3) := by decide +kernel
theorem dX4_bill_12 : decode cX4_bill 12 = .ok (.dup, 1) := by decide +kernel
theorem dX4_bill_13 : decode cX4_bill 13 = .ok (.invokespecial 70, 3) := by decide +kernel
theorem dX4_bill_16 : decode cX4_bill 16 = .ok (.athrow, 1) := by decide +kernel
theorem dX4_bill_17 : decode cX4_bill 17 = .ok (.iload_n 2, 1) := by decide +kernel
theorem dX4_bill_18 : decode cX4_bill 18 = .ok (.iconst 1, 1) := by decide +kernel
theorem dX4_bill_19 : decode cX4_bill 19 = .ok (.ldc 122, 2) := by decide +kernel
theorem dX4_bill_21 : decode cX4_bill 21 = .ok (.invokestatic 42, 3) := by decide +kernel
theorem dX4_bill_24 : decode cX4_bill 24 = .ok (.ifCond .ne 11, 3) := by decide +kernel
theorem dX4_bill_27 : decode cX4_bill 27 = .ok (.new 52, 3) := by decide +kernel
theorem dX4_bill_30 : decode cX4_bill 30 = .ok (.dup, 1) := by decide +kernel
theorem dX4_bill_31 : decode cX4_bill 31 = .ok (.invokespecial 54, 3) := by decide +kernel
theorem dX4_bill_34 : decode cX4_bill 34 = .ok (.athrow, 1) := by decide +kernel
theorem dX4_bill_35 : decode cX4_bill 35 = .ok (.aload_n 0, 1) := by decide +kernel
theorem dX4_bill_36 : decode cX4_bill 36 = .ok (.getfield 24, 3) := by decide +kernel
theorem dX4_bill_39 : decode cX4_bill 39 = .ok (.iload_n 1, 1) := by decide +kernel
theorem dX4_bill_40 : decode cX4_bill 40 = .ok (.iload_n 2, 1) := by decide +kernel
theorem dX4_bill_41 : decode cX4_bill 41 = .ok (.invokevirtual 100, 3) := by decide +kernel
theorem dX4_bill_44 : decode cX4_bill 44 = .ok (.aload_n 0, 1) := by decide +kernel
theorem dX4_bill_45 : decode cX4_bill 45 = .ok (.getfield 24, 3) := by decide +kernel
theorem dX4_bill_48 : decode cX4_bill 48 = .ok (.getfield 104, 3) := by decide +kernel
theorem dX4_bill_51 : decode cX4_bill 51 = .ok (.if_icmp .le 11, 3) := by decide +kernel
theorem dX4_bill_54 : decode cX4_bill 54 = .ok (.new 58, 3) := by decide +kernel
theorem dX4_bill_57 : decode cX4_bill 57 = .ok (.dup, 1) := by decide +kernel
theorem dX4_bill_58 : decode cX4_bill 58 = .ok (.invokespecial 60, 3) := by decide +kernel
theorem dX4_bill_61 : decode cX4_bill 61 = .ok (.athrow, 1) := by decide +kernel
theorem dX4_bill_62 : decode cX4_bill 62 = .ok (.aload_n 0, 1) := by decide +kernel
theorem dX4_bill_63 : decode cX4_bill 63 = .ok (.getfield 24, 3) := by decide +kernel
theorem dX4_bill_66 : decode cX4_bill 66 = .ok (.iload_n 1, 1) := by decide +kernel
theorem dX4_bill_67 : decode cX4_bill 67 = .ok (.iload_n 2, 1) := by decide +kernel
theorem dX4_bill_68 : decode cX4_bill 68 = .ok (.invokevirtual 110, 3) := by decide +kernel
theorem dX4_bill_71 : decode cX4_bill 71 = .ok (.ireturn, 1) := by decide +kernel
theorem dX4_loan_0 : decode cX4_loan 0 = .ok (.iload_n 1, 1) := by decide +kernel
theorem dX4_loan_1 : decode cX4_loan 1 = .ok (.iconst 0, 1) := by decide +kernel
theorem dX4_loan_2 : decode cX4_loan 2 = .ok (.iconst 5, 1) := by decide +kernel
theorem dX4_loan_3 : decode cX4_loan 3 = .ok (.invokestatic 42, 3) := by decide +kernel
theorem dX4_loan_6 : decode cX4_loan 6 = .ok (.ifCond .ne 11, 3) := by decide +kernel
theorem dX4_loan_9 : decode cX4_loan 9 = .ok (.new 68, 3) := by decide +kernel
theorem dX4_loan_12 : decode cX4_loan 12 = .ok (.dup, 1) := by decide +kernel
theorem dX4_loan_13 : decode cX4_loan 13 = .ok (.invokespecial 70, 3) := by decide +kernel
theorem dX4_loan_16 : decode cX4_loan 16 = .ok (.athrow, 1) := by decide +kernel
theorem dX4_loan_17 : decode cX4_loan 17 = .ok (.iload_n 2, 1) := by decide +kernel
theorem dX4_loan_18 : decode cX4_loan 18 = .ok (.iconst 1, 1) := by decide +kernel
theorem dX4_loan_19 : decode cX4_loan 19 = .ok (.ldc 122, 2) := by decide +kernel
theorem dX4_loan_21 : decode cX4_loan 21 = .ok (.invokestatic 42, 3) := by decide +kernel
theorem dX4_loan_24 : decode cX4_loan 24 = .ok (.ifCond .ne 11, 3) := by decide +kernel
theorem dX4_loan_27 : decode cX4_loan 27 = .ok (.new 52, 3) := by decide +kernel
theorem dX4_loan_30 : decode cX4_loan 30 = .ok (.dup, 1) := by decide +kernel
theorem dX4_loan_31 : decode cX4_loan 31 = .ok (.invokespecial 54, 3) := by decide +kernel
theorem dX4_loan_34 : decode cX4_loan 34 = .ok (.athrow, 1) := by decide +kernel
theorem dX4_loan_35 : decode cX4_loan 35 = .ok (.aload_n 0, 1) := by decide +kernel
theorem dX4_loan_36 : decode cX4_loan 36 = .ok (.getfield 31, 3) := by decide +kernel
theorem dX4_loan_39 : decode cX4_loan 39 = .ok (.getfield 135, 3) := by decide +kernel
theorem dX4_loan_42 : decode cX4_loan 42 = .ok (.bipush 10, 2) := by decide +kernel
theorem dX4_loan_44 : decode cX4_loan 44 = .ok (.if_icmp .lt 11, 3) := by decide +kernel
theorem dX4_loan_47 : decode cX4_loan 47 = .ok (.new 58, 3) := by decide +kernel
theorem dX4_loan_50 : decode cX4_loan 50 = .ok (.dup, 1) := by decide +kernel
theorem dX4_loan_51 : decode cX4_loan 51 = .ok (.invokespecial 60, 3) := by decide +kernel
theorem dX4_loan_54 : decode cX4_loan 54 = .ok (.athrow, 1) := by decide +kernel
theorem dX4_loan_55 : decode cX4_loan 55 = .ok (.aload_n 0, 1) := by decide +kernel
theorem dX4_loan_56 : decode cX4_loan 56 = .ok (.getfield 31, 3) := by decide +kernel
theorem dX4_loan_59 : decode cX4_loan 59 = .ok (.iload_n 1, 1) := by decide +kernel
theorem dX4_loan_60 : decode cX4_loan 60 = .ok (.iload_n 2, 1) := by decide +kernel
theorem dX4_loan_61 : decode cX4_loan 61 = .ok (.invokevirtual 138, 3) := by decide +kernel
theorem dX4_loan_64 : decode cX4_loan 64 = .ok (.ireturn, 1) := by decide +kernel
theorem dX4_part_0 : decode cX4_part 0 = .ok (.iload_n 1, 1) := by decide +kernel
theorem dX4_part_1 : decode cX4_part 1 = .ok (.iconst (-1), 1) := by decide +kernel
theorem dX4_part_2 : decode cX4_part 2 = .ok (.aload_n 0, 1) := by decide +kernel
theorem dX4_part_3 : decode cX4_part 3 = .ok (.getfield 31, 3) := by decide +kernel
theorem dX4_part_6 : decode cX4_part 6 = .ok (.getfield 141, 3) := by decide +kernel
theorem dX4_part_9 : decode cX4_part 9 = .ok (.iconst 1, 1) := by decide +kernel
theorem dX4_part_10 : decode cX4_part 10 = .ok (.isub, 1) := by decide +kernel
theorem dX4_part_11 : decode cX4_part 11 = .ok (.invokestatic 42, 3) := by decide +kernel
theorem dX4_part_14 : decode cX4_part 14 = .ok (.ifCond .eq 12, 3) := by decide +kernel
theorem dX4_part_17 : decode cX4_part 17 = .ok (.iload_n 2, 1) := by decide +kernel
theorem dX4_part_18 : decode cX4_part 18 = .ok (.iconst 0, 1) := by decide +kernel
theorem dX4_part_19 : decode cX4_part 19 = .ok (.iconst 5, 1) := by decide +kernel
theorem dX4_part_20 : decode cX4_part 20 = .ok (.invokestatic 42, 3) := by decide +kernel
theorem dX4_part_23 : decode cX4_part 23 = .ok (.ifCond .ne 11, 3) := by decide +kernel
theorem dX4_part_26 : decode cX4_part 26 = .ok (.new 68, 3) := by decide +kernel
theorem dX4_part_29 : decode cX4_part 29 = .ok (.dup, 1) := by decide +kernel
theorem dX4_part_30 : decode cX4_part 30 = .ok (.invokespecial 70, 3) := by decide +kernel
theorem dX4_part_33 : decode cX4_part 33 = .ok (.athrow, 1) := by decide +kernel
theorem dX4_part_34 : decode cX4_part 34 = .ok (.iload_n 3, 1) := by decide +kernel
theorem dX4_part_35 : decode cX4_part 35 = .ok (.iconst 1, 1) := by decide +kernel
theorem dX4_part_36 : decode cX4_part 36 = .ok (.bipush 100, 2) := by decide +kernel
theorem dX4_part_38 : decode cX4_part 38 = .ok (.invokestatic 42, 3) := by decide +kernel
theorem dX4_part_41 : decode cX4_part 41 = .ok (.ifCond .ne 11, 3) := by decide +kernel
theorem dX4_part_44 : decode cX4_part 44 = .ok (.new 52, 3) := by decide +kernel
theorem dX4_part_47 : decode cX4_part 47 = .ok (.dup, 1) := by decide +kernel
theorem dX4_part_48 : decode cX4_part 48 = .ok (.invokespecial 54, 3) := by decide +kernel
theorem dX4_part_51 : decode cX4_part 51 = .ok (.athrow, 1) := by decide +kernel
theorem dX4_part_52 : decode cX4_part 52 = .ok (.aload_n 0, 1) := by decide +kernel
theorem dX4_part_53 : decode cX4_part 53 = .ok (.getfield 31, 3) := by decide +kernel
theorem dX4_part_56 : decode cX4_part 56 = .ok (.getfield 141, 3) := by decide +kernel
theorem dX4_part_59 : decode cX4_part 59 = .ok (.bipush 12, 2) := by decide +kernel
theorem dX4_part_61 : decode cX4_part 61 = .ok (.if_icmp .ge 18, 3) := by decide +kernel
theorem dX4_part_64 : decode cX4_part 64 = .ok (.aload_n 0, 1) := by decide +kernel
theorem dX4_part_65 : decode cX4_part 65 = .ok (.getfield 31, 3) := by decide +kernel
theorem dX4_part_68 : decode cX4_part 68 = .ok (.iload_n 1, 1) := by decide +kernel
theorem dX4_part_69 : decode cX4_part 69 = .ok (.invokevirtual 144, 3) := by decide +kernel
theorem dX4_part_72 : decode cX4_part 72 = .ok (.iload_n 3, 1) := by decide +kernel
theorem dX4_part_73 : decode cX4_part 73 = .ok (.iadd, 1) := by decide +kernel
theorem dX4_part_74 : decode cX4_part 74 = .ok (.bipush 100, 2) := by decide +kernel
theorem dX4_part_76 : decode cX4_part 76 = .ok (.if_icmp .le 11, 3) := by decide +kernel
theorem dX4_part_79 : decode cX4_part 79 = .ok (.new 58, 3) := by decide +kernel
theorem dX4_part_82 : decode cX4_part 82 = .ok (.dup, 1) := by decide +kernel
theorem dX4_part_83 : decode cX4_part 83 = .ok (.invokespecial 60, 3) := by decide +kernel
theorem dX4_part_86 : decode cX4_part 86 = .ok (.athrow, 1) := by decide +kernel
theorem dX4_part_87 : decode cX4_part 87 = .ok (.aload_n 0, 1) := by decide +kernel
theorem dX4_part_88 : decode cX4_part 88 = .ok (.getfield 31, 3) := by decide +kernel
theorem dX4_part_91 : decode cX4_part 91 = .ok (.iload_n 1, 1) := by decide +kernel
theorem dX4_part_92 : decode cX4_part 92 = .ok (.iload_n 2, 1) := by decide +kernel
theorem dX4_part_93 : decode cX4_part 93 = .ok (.iload_n 3, 1) := by decide +kernel
theorem dX4_part_94 : decode cX4_part 94 = .ok (.invokevirtual 147, 3) := by decide +kernel
theorem dX4_part_97 : decode cX4_part 97 = .ok (.ireturn, 1) := by decide +kernel
theorem dX4_income_0 : decode cX4_income 0 = .ok (.iload_n 1, 1) := by decide +kernel
theorem dX4_income_1 : decode cX4_income 1 = .ok (.iconst 1, 1) := by decide +kernel
theorem dX4_income_2 : decode cX4_income 2 = .ok (.ldc 151, 2) := by decide +kernel
theorem dX4_income_4 : decode cX4_income 4 = .ok (.invokestatic 42, 3) := by decide +kernel
theorem dX4_income_7 : decode cX4_income 7 = .ok (.ifCond .ne 11, 3) := by decide +kernel
theorem dX4_income_10 : decode cX4_income 10 = .ok (.new 52, 3) := by decide +kernel
theorem dX4_income_13 : decode cX4_income 13 = .ok (.dup, 1) := by decide +kernel
theorem dX4_income_14 : decode cX4_income 14 = .ok (.invokespecial 54, 3) := by decide +kernel
theorem dX4_income_17 : decode cX4_income 17 = .ok (.athrow, 1) := by decide +kernel
theorem dX4_income_18 : decode cX4_income 18 = .ok (.aload_n 0, 1) := by decide +kernel
theorem dX4_income_19 : decode cX4_income 19 = .ok (.getfield 31, 3) := by decide +kernel
theorem dX4_income_22 : decode cX4_income 22 = .ok (.aload_n 0, 1) := by decide +kernel
theorem dX4_income_23 : decode cX4_income 23 = .ok (.getfield 24, 3) := by decide +kernel
theorem dX4_income_26 : decode cX4_income 26 = .ok (.iload_n 1, 1) := by decide +kernel
theorem dX4_income_27 : decode cX4_income 27 = .ok (.invokevirtual 152, 3) := by decide +kernel
theorem dX4_income_30 : decode cX4_income 30 = .ok (.invokevirtual 155, 3) := by decide +kernel
theorem dX4_income_33 : decode cX4_income 33 = .ok (.istore_n 2, 1) := by decide +kernel
theorem dX4_income_34 : decode cX4_income 34 = .ok (.aload_n 0, 1) := by decide +kernel
theorem dX4_income_35 : decode cX4_income 35 = .ok (.getfield 31, 3) := by decide +kernel
theorem dX4_income_38 : decode cX4_income 38 = .ok (.iload_n 2, 1) := by decide +kernel
theorem dX4_income_39 : decode cX4_income 39 = .ok (.invokevirtual 158, 3) := by decide +kernel
theorem dX4_income_42 : decode cX4_income 42 = .ok (.iload_n 2, 1) := by decide +kernel
theorem dX4_income_43 : decode cX4_income 43 = .ok (.ireturn, 1) := by decide +kernel
theorem dX4_today_0 : decode cX4_today 0 = .ok (.aload_n 0, 1) := by decide +kernel
theorem dX4_today_1 : decode cX4_today 1 = .ok (.getfield 10, 3) := by decide +kernel
theorem dX4_today_4 : decode cX4_today 4 = .ok (.getfield 107, 3) := by decide +kernel
theorem dX4_today_7 : decode cX4_today 7 = .ok (.ireturn, 1) := by decide +kernel
theorem dX4_shot_0 : decode cX4_shot 0 = .ok (.aload_n 0, 1) := by decide +kernel
theorem dX4_shot_1 : decode cX4_shot 1 = .ok (.getfield 20, 3) := by decide +kernel
theorem dX4_shot_4 : decode cX4_shot 4 = .ok (.getfield 161, 3) := by decide +kernel
theorem dX4_shot_7 : decode cX4_shot 7 = .ok (.ireturn, 1) := by decide +kernel
theorem dX4_days_0 : decode cX4_days 0 = .ok (.aload_n 0, 1) := by decide +kernel
theorem dX4_days_1 : decode cX4_days 1 = .ok (.getfield 10, 3) := by decide +kernel
theorem dX4_days_4 : decode cX4_days 4 = .ok (.invokevirtual 89, 3) := by decide +kernel
theorem dX4_days_7 : decode cX4_days 7 = .ok (.aload_n 0, 1) := by decide +kernel
theorem dX4_days_8 : decode cX4_days 8 = .ok (.getfield 10, 3) := by decide +kernel
theorem dX4_days_11 : decode cX4_days 11 = .ok (.getfield 164, 3) := by decide +kernel
theorem dX4_days_14 : decode cX4_days 14 = .ok (.ireturn, 1) := by decide +kernel
theorem dX4_daysByAll_0 : decode cX4_daysByAll 0 = .ok (.aload_n 0, 1) := by decide +kernel
theorem dX4_daysByAll_1 : decode cX4_daysByAll 1 = .ok (.getfield 20, 3) := by decide +kernel
theorem dX4_daysByAll_4 : decode cX4_daysByAll 4 = .ok (.invokevirtual 167, 3) := by decide +kernel
theorem dX4_daysByAll_7 : decode cX4_daysByAll 7 = .ok (.bipush 6, 2) := by decide +kernel
theorem dX4_daysByAll_9 : decode cX4_daysByAll 9 = .ok (.if_icmp .le 11, 3) := by decide +kernel
theorem dX4_daysByAll_12 : decode cX4_daysByAll 12 = .ok (.new 58, 3) := by decide +kernel
theorem dX4_daysByAll_15 : decode cX4_daysByAll 15 = .ok (.dup, 1) := by decide +kernel
theorem dX4_daysByAll_16 : decode cX4_daysByAll 16 = .ok (.invokespecial 60, 3) := by decide +kernel
theorem dX4_daysByAll_19 : decode cX4_daysByAll 19 = .ok (.athrow, 1) := by decide +kernel
theorem dX4_daysByAll_20 : decode cX4_daysByAll 20 = .ok (.aload_n 0, 1) := by decide +kernel
theorem dX4_daysByAll_21 : decode cX4_daysByAll 21 = .ok (.getfield 10, 3) := by decide +kernel
theorem dX4_daysByAll_24 : decode cX4_daysByAll 24 = .ok (.invokevirtual 170, 3) := by decide +kernel
theorem dX4_daysByAll_27 : decode cX4_daysByAll 27 = .ok (.ireturn, 1) := by decide +kernel
theorem dX4_planned_0 : decode cX4_planned 0 = .ok (.iload_n 1, 1) := by decide +kernel
theorem dX4_planned_1 : decode cX4_planned 1 = .ok (.iconst 0, 1) := by decide +kernel
theorem dX4_planned_2 : decode cX4_planned 2 = .ok (.aload_n 0, 1) := by decide +kernel
theorem dX4_planned_3 : decode cX4_planned 3 = .ok (.getfield 20, 3) := by decide +kernel
theorem dX4_planned_6 : decode cX4_planned 6 = .ok (.invokevirtual 167, 3) := by decide +kernel
theorem dX4_planned_9 : decode cX4_planned 9 = .ok (.iconst 1, 1) := by decide +kernel
theorem dX4_planned_10 : decode cX4_planned 10 = .ok (.isub, 1) := by decide +kernel
theorem dX4_planned_11 : decode cX4_planned 11 = .ok (.invokestatic 42, 3) := by decide +kernel
theorem dX4_planned_14 : decode cX4_planned 14 = .ok (.ifCond .ne 11, 3) := by decide +kernel
theorem dX4_planned_17 : decode cX4_planned 17 = .ok (.new 68, 3) := by decide +kernel
theorem dX4_planned_20 : decode cX4_planned 20 = .ok (.dup, 1) := by decide +kernel
theorem dX4_planned_21 : decode cX4_planned 21 = .ok (.invokespecial 70, 3) := by decide +kernel
theorem dX4_planned_24 : decode cX4_planned 24 = .ok (.athrow, 1) := by decide +kernel
theorem dX4_planned_25 : decode cX4_planned 25 = .ok (.aload_n 0, 1) := by decide +kernel
theorem dX4_planned_26 : decode cX4_planned 26 = .ok (.getfield 10, 3) := by decide +kernel
theorem dX4_planned_29 : decode cX4_planned 29 = .ok (.invokevirtual 89, 3) := by decide +kernel
theorem dX4_planned_32 : decode cX4_planned 32 = .ok (.aload_n 0, 1) := by decide +kernel
theorem dX4_planned_33 : decode cX4_planned 33 = .ok (.getfield 10, 3) := by decide +kernel
theorem dX4_planned_36 : decode cX4_planned 36 = .ok (.getfield 173, 3) := by decide +kernel
theorem dX4_planned_39 : decode cX4_planned 39 = .ok (.iload_n 1, 1) := by decide +kernel
theorem dX4_planned_40 : decode cX4_planned 40 = .ok (.invokestatic 131, 3) := by decide +kernel
theorem dX4_planned_43 : decode cX4_planned 43 = .ok (.ireturn, 1) := by decide +kernel
theorem dX4_begins_0 : decode cX4_begins 0 = .ok (.iload_n 1, 1) := by decide +kernel
theorem dX4_begins_1 : decode cX4_begins 1 = .ok (.iconst 0, 1) := by decide +kernel
theorem dX4_begins_2 : decode cX4_begins 2 = .ok (.aload_n 0, 1) := by decide +kernel
theorem dX4_begins_3 : decode cX4_begins 3 = .ok (.getfield 20, 3) := by decide +kernel
theorem dX4_begins_6 : decode cX4_begins 6 = .ok (.getfield 55, 3) := by decide +kernel
theorem dX4_begins_9 : decode cX4_begins 9 = .ok (.iconst 1, 1) := by decide +kernel
theorem dX4_begins_10 : decode cX4_begins 10 = .ok (.isub, 1) := by decide +kernel
theorem dX4_begins_11 : decode cX4_begins 11 = .ok (.invokestatic 42, 3) := by decide +kernel
theorem dX4_begins_14 : decode cX4_begins 14 = .ok (.ifCond .ne 11, 3) := by decide +kernel
theorem dX4_begins_17 : decode cX4_begins 17 = .ok (.new 68, 3) := by decide +kernel
theorem dX4_begins_20 : decode cX4_begins 20 = .ok (.dup, 1) := by decide +kernel
theorem dX4_begins_21 : decode cX4_begins 21 = .ok (.invokespecial 70, 3) := by decide +kernel
theorem dX4_begins_24 : decode cX4_begins 24 = .ok (.athrow, 1) := by decide +kernel
theorem dX4_begins_25 : decode cX4_begins 25 = .ok (.aload_n 0, 1) := by decide +kernel
theorem dX4_begins_26 : decode cX4_begins 26 = .ok (.getfield 10, 3) := by decide +kernel
theorem dX4_begins_29 : decode cX4_begins 29 = .ok (.invokevirtual 89, 3) := by decide +kernel
theorem dX4_begins_32 : decode cX4_begins 32 = .ok (.aload_n 0, 1) := by decide +kernel
theorem dX4_begins_33 : decode cX4_begins 33 = .ok (.getfield 10, 3) := by decide +kernel
theorem dX4_begins_36 : decode cX4_begins 36 = .ok (.getfield 176, 3) := by decide +kernel
theorem dX4_begins_39 : decode cX4_begins 39 = .ok (.iload_n 1, 1) := by decide +kernel
theorem dX4_begins_40 : decode cX4_begins 40 = .ok (.invokestatic 131, 3) := by decide +kernel
theorem dX4_begins_43 : decode cX4_begins 43 = .ok (.ireturn, 1) := by decide +kernel
theorem dX4_left_0 : decode cX4_left 0 = .ok (.iload_n 1, 1) := by decide +kernel
theorem dX4_left_1 : decode cX4_left 1 = .ok (.iconst 0, 1) := by decide +kernel
theorem dX4_left_2 : decode cX4_left 2 = .ok (.iconst 3, 1) := by decide +kernel
theorem dX4_left_3 : decode cX4_left 3 = .ok (.invokestatic 42, 3) := by decide +kernel
theorem dX4_left_6 : decode cX4_left 6 = .ok (.ifCond .ne 11, 3) := by decide +kernel
theorem dX4_left_9 : decode cX4_left 9 = .ok (.new 68, 3) := by decide +kernel
theorem dX4_left_12 : decode cX4_left 12 = .ok (.dup, 1) := by decide +kernel
theorem dX4_left_13 : decode cX4_left 13 = .ok (.invokespecial 70, 3) := by decide +kernel
theorem dX4_left_16 : decode cX4_left 16 = .ok (.athrow, 1) := by decide +kernel
theorem dX4_left_17 : decode cX4_left 17 = .ok (.aload_n 0, 1) := by decide +kernel
theorem dX4_left_18 : decode cX4_left 18 = .ok (.getfield 24, 3) := by decide +kernel
theorem dX4_left_21 : decode cX4_left 21 = .ok (.getfield 123, 3) := by decide +kernel
theorem dX4_left_24 : decode cX4_left 24 = .ok (.iload_n 1, 1) := by decide +kernel
theorem dX4_left_25 : decode cX4_left 25 = .ok (.invokestatic 131, 3) := by decide +kernel
theorem dX4_left_28 : decode cX4_left 28 = .ok (.ireturn, 1) := by decide +kernel
theorem dX4_fee_0 : decode cX4_fee 0 = .ok (.aload_n 0, 1) := by decide +kernel
theorem dX4_fee_1 : decode cX4_fee 1 = .ok (.getfield 24, 3) := by decide +kernel
theorem dX4_fee_4 : decode cX4_fee 4 = .ok (.getfield 104, 3) := by decide +kernel
theorem dX4_fee_7 : decode cX4_fee 7 = .ok (.ireturn, 1) := by decide +kernel
theorem dX4_costs_0 : decode cX4_costs 0 = .ok (.aload_n 0, 1) := by decide +kernel
theorem dX4_costs_1 : decode cX4_costs 1 = .ok (.getfield 24, 3) := by decide +kernel
theorem dX4_costs_4 : decode cX4_costs 4 = .ok (.getfield 179, 3) := by decide +kernel
theorem dX4_costs_7 : decode cX4_costs 7 = .ok (.ireturn, 1) := by decide +kernel
theorem dX4_open_0 : decode cX4_open 0 = .ok (.aload_n 0, 1) := by decide +kernel
theorem dX4_open_1 : decode cX4_open 1 = .ok (.getfield 24, 3) := by decide +kernel
theorem dX4_open_4 : decode cX4_open 4 = .ok (.getfield 182, 3) := by decide +kernel
theorem dX4_open_7 : decode cX4_open 7 = .ok (.ireturn, 1) := by decide +kernel
theorem dX4_openOf_0 : decode cX4_openOf 0 = .ok (.iload_n 1, 1) := by decide +kernel
theorem dX4_openOf_1 : decode cX4_openOf 1 = .ok (.iconst 0, 1) := by decide +kernel
theorem dX4_openOf_2 : decode cX4_openOf 2 = .ok (.aload_n 0, 1) := by decide +kernel
theorem dX4_openOf_3 : decode cX4_openOf 3 = .ok (.getfield 31, 3) := by decide +kernel
theorem dX4_openOf_6 : decode cX4_openOf 6 = .ok (.getfield 135, 3) := by decide +kernel
theorem dX4_openOf_9 : decode cX4_openOf 9 = .ok (.iconst 1, 1) := by decide +kernel
theorem dX4_openOf_10 : decode cX4_openOf 10 = .ok (.isub, 1) := by decide +kernel
theorem dX4_openOf_11 : decode cX4_openOf 11 = .ok (.invokestatic 42, 3) := by decide +kernel
theorem dX4_openOf_14 : decode cX4_openOf 14 = .ok (.ifCond .ne 11, 3) := by decide +kernel
theorem dX4_openOf_17 : decode cX4_openOf 17 = .ok (.new 68, 3) := by decide +kernel
theorem dX4_openOf_20 : decode cX4_openOf 20 = .ok (.dup, 1) := by decide +kernel
theorem dX4_openOf_21 : decode cX4_openOf 21 = .ok (.invokespecial 70, 3) := by decide +kernel
theorem dX4_openOf_24 : decode cX4_openOf 24 = .ok (.athrow, 1) := by decide +kernel
theorem dX4_openOf_25 : decode cX4_openOf 25 = .ok (.aload_n 0, 1) := by decide +kernel
theorem dX4_openOf_26 : decode cX4_openOf 26 = .ok (.getfield 31, 3) := by decide +kernel
theorem dX4_openOf_29 : decode cX4_openOf 29 = .ok (.getfield 185, 3) := by decide +kernel
theorem dX4_openOf_32 : decode cX4_openOf 32 = .ok (.iload_n 1, 1) := by decide +kernel
theorem dX4_openOf_33 : decode cX4_openOf 33 = .ok (.invokestatic 131, 3) := by decide +kernel
theorem dX4_openOf_36 : decode cX4_openOf 36 = .ok (.ireturn, 1) := by decide +kernel
theorem dX4_got_0 : decode cX4_got 0 = .ok (.iload_n 1, 1) := by decide +kernel
theorem dX4_got_1 : decode cX4_got 1 = .ok (.iconst 0, 1) := by decide +kernel
theorem dX4_got_2 : decode cX4_got 2 = .ok (.iconst 5, 1) := by decide +kernel
theorem dX4_got_3 : decode cX4_got 3 = .ok (.invokestatic 42, 3) := by decide +kernel
theorem dX4_got_6 : decode cX4_got 6 = .ok (.ifCond .ne 11, 3) := by decide +kernel
theorem dX4_got_9 : decode cX4_got 9 = .ok (.new 68, 3) := by decide +kernel
theorem dX4_got_12 : decode cX4_got 12 = .ok (.dup, 1) := by decide +kernel
theorem dX4_got_13 : decode cX4_got 13 = .ok (.invokespecial 70, 3) := by decide +kernel
theorem dX4_got_16 : decode cX4_got 16 = .ok (.athrow, 1) := by decide +kernel
theorem dX4_got_17 : decode cX4_got 17 = .ok (.aload_n 0, 1) := by decide +kernel
theorem dX4_got_18 : decode cX4_got 18 = .ok (.getfield 31, 3) := by decide +kernel
theorem dX4_got_21 : decode cX4_got 21 = .ok (.getfield 188, 3) := by decide +kernel
theorem dX4_got_24 : decode cX4_got 24 = .ok (.iload_n 1, 1) := by decide +kernel
theorem dX4_got_25 : decode cX4_got 25 = .ok (.invokestatic 131, 3) := by decide +kernel
theorem dX4_got_28 : decode cX4_got 28 = .ok (.ireturn, 1) := by decide +kernel
theorem dX4_house_0 : decode cX4_house 0 = .ok (.aload_n 0, 1) := by decide +kernel
theorem dX4_house_1 : decode cX4_house 1 = .ok (.getfield 31, 3) := by decide +kernel
theorem dX4_house_4 : decode cX4_house 4 = .ok (.getfield 191, 3) := by decide +kernel
theorem dX4_house_7 : decode cX4_house 7 = .ok (.ireturn, 1) := by decide +kernel
theorem dX4_isWithin_0 : decode cX4_isWithin 0 = .ok (.iload_n 0, 1) := by decide +kernel
theorem dX4_isWithin_1 : decode cX4_isWithin 1 = .ok (.iload_n 1, 1) := by decide +kernel
theorem dX4_isWithin_2 : decode cX4_isWithin 2 = .ok (.if_icmp .lt 12, 3) := by decide +kernel
theorem dX4_isWithin_5 : decode cX4_isWithin 5 = .ok (.iload_n 0, 1) := by decide +kernel
theorem dX4_isWithin_6 : decode cX4_isWithin 6 = .ok (.iload_n 2, 1) := by decide +kernel
theorem dX4_isWithin_7 : decode cX4_isWithin 7 = .ok (.if_icmp .gt 7, 3) := by decide +kernel
theorem dX4_isWithin_10 : decode cX4_isWithin 10 = .ok (.iconst 1, 1) := by decide +kernel
theorem dX4_isWithin_11 : decode cX4_isWithin 11 = .ok (.goto 4, 3) := by decide +kernel
theorem dX4_isWithin_14 : decode cX4_isWithin 14 = .ok (.iconst 0, 1) := by decide +kernel
theorem dX4_isWithin_15 : decode cX4_isWithin 15 = .ok (.ireturn, 1) := by decide +kernel
theorem dX4_at_0 : decode cX4_at 0 = .ok (.iload_n 1, 1) := by decide +kernel
theorem dX4_at_1 : decode cX4_at 1 = .ok (.ifCond .lt 15, 3) := by decide +kernel
theorem dX4_at_4 : decode cX4_at 4 = .ok (.iload_n 1, 1) := by decide +kernel
theorem dX4_at_5 : decode cX4_at 5 = .ok (.aload_n 0, 1) := by decide +kernel
theorem dX4_at_6 : decode cX4_at 6 = .ok (.arraylength, 1) := by decide +kernel
theorem dX4_at_7 : decode cX4_at 7 = .ok (.if_icmp .ge 9, 3) := by decide +kernel
theorem dX4_at_10 : decode cX4_at 10 = .ok (.aload_n 0, 1) := by decide +kernel
theorem dX4_at_11 : decode cX4_at 11 = .ok (.iload_n 1, 1) := by decide +kernel
theorem dX4_at_12 : decode cX4_at 12 = .ok (.iaload, 1) := by decide +kernel
theorem dX4_at_13 : decode cX4_at 13 = .ok (.goto 4, 3) := by decide +kernel
theorem dX4_at_16 : decode cX4_at 16 = .ok (.iconst 0, 1) := by decide +kernel
theorem dX4_at_17 : decode cX4_at 17 = .ok (.ireturn, 1) := by decide +kernel
theorem dX4_put_0 : decode cX4_put 0 = .ok (.iload_n 1, 1) := by decide +kernel
theorem dX4_put_1 : decode cX4_put 1 = .ok (.ifCond .lt 13, 3) := by decide +kernel
theorem dX4_put_4 : decode cX4_put 4 = .ok (.iload_n 1, 1) := by decide +kernel
theorem dX4_put_5 : decode cX4_put 5 = .ok (.aload_n 0, 1) := by decide +kernel
theorem dX4_put_6 : decode cX4_put 6 = .ok (.arraylength, 1) := by decide +kernel
theorem dX4_put_7 : decode cX4_put 7 = .ok (.if_icmp .ge 7, 3) := by decide +kernel
theorem dX4_put_10 : decode cX4_put 10 = .ok (.aload_n 0, 1) := by decide +kernel
theorem dX4_put_11 : decode cX4_put 11 = .ok (.iload_n 1, 1) := by decide +kernel
theorem dX4_put_12 : decode cX4_put 12 = .ok (.iload_n 2, 1) := by decide +kernel
theorem dX4_put_13 : decode cX4_put 13 = .ok (.iastore, 1) := by decide +kernel
theorem dX4_put_14 : decode cX4_put 14 = .ok (.return_, 1) := by decide +kernel
theorem dX4_add_0 : decode cX4_add 0 = .ok (.aload_n 0, 1) := by decide +kernel
theorem dX4_add_1 : decode cX4_add 1 = .ok (.iload_n 1, 1) := by decide +kernel
theorem dX4_add_2 : decode cX4_add 2 = .ok (.aload_n 0, 1) := by decide +kernel
theorem dX4_add_3 : decode cX4_add 3 = .ok (.iload_n 1, 1) := by decide +kernel
theorem dX4_add_4 : decode cX4_add 4 = .ok (.invokestatic 131, 3) := by decide +kernel
theorem dX4_add_7 : decode cX4_add 7 = .ok (.iload_n 2, 1) := by decide +kernel
theorem dX4_add_8 : decode cX4_add 8 = .ok (.iadd, 1) := by decide +kernel
theorem dX4_add_9 : decode cX4_add 9 = .ok (.invokestatic 194, 3) := by decide +kernel
theorem dX4_add_12 : decode cX4_add 12 = .ok (.return_, 1) := by decide +kernel
theorem dX4_isIn_0 : decode cX4_isIn 0 = .ok (.iload_n 0, 1) := by decide +kernel
theorem dX4_isIn_1 : decode cX4_isIn 1 = .ok (.iload_n 1, 1) := by decide +kernel
theorem dX4_isIn_2 : decode cX4_isIn 2 = .ok (.ishr, 1) := by decide +kernel
theorem dX4_isIn_3 : decode cX4_isIn 3 = .ok (.iconst 1, 1) := by decide +kernel
theorem dX4_isIn_4 : decode cX4_isIn 4 = .ok (.iand, 1) := by decide +kernel
theorem dX4_isIn_5 : decode cX4_isIn 5 = .ok (.ifCond .eq 7, 3) := by decide +kernel
theorem dX4_isIn_8 : decode cX4_isIn 8 = .ok (.iconst 1, 1) := by decide +kernel
theorem dX4_isIn_9 : decode cX4_isIn 9 = .ok (.goto 4, 3) := by decide +kernel
theorem dX4_isIn_12 : decode cX4_isIn 12 = .ok (.iconst 0, 1) := by decide +kernel
theorem dX4_isIn_13 : decode cX4_isIn 13 = .ok (.ireturn, 1) := by decide +kernel
theorem dX4_with_0 : decode cX4_with 0 = .ok (.iload_n 2, 1) := by decide +kernel
theorem dX4_with_1 : decode cX4_with 1 = .ok (.ifCond .eq 11, 3) := by decide +kernel
theorem dX4_with_4 : decode cX4_with 4 = .ok (.iload_n 0, 1) := by decide +kernel
theorem dX4_with_5 : decode cX4_with 5 = .ok (.iconst 1, 1) := by decide +kernel
theorem dX4_with_6 : decode cX4_with 6 = .ok (.iload_n 1, 1) := by decide +kernel
theorem dX4_with_7 : decode cX4_with 7 = .ok (.ishl, 1) := by decide +kernel
theorem dX4_with_8 : decode cX4_with 8 = .ok (.ior, 1) := by decide +kernel
theorem dX4_with_9 : decode cX4_with 9 = .ok (.goto 10, 3) := by decide +kernel
theorem dX4_with_12 : decode cX4_with 12 = .ok (.iload_n 0, 1) := by decide +kernel
theorem dX4_with_13 : decode cX4_with 13 = .ok (.iconst 1, 1) := by decide +kernel
theorem dX4_with_14 : decode cX4_with 14 = .ok (.iload_n 1, 1) := by decide +kernel
theorem dX4_with_15 : decode cX4_with 15 = .ok (.ishl, 1) := by decide +kernel
theorem dX4_with_16 : decode cX4_with 16 = .ok (.iconst (-1), 1) := by decide +kernel
theorem dX4_with_17 : decode cX4_with 17 = .ok (.ixor, 1) := by decide +kernel
theorem dX4_with_18 : decode cX4_with 18 = .ok (.iand, 1) := by decide +kernel
theorem dX4_with_19 : decode cX4_with 19 = .ok (.ireturn, 1) := by decide +kernel
theorem dJ6_bitCount_0f7a4_0 : decode cJ6_bitCount_0f7a4 0 = .ok (.iload_n 0, 1) := by decide +kernel
theorem dJ6_bitCount_0f7a4_1 : decode cJ6_bitCount_0f7a4 1 = .ok (.iload_n 0, 1) := by decide +kernel
theorem dJ6_bitCount_0f7a4_2 : decode cJ6_bitCount_0f7a4 2 = .ok (.iconst 1, 1) := by decide +kernel
theorem dJ6_bitCount_0f7a4_3 : decode cJ6_bitCount_0f7a4 3 = .ok (.iushr, 1) := by decide +kernel
theorem dJ6_bitCount_0f7a4_4 : decode cJ6_bitCount_0f7a4 4 = .ok (.ldc_w 265, 3) := by decide +kernel
theorem dJ6_bitCount_0f7a4_7 : decode cJ6_bitCount_0f7a4 7 = .ok (.iand, 1) := by decide +kernel
theorem dJ6_bitCount_0f7a4_8 : decode cJ6_bitCount_0f7a4 8 = .ok (.isub, 1) := by decide +kernel
theorem dJ6_bitCount_0f7a4_9 : decode cJ6_bitCount_0f7a4 9 = .ok (.istore_n 0, 1) := by decide +kernel
theorem dJ6_bitCount_0f7a4_10 : decode cJ6_bitCount_0f7a4 10 = .ok (.iload_n 0, 1) := by decide +kernel
theorem dJ6_bitCount_0f7a4_11 : decode cJ6_bitCount_0f7a4 11 = .ok (.ldc_w 266, 3) := by decide +kernel
theorem dJ6_bitCount_0f7a4_14 : decode cJ6_bitCount_0f7a4 14 = .ok (.iand, 1) := by decide +kernel
theorem dJ6_bitCount_0f7a4_15 : decode cJ6_bitCount_0f7a4 15 = .ok (.iload_n 0, 1) := by decide +kernel
theorem dJ6_bitCount_0f7a4_16 : decode cJ6_bitCount_0f7a4 16 = .ok (.iconst 2, 1) := by decide +kernel
theorem dJ6_bitCount_0f7a4_17 : decode cJ6_bitCount_0f7a4 17 = .ok (.iushr, 1) := by decide +kernel
theorem dJ6_bitCount_0f7a4_18 : decode cJ6_bitCount_0f7a4 18 = .ok (.ldc_w 266, 3) := by decide +kernel
theorem dJ6_bitCount_0f7a4_21 : decode cJ6_bitCount_0f7a4 21 = .ok (.iand, 1) := by decide +kernel
theorem dJ6_bitCount_0f7a4_22 : decode cJ6_bitCount_0f7a4 22 = .ok (.iadd, 1) := by decide +kernel
theorem dJ6_bitCount_0f7a4_23 : decode cJ6_bitCount_0f7a4 23 = .ok (.istore_n 0, 1) := by decide +kernel
theorem dJ6_bitCount_0f7a4_24 : decode cJ6_bitCount_0f7a4 24 = .ok (.iload_n 0, 1) := by decide +kernel
theorem dJ6_bitCount_0f7a4_25 : decode cJ6_bitCount_0f7a4 25 = .ok (.iload_n 0, 1) := by decide +kernel
theorem dJ6_bitCount_0f7a4_26 : decode cJ6_bitCount_0f7a4 26 = .ok (.iconst 4, 1) := by decide +kernel
theorem dJ6_bitCount_0f7a4_27 : decode cJ6_bitCount_0f7a4 27 = .ok (.iushr, 1) := by decide +kernel
theorem dJ6_bitCount_0f7a4_28 : decode cJ6_bitCount_0f7a4 28 = .ok (.iadd, 1) := by decide +kernel
theorem dJ6_bitCount_0f7a4_29 : decode cJ6_bitCount_0f7a4 29 = .ok (.ldc_w 267, 3) := by decide +kernel
theorem dJ6_bitCount_0f7a4_32 : decode cJ6_bitCount_0f7a4 32 = .ok (.iand, 1) := by decide +kernel
theorem dJ6_bitCount_0f7a4_33 : decode cJ6_bitCount_0f7a4 33 = .ok (.istore_n 0, 1) := by decide +kernel
theorem dJ6_bitCount_0f7a4_34 : decode cJ6_bitCount_0f7a4 34 = .ok (.iload_n 0, 1) := by decide +kernel
theorem dJ6_bitCount_0f7a4_35 : decode cJ6_bitCount_0f7a4 35 = .ok (.iload_n 0, 1) := by decide +kernel
theorem dJ6_bitCount_0f7a4_36 : decode cJ6_bitCount_0f7a4 36 = .ok (.bipush 8, 2) := by decide +kernel
theorem dJ6_bitCount_0f7a4_38 : decode cJ6_bitCount_0f7a4 38 = .ok (.iushr, 1) := by decide +kernel
theorem dJ6_bitCount_0f7a4_39 : decode cJ6_bitCount_0f7a4 39 = .ok (.iadd, 1) := by decide +kernel
theorem dJ6_bitCount_0f7a4_40 : decode cJ6_bitCount_0f7a4 40 = .ok (.istore_n 0, 1) := by decide +kernel
theorem dJ6_bitCount_0f7a4_41 : decode cJ6_bitCount_0f7a4 41 = .ok (.iload_n 0, 1) := by decide +kernel
theorem dJ6_bitCount_0f7a4_42 : decode cJ6_bitCount_0f7a4 42 = .ok (.iload_n 0, 1) := by decide +kernel
theorem dJ6_bitCount_0f7a4_43 : decode cJ6_bitCount_0f7a4 43 = .ok (.bipush 16, 2) := by decide +kernel
theorem dJ6_bitCount_0f7a4_45 : decode cJ6_bitCount_0f7a4 45 = .ok (.iushr, 1) := by decide +kernel
theorem dJ6_bitCount_0f7a4_46 : decode cJ6_bitCount_0f7a4 46 = .ok (.iadd, 1) := by decide +kernel
theorem dJ6_bitCount_0f7a4_47 : decode cJ6_bitCount_0f7a4 47 = .ok (.istore_n 0, 1) := by decide +kernel
theorem dJ6_bitCount_0f7a4_48 : decode cJ6_bitCount_0f7a4 48 = .ok (.iload_n 0, 1) := by decide +kernel
theorem dJ6_bitCount_0f7a4_49 : decode cJ6_bitCount_0f7a4 49 = .ok (.bipush 63, 2) := by decide +kernel
theorem dJ6_bitCount_0f7a4_51 : decode cJ6_bitCount_0f7a4 51 = .ok (.iand, 1) := by decide +kernel
theorem dJ6_bitCount_0f7a4_52 : decode cJ6_bitCount_0f7a4 52 = .ok (.ireturn, 1) := by decide +kernel
theorem dJ9_max_7cf53_0 : decode cJ9_max_7cf53 0 = .ok (.iload_n 0, 1) := by decide +kernel
theorem dJ9_max_7cf53_1 : decode cJ9_max_7cf53 1 = .ok (.iload_n 1, 1) := by decide +kernel
theorem dJ9_max_7cf53_2 : decode cJ9_max_7cf53 2 = .ok (.if_icmp .lt 7, 3) := by decide +kernel
theorem dJ9_max_7cf53_5 : decode cJ9_max_7cf53 5 = .ok (.iload_n 0, 1) := by decide +kernel
theorem dJ9_max_7cf53_6 : decode cJ9_max_7cf53 6 = .ok (.goto 4, 3) := by decide +kernel
theorem dJ9_max_7cf53_9 : decode cJ9_max_7cf53 9 = .ok (.iload_n 1, 1) := by decide +kernel
theorem dJ9_max_7cf53_10 : decode cJ9_max_7cf53 10 = .ok (.ireturn, 1) := by decide +kernel
theorem dJ9_min_7cf53_0 : decode cJ9_min_7cf53 0 = .ok (.iload_n 0, 1) := by decide +kernel
theorem dJ9_min_7cf53_1 : decode cJ9_min_7cf53 1 = .ok (.iload_n 1, 1) := by decide +kernel
theorem dJ9_min_7cf53_2 : decode cJ9_min_7cf53 2 = .ok (.if_icmp .gt 7, 3) := by decide +kernel
theorem dJ9_min_7cf53_5 : decode cJ9_min_7cf53 5 = .ok (.iload_n 0, 1) := by decide +kernel
theorem dJ9_min_7cf53_6 : decode cJ9_min_7cf53 6 = .ok (.goto 4, 3) := by decide +kernel
theorem dJ9_min_7cf53_9 : decode cJ9_min_7cf53 9 = .ok (.iload_n 1, 1) := by decide +kernel
theorem dJ9_min_7cf53_10 : decode cJ9_min_7cf53 10 = .ok (.ireturn, 1) := by decide +kernel
