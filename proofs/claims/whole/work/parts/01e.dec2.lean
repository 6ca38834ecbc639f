theorem dX9_lettersOfOthers_37 : decode cX9_lettersOfOthers 37 = .ok (.iconst 0, 1) := by decide +kernel
theorem dX9_lettersOfOthers_38 : decode cX9_lettersOfOthers 38 = .ok (.iadd, 1) := by decide +kernel
theorem dX9_lettersOfOthers_39 : decode cX9_lettersOfOthers 39 = .ok (.istore_n 2, 1) := by decide +kernel
theorem dX9_lettersOfOthers_40 : decode cX9_lettersOfOthers 40 = .ok (.iload_n 2, 1) := by decide +kernel
theorem dX9_lettersOfOthers_41 : decode cX9_lettersOfOthers 41 = .ok (.aload_n 0, 1) := by decide +kernel
theorem dX9_lettersOfOthers_42 : decode cX9_lettersOfOthers 42 = .ok (.getfield 12, 3) := by decide +kernel
theorem dX9_lettersOfOthers_45 : decode cX9_lettersOfOthers 45 = .ok (.getfield 75, 3) := by decide +kernel
theorem dX9_lettersOfOthers_48 : decode cX9_lettersOfOthers 48 = .ok (.iload_n 3, 1) := by decide +kernel
theorem dX9_lettersOfOthers_49 : decode cX9_lettersOfOthers 49 = .ok (.invokestatic 95, 3) := by decide +kernel
theorem dX9_lettersOfOthers_52 : decode cX9_lettersOfOthers 52 = .ok (.iload_n 1, 1) := by decide +kernel
theorem dX9_lettersOfOthers_53 : decode cX9_lettersOfOthers 53 = .ok (.if_icmp .ne 7, 3) := by decide +kernel
theorem dX9_lettersOfOthers_56 : decode cX9_lettersOfOthers 56 = .ok (.iconst 1, 1) := by decide +kernel
theorem dX9_lettersOfOthers_57 : decode cX9_lettersOfOthers 57 = .ok (.goto 4, 3) := by decide +kernel
theorem dX9_lettersOfOthers_60 : decode cX9_lettersOfOthers 60 = .ok (.iconst 0, 1) := by decide +kernel
theorem dX9_lettersOfOthers_61 : decode cX9_lettersOfOthers 61 = .ok (.iadd, 1) := by decide +kernel
theorem dX9_lettersOfOthers_62 : decode cX9_lettersOfOthers 62 = .ok (.istore_n 2, 1) := by decide +kernel
theorem dX9_lettersOfOthers_63 : decode cX9_lettersOfOthers 63 = .ok (.iinc 3 1, 3) := by decide +kernel
theorem dX9_lettersOfOthers_66 : decode cX9_lettersOfOthers 66 = .ok (.goto (-62), 3) := by decide +kernel
theorem dX9_lettersOfOthers_69 : decode cX9_lettersOfOthers 69 = .ok (.iload_n 2, 1) := by decide +kernel
theorem dX9_lettersOfOthers_70 : decode cX9_lettersOfOthers 70 = .ok (.ireturn, 1) := by decide +kernel
theorem dX9_wants_0 : decode cX9_wants 0 = .ok (.iconst 1, 1) := by decide +kernel
theorem dX9_wants_1 : decode cX9_wants 1 = .ok (.aload_n 0, 1) := by decide +kernel
theorem dX9_wants_2 : decode cX9_wants 2 = .ok (.getfield 56, 3) := by decide +kernel
theorem dX9_wants_5 : decode cX9_wants 5 = .ok (.ishl, 1) := by decide +kernel
theorem dX9_wants_6 : decode cX9_wants 6 = .ok (.iconst 1, 1) := by decide +kernel
theorem dX9_wants_7 : decode cX9_wants 7 = .ok (.isub, 1) := by decide +kernel
theorem dX9_wants_8 : decode cX9_wants 8 = .ok (.istore_n 2, 1) := by decide +kernel
theorem dX9_wants_9 : decode cX9_wants 9 = .ok (.iconst 0, 1) := by decide +kernel
theorem dX9_wants_10 : decode cX9_wants 10 = .ok (.istore_n 3, 1) := by decide +kernel
theorem dX9_wants_11 : decode cX9_wants 11 = .ok (.iload_n 3, 1) := by decide +kernel
theorem dX9_wants_12 : decode cX9_wants 12 = .ok (.iconst 1, 1) := by decide +kernel
theorem dX9_wants_13 : decode cX9_wants 13 = .ok (.aload_n 0, 1) := by decide +kernel
theorem dX9_wants_14 : decode cX9_wants 14 = .ok (.getfield 56, 3) := by decide +kernel
theorem dX9_wants_17 : decode cX9_wants 17 = .ok (.ishl, 1) := by decide +kernel
theorem dX9_wants_18 : decode cX9_wants 18 = .ok (.if_icmp .ge 22, 3) := by decide +kernel
theorem dX9_wants_21 : decode cX9_wants 21 = .ok (.aload_n 0, 1) := by decide +kernel
theorem dX9_wants_22 : decode cX9_wants 22 = .ok (.iload_n 1, 1) := by decide +kernel
theorem dX9_wants_23 : decode cX9_wants 23 = .ok (.iload_n 3, 1) := by decide +kernel
theorem dX9_wants_24 : decode cX9_wants 24 = .ok (.invokevirtual 113, 3) := by decide +kernel
theorem dX9_wants_27 : decode cX9_wants 27 = .ok (.ifCond .eq 7, 3) := by decide +kernel
theorem dX9_wants_30 : decode cX9_wants 30 = .ok (.iload_n 2, 1) := by decide +kernel
theorem dX9_wants_31 : decode cX9_wants 31 = .ok (.iload_n 3, 1) := by decide +kernel
theorem dX9_wants_32 : decode cX9_wants 32 = .ok (.iand, 1) := by decide +kernel
theorem dX9_wants_33 : decode cX9_wants 33 = .ok (.istore_n 2, 1) := by decide +kernel
theorem dX9_wants_34 : decode cX9_wants 34 = .ok (.iinc 3 1, 3) := by decide +kernel
theorem dX9_wants_37 : decode cX9_wants 37 = .ok (.goto (-26), 3) := by decide +kernel
theorem dX9_wants_40 : decode cX9_wants 40 = .ok (.iload_n 2, 1) := by decide +kernel
theorem dX9_wants_41 : decode cX9_wants 41 = .ok (.iconst 1, 1) := by decide +kernel
theorem dX9_wants_42 : decode cX9_wants 42 = .ok (.iload_n 1, 1) := by decide +kernel
theorem dX9_wants_43 : decode cX9_wants 43 = .ok (.ishl, 1) := by decide +kernel
theorem dX9_wants_44 : decode cX9_wants 44 = .ok (.iconst (-1), 1) := by decide +kernel
theorem dX9_wants_45 : decode cX9_wants 45 = .ok (.ixor, 1) := by decide +kernel
theorem dX9_wants_46 : decode cX9_wants 46 = .ok (.iand, 1) := by decide +kernel
theorem dX9_wants_47 : decode cX9_wants 47 = .ok (.ireturn, 1) := by decide +kernel
theorem dX10_init_0 : decode cX10_init 0 = .ok (.aload_n 0, 1) := by decide +kernel
theorem dX10_init_1 : decode cX10_init 1 = .ok (.iconst 4, 1) := by decide +kernel
theorem dX10_init_2 : decode cX10_init 2 = .ok (.invokespecial 1, 3) := by decide +kernel
theorem dX10_init_5 : decode cX10_init 5 = .ok (.return_, 1) := by decide +kernel
theorem dX10_isSpelt_0 : decode cX10_isSpelt 0 = .ok (.iload_n 1, 1) := by decide +kernel
theorem dX10_isSpelt_1 : decode cX10_isSpelt 1 = .ok (.ireturn, 1) := by decide +kernel
theorem dX11_init_0 : decode cX11_init 0 = .ok (.aload_n 0, 1) := by decide +kernel
theorem dX11_init_1 : decode cX11_init 1 = .ok (.invokespecial 1, 3) := by decide +kernel
theorem dX11_init_4 : decode cX11_init 4 = .ok (.aload_n 0, 1) := by decide +kernel
theorem dX11_init_5 : decode cX11_init 5 = .ok (.new 7, 3) := by decide +kernel
theorem dX11_init_8 : decode cX11_init 8 = .ok (.dup, 1) := by decide +kernel
theorem dX11_init_9 : decode cX11_init 9 = .ok (.invokespecial 9, 3) := by decide +kernel
theorem dX11_init_12 : decode cX11_init 12 = .ok (.putfield 10, 3) := by decide +kernel
theorem dX11_init_15 : decode cX11_init 15 = .ok (.aload_n 0, 1) := by decide +kernel
theorem dX11_init_16 : decode cX11_init 16 = .ok (.new 16, 3) := by decide +kernel
theorem dX11_init_19 : decode cX11_init 19 = .ok (.dup, 1) := by decide +kernel
theorem dX11_init_20 : decode cX11_init 20 = .ok (.invokespecial 18, 3) := by decide +kernel
theorem dX11_init_23 : decode cX11_init 23 = .ok (.putfield 19, 3) := by decide +kernel
theorem dX11_init_26 : decode cX11_init 26 = .ok (.aload_n 0, 1) := by decide +kernel
theorem dX11_init_27 : decode cX11_init 27 = .ok (.new 23, 3) := by decide +kernel
theorem dX11_init_30 : decode cX11_init 30 = .ok (.dup, 1) := by decide +kernel
theorem dX11_init_31 : decode cX11_init 31 = .ok (.invokespecial 25, 3) := by decide +kernel
theorem dX11_init_34 : decode cX11_init 34 = .ok (.putfield 26, 3) := by decide +kernel
theorem dX11_init_37 : decode cX11_init 37 = .ok (.aload_n 0, 1) := by decide +kernel
theorem dX11_init_38 : decode cX11_init 38 = .ok (.new 30, 3) := by decide +kernel
theorem dX11_init_41 : decode cX11_init 41 = .ok (.dup, 1) := by decide +kernel
theorem dX11_init_42 : decode cX11_init 42 = .ok (.invokespecial 32, 3) := by decide +kernel
theorem dX11_init_45 : decode cX11_init 45 = .ok (.putfield 33, 3) := by decide +kernel
theorem dX11_init_48 : decode cX11_init 48 = .ok (.aload_n 0, 1) := by decide +kernel
theorem dX11_init_49 : decode cX11_init 49 = .ok (.new 37, 3) := by decide +kernel
theorem dX11_init_52 : decode cX11_init 52 = .ok (.dup, 1) := by decide +kernel
theorem dX11_init_53 : decode cX11_init 53 = .ok (.invokespecial 39, 3) := by decide +kernel
theorem dX11_init_56 : decode cX11_init 56 = .ok (.putfield 40, 3) := by decide +kernel
theorem dX11_init_59 : decode cX11_init 59 = .ok (.aload_n 0, 1) := by decide +kernel
theorem dX11_init_60 : decode cX11_init 60 = .ok (.new 44, 3) := by decide +kernel
theorem dX11_init_63 : decode cX11_init 63 = .ok (.dup, 1) := by decide +kernel
theorem dX11_init_64 : decode cX11_init 64 = .ok (.invokespecial 46, 3) := by decide +kernel
theorem dX11_init_67 : decode cX11_init 67 = .ok (.putfield 47, 3) := by decide +kernel
theorem dX11_init_70 : decode cX11_init 70 = .ok (.return_, 1) := by decide +kernel
theorem dX11_letter_0 : decode cX11_letter 0 = .ok (.iload_n 1, 1) := by decide +kernel
theorem dX11_letter_1 : decode cX11_letter 1 = .ok (.bipush 32, 2) := by decide +kernel
theorem dX11_letter_3 : decode cX11_letter 3 = .ok (.if_icmp .lt 9, 3) := by decide +kernel
theorem dX11_letter_6 : decode cX11_letter 6 = .ok (.iload_n 1, 1) := by decide +kernel
theorem dX11_letter_7 : decode cX11_letter 7 = .ok (.bipush 126, 2) := by decide +kernel
theorem dX11_letter_9 : decode cX11_letter 9 = .ok (.if_icmp .le 6, 3) := by decide +kernel
theorem dX11_letter_12 : decode cX11_letter 12 = .ok (.bipush (-102), 2) := by decide +kernel
theorem dX11_letter_14 : decode cX11_letter 14 = .ok (.ireturn, 1) := by decide +kernel
theorem dX11_letter_15 : decode cX11_letter 15 = .ok (.aload_n 0, 1) := by decide +kernel
theorem dX11_letter_16 : decode cX11_letter 16 = .ok (.getfield 10, 3) := by decide +kernel
theorem dX11_letter_19 : decode cX11_letter 19 = .ok (.iload_n 1, 1) := by decide +kernel
theorem dX11_letter_20 : decode cX11_letter 20 = .ok (.invokevirtual 51, 3) := by decide +kernel
theorem dX11_letter_23 : decode cX11_letter 23 = .ok (.ifCond .eq 13, 3) := by decide +kernel
theorem dX11_letter_26 : decode cX11_letter 26 = .ok (.aload_n 0, 1) := by decide +kernel
theorem dX11_letter_27 : decode cX11_letter 27 = .ok (.getfield 10, 3) := by decide +kernel
theorem dX11_letter_30 : decode cX11_letter 30 = .ok (.getfield 55, 3) := by decide +kernel
theorem dX11_letter_33 : decode cX11_letter 33 = .ok (.goto 5, 3) := by decide +kernel
theorem dX11_letter_36 : decode cX11_letter 36 = .ok (.bipush (-104), 2) := by decide +kernel
theorem dX11_letter_38 : decode cX11_letter 38 = .ok (.ireturn, 1) := by decide +kernel
theorem dX11_blank_0 : decode cX11_blank 0 = .ok (.aload_n 0, 1) := by decide +kernel
theorem dX11_blank_1 : decode cX11_blank 1 = .ok (.getfield 10, 3) := by decide +kernel
theorem dX11_blank_4 : decode cX11_blank 4 = .ok (.getfield 55, 3) := by decide +kernel
theorem dX11_blank_7 : decode cX11_blank 7 = .ok (.istore_n 1, 1) := by decide +kernel
theorem dX11_blank_8 : decode cX11_blank 8 = .ok (.aload_n 0, 1) := by decide +kernel
theorem dX11_blank_9 : decode cX11_blank 9 = .ok (.getfield 10, 3) := by decide +kernel
theorem dX11_blank_12 : decode cX11_blank 12 = .ok (.iconst 0, 1) := by decide +kernel
theorem dX11_blank_13 : decode cX11_blank 13 = .ok (.putfield 55, 3) := by decide +kernel
theorem dX11_blank_16 : decode cX11_blank 16 = .ok (.iload_n 1, 1) := by decide +kernel
theorem dX11_blank_17 : decode cX11_blank 17 = .ok (.ireturn, 1) := by decide +kernel
theorem dX11_fault_0 : decode cX11_fault 0 = .ok (.aload_n 0, 1) := by decide +kernel
theorem dX11_fault_1 : decode cX11_fault 1 = .ok (.getfield 10, 3) := by decide +kernel
theorem dX11_fault_4 : decode cX11_fault 4 = .ok (.invokevirtual 59, 3) := by decide +kernel
theorem dX11_fault_7 : decode cX11_fault 7 = .ok (.ireturn, 1) := by decide +kernel
theorem dX11_town_0 : decode cX11_town 0 = .ok (.aload_n 0, 1) := by decide +kernel
theorem dX11_town_1 : decode cX11_town 1 = .ok (.getfield 10, 3) := by decide +kernel
theorem dX11_town_4 : decode cX11_town 4 = .ok (.invokevirtual 63, 3) := by decide +kernel
theorem dX11_town_7 : decode cX11_town 7 = .ok (.ifCond .ne 6, 3) := by decide +kernel
theorem dX11_town_10 : decode cX11_town 10 = .ok (.bipush (-103), 2) := by decide +kernel
theorem dX11_town_12 : decode cX11_town 12 = .ok (.ireturn, 1) := by decide +kernel
theorem dX11_town_13 : decode cX11_town 13 = .ok (.aload_n 0, 1) := by decide +kernel
theorem dX11_town_14 : decode cX11_town 14 = .ok (.getfield 19, 3) := by decide +kernel
theorem dX11_town_17 : decode cX11_town 17 = .ok (.aload_n 0, 1) := by decide +kernel
theorem dX11_town_18 : decode cX11_town 18 = .ok (.getfield 10, 3) := by decide +kernel
theorem dX11_town_21 : decode cX11_town 21 = .ok (.invokevirtual 67, 3) := by decide +kernel
theorem dX11_town_24 : decode cX11_town 24 = .ok (.aload_n 0, 1) := by decide +kernel
theorem dX11_town_25 : decode cX11_town 25 = .ok (.getfield 10, 3) := by decide +kernel
theorem dX11_town_28 : decode cX11_town 28 = .ok (.iconst 0, 1) := by decide +kernel
theorem dX11_town_29 : decode cX11_town 29 = .ok (.putfield 55, 3) := by decide +kernel
theorem dX11_town_32 : decode cX11_town 32 = .ok (.aload_n 0, 1) := by decide +kernel
theorem dX11_town_33 : decode cX11_town 33 = .ok (.dup, 1) := by decide +kernel
theorem dX11_town_34 : decode cX11_town 34 = .ok (.getfield 71, 3) := by decide +kernel
theorem dX11_town_37 : decode cX11_town 37 = .ok (.iconst 1, 1) := by decide +kernel
theorem dX11_town_38 : decode cX11_town 38 = .ok (.iadd, 1) := by decide +kernel
theorem dX11_town_39 : decode cX11_town 39 = .ok (.putfield 71, 3) := by decide +kernel
theorem dX11_town_42 : decode cX11_town 42 = .ok (.aload_n 0, 1) := by decide +kernel
theorem dX11_town_43 : decode cX11_town 43 = .ok (.getfield 19, 3) := by decide +kernel
theorem dX11_town_46 : decode cX11_town 46 = .ok (.getfield 74, 3) := by decide +kernel
theorem dX11_town_49 : decode cX11_town 49 = .ok (.ireturn, 1) := by decide +kernel
theorem dX11_about_0 : decode cX11_about 0 = .ok (.aload_n 0, 1) := by decide +kernel
theorem dX11_about_1 : decode cX11_about 1 = .ok (.getfield 19, 3) := by decide +kernel
theorem dX11_about_4 : decode cX11_about 4 = .ok (.iload_n 1, 1) := by decide +kernel
theorem dX11_about_5 : decode cX11_about 5 = .ok (.invokevirtual 77, 3) := by decide +kernel
theorem dX11_about_8 : decode cX11_about 8 = .ok (.ifCond .ne 6, 3) := by decide +kernel
theorem dX11_about_11 : decode cX11_about 11 = .ok (.bipush (-101), 2) := by decide +kernel
theorem dX11_about_13 : decode cX11_about 13 = .ok (.ireturn, 1) := by decide +kernel
theorem dX11_about_14 : decode cX11_about 14 = .ok (.iload_n 2, 1) := by decide +kernel
theorem dX11_about_15 : decode cX11_about 15 = .ok (.ifCond .lt 9, 3) := by decide +kernel
theorem dX11_about_18 : decode cX11_about 18 = .ok (.iload_n 2, 1) := by decide +kernel
theorem dX11_about_19 : decode cX11_about 19 = .ok (.bipush 9, 2) := by decide +kernel
theorem dX11_about_21 : decode cX11_about 21 = .ok (.if_icmp .lt 6, 3) := by decide +kernel
theorem dX11_about_24 : decode cX11_about 24 = .ok (.bipush (-102), 2) := by decide +kernel
theorem dX11_about_26 : decode cX11_about 26 = .ok (.ireturn, 1) := by decide +kernel
theorem dX11_about_27 : decode cX11_about 27 = .ok (.aload_n 0, 1) := by decide +kernel
theorem dX11_about_28 : decode cX11_about 28 = .ok (.iload_n 1, 1) := by decide +kernel
theorem dX11_about_29 : decode cX11_about 29 = .ok (.iload_n 2, 1) := by decide +kernel
theorem dX11_about_30 : decode cX11_about 30 = .ok (.invokevirtual 80, 3) := by decide +kernel
theorem dX11_about_33 : decode cX11_about 33 = .ok (.ireturn, 1) := by decide +kernel
theorem dX11_as_0 : decode cX11_as 0 = .ok (.aload_n 0, 1) := by decide +kernel
theorem dX11_as_1 : decode cX11_as 1 = .ok (.getfield 19, 3) := by decide +kernel
theorem dX11_as_4 : decode cX11_as 4 = .ok (.iload_n 1, 1) := by decide +kernel
theorem dX11_as_5 : decode cX11_as 5 = .ok (.invokevirtual 77, 3) := by decide +kernel
theorem dX11_as_8 : decode cX11_as 8 = .ok (.ifCond .ne 6, 3) := by decide +kernel
theorem dX11_as_11 : decode cX11_as 11 = .ok (.bipush (-101), 2) := by decide +kernel
theorem dX11_as_13 : decode cX11_as 13 = .ok (.ireturn, 1) := by decide +kernel
theorem dX11_as_14 : decode cX11_as 14 = .ok (.iload_n 2, 1) := by decide +kernel
theorem dX11_as_15 : decode cX11_as 15 = .ok (.ifCond .lt 8, 3) := by decide +kernel
theorem dX11_as_18 : decode cX11_as 18 = .ok (.iload_n 2, 1) := by decide +kernel
theorem dX11_as_19 : decode cX11_as 19 = .ok (.iconst 5, 1) := by decide +kernel
theorem dX11_as_20 : decode cX11_as 20 = .ok (.if_icmp .lt 6, 3) := by decide +kernel
theorem dX11_as_23 : decode cX11_as 23 = .ok (.bipush (-102), 2) := by decide +kernel
theorem dX11_as_25 : decode cX11_as 25 = .ok (.ireturn, 1) := by decide +kernel
theorem dX11_as_26 : decode cX11_as 26 = .ok (.aload_n 0, 1) := by decide +kernel
theorem dX11_as_27 : decode cX11_as 27 = .ok (.getfield 19, 3) := by decide +kernel
theorem dX11_as_30 : decode cX11_as 30 = .ok (.iload_n 1, 1) := by decide +kernel
theorem dX11_as_31 : decode cX11_as 31 = .ok (.invokevirtual 84, 3) := by decide +kernel
theorem dX11_as_34 : decode cX11_as 34 = .ok (.iload_n 2, 1) := by decide +kernel
theorem dX11_as_35 : decode cX11_as 35 = .ok (.invokestatic 88, 3) := by decide +kernel
theorem dX11_as_38 : decode cX11_as 38 = .ok (.ifCond .eq 7, 3) := by decide +kernel
theorem dX11_as_41 : decode cX11_as 41 = .ok (.iload_n 1, 1) := by decide +kernel
theorem dX11_as_42 : decode cX11_as 42 = .ok (.goto 4, 3) := by decide +kernel
theorem dX11_as_45 : decode cX11_as 45 = .ok (.iconst (-1), 1) := by decide +kernel
theorem dX11_as_46 : decode cX11_as 46 = .ok (.ireturn, 1) := by decide +kernel
theorem dX11_go_0 : decode cX11_go 0 = .ok (.aload_n 0, 1) := by decide +kernel
theorem dX11_go_1 : decode cX11_go 1 = .ok (.getfield 19, 3) := by decide +kernel
theorem dX11_go_4 : decode cX11_go 4 = .ok (.iload_n 1, 1) := by decide +kernel
theorem dX11_go_5 : decode cX11_go 5 = .ok (.invokevirtual 77, 3) := by decide +kernel
theorem dX11_go_8 : decode cX11_go 8 = .ok (.ifCond .ne 6, 3) := by decide +kernel
theorem dX11_go_11 : decode cX11_go 11 = .ok (.bipush (-101), 2) := by decide +kernel
theorem dX11_go_13 : decode cX11_go 13 = .ok (.ireturn, 1) := by decide +kernel
theorem dX11_go_14 : decode cX11_go 14 = .ok (.iload_n 2, 1) := by decide +kernel
theorem dX11_go_15 : decode cX11_go 15 = .ok (.ifCond .lt 8, 3) := by decide +kernel
theorem dX11_go_18 : decode cX11_go 18 = .ok (.iload_n 2, 1) := by decide +kernel
theorem dX11_go_19 : decode cX11_go 19 = .ok (.iconst 4, 1) := by decide +kernel
theorem dX11_go_20 : decode cX11_go 20 = .ok (.if_icmp .lt 6, 3) := by decide +kernel
theorem dX11_go_23 : decode cX11_go 23 = .ok (.bipush (-102), 2) := by decide +kernel
theorem dX11_go_25 : decode cX11_go 25 = .ok (.ireturn, 1) := by decide +kernel
theorem dX11_go_26 : decode cX11_go 26 = .ok (.aload_n 0, 1) := by decide +kernel
theorem dX11_go_27 : decode cX11_go 27 = .ok (.getfield 19, 3) := by decide +kernel
theorem dX11_go_30 : decode cX11_go 30 = .ok (.getfield 92, 3) := by decide +kernel
theorem dX11_go_33 : decode cX11_go 33 = .ok (.astore_n 3, 1) := by decide +kernel
theorem dX11_go_34 : decode cX11_go 34 = .ok (.aload_n 3, 1) := by decide +kernel
theorem dX11_go_35 : decode cX11_go 35 = .ok (.getfield 95, 3) := by decide +kernel
theorem dX11_go_38 : decode cX11_go 38 = .ok (.iload_n 1, 1) := by decide +kernel
theorem dX11_go_39 : decode cX11_go 39 = .ok (.invokestatic 98, 3) := by decide +kernel
theorem dX11_go_42 : decode cX11_go 42 = .ok (.istore 4, 2) := by decide +kernel
theorem dX11_go_44 : decode cX11_go 44 = .ok (.aload_n 3, 1) := by decide +kernel
theorem dX11_go_45 : decode cX11_go 45 = .ok (.aload_n 3, 1) := by decide +kernel
theorem dX11_go_46 : decode cX11_go 46 = .ok (.getfield 95, 3) := by decide +kernel
theorem dX11_go_49 : decode cX11_go 49 = .ok (.iload_n 1, 1) := by decide +kernel
theorem dX11_go_50 : decode cX11_go 50 = .ok (.iload_n 2, 1) := by decide +kernel
theorem dX11_go_51 : decode cX11_go 51 = .ok (.invokestatic 101, 3) := by decide +kernel
theorem dX11_go_54 : decode cX11_go 54 = .ok (.putfield 95, 3) := by decide +kernel
theorem dX11_go_57 : decode cX11_go 57 = .ok (.aload_n 3, 1) := by decide +kernel
theorem dX11_go_58 : decode cX11_go 58 = .ok (.dup, 1) := by decide +kernel
theorem dX11_go_59 : decode cX11_go 59 = .ok (.getfield 105, 3) := by decide +kernel
theorem dX11_go_62 : decode cX11_go 62 = .ok (.iconst 1, 1) := by decide +kernel
theorem dX11_go_63 : decode cX11_go 63 = .ok (.iadd, 1) := by decide +kernel
theorem dX11_go_64 : decode cX11_go 64 = .ok (.putfield 105, 3) := by decide +kernel
theorem dX11_go_67 : decode cX11_go 67 = .ok (.iload 4, 2) := by decide +kernel
theorem dX11_go_69 : decode cX11_go 69 = .ok (.ireturn, 1) := by decide +kernel
theorem dX11_sell_0 : decode cX11_sell 0 = .ok (.aload_n 0, 1) := by decide +kernel
theorem dX11_sell_1 : decode cX11_sell 1 = .ok (.getfield 19, 3) := by decide +kernel
theorem dX11_sell_4 : decode cX11_sell 4 = .ok (.iload_n 1, 1) := by decide +kernel
theorem dX11_sell_5 : decode cX11_sell 5 = .ok (.invokevirtual 77, 3) := by decide +kernel
theorem dX11_sell_8 : decode cX11_sell 8 = .ok (.ifCond .eq 14, 3) := by decide +kernel
theorem dX11_sell_11 : decode cX11_sell 11 = .ok (.aload_n 0, 1) := by decide +kernel
theorem dX11_sell_12 : decode cX11_sell 12 = .ok (.getfield 19, 3) := by decide +kernel
theorem dX11_sell_15 : decode cX11_sell 15 = .ok (.iload_n 3, 1) := by decide +kernel
theorem dX11_sell_16 : decode cX11_sell 16 = .ok (.invokevirtual 77, 3) := by decide +kernel
theorem dX11_sell_19 : decode cX11_sell 19 = .ok (.ifCond .ne 6, 3) := by decide +kernel
theorem dX11_sell_22 : decode cX11_sell 22 = .ok (.bipush (-101), 2) := by decide +kernel
theorem dX11_sell_24 : decode cX11_sell 24 = .ok (.ireturn, 1) := by decide +kernel
theorem dX11_sell_25 : decode cX11_sell 25 = .ok (.iload_n 2, 1) := by decide +kernel
theorem dX11_sell_26 : decode cX11_sell 26 = .ok (.ifCond .lt 8, 3) := by decide +kernel
theorem dX11_sell_29 : decode cX11_sell 29 = .ok (.iload_n 2, 1) := by decide +kernel
theorem dX11_sell_30 : decode cX11_sell 30 = .ok (.iconst 1, 1) := by decide +kernel
theorem dX11_sell_31 : decode cX11_sell 31 = .ok (.if_icmp .le 6, 3) := by decide +kernel
theorem dX11_sell_34 : decode cX11_sell 34 = .ok (.bipush (-102), 2) := by decide +kernel
theorem dX11_sell_36 : decode cX11_sell 36 = .ok (.ireturn, 1) := by decide +kernel
theorem dX11_sell_37 : decode cX11_sell 37 = .ok (.aload_n 0, 1) := by decide +kernel
theorem dX11_sell_38 : decode cX11_sell 38 = .ok (.getfield 19, 3) := by decide +kernel
theorem dX11_sell_41 : decode cX11_sell 41 = .ok (.getfield 92, 3) := by decide +kernel
theorem dX11_sell_44 : decode cX11_sell 44 = .ok (.astore 4, 2) := by decide +kernel
theorem dX11_sell_46 : decode cX11_sell 46 = .ok (.iload_n 2, 1) := by decide +kernel
theorem dX11_sell_47 : decode cX11_sell 47 = .ok (.ifCond .ne 11, 3) := by decide +kernel
theorem dX11_sell_50 : decode cX11_sell 50 = .ok (.aload 4, 2) := by decide +kernel
theorem dX11_sell_52 : decode cX11_sell 52 = .ok (.getfield 108, 3) := by decide +kernel
theorem dX11_sell_55 : decode cX11_sell 55 = .ok (.goto 8, 3) := by decide +kernel
theorem dX11_sell_58 : decode cX11_sell 58 = .ok (.aload 4, 2) := by decide +kernel
theorem dX11_sell_60 : decode cX11_sell 60 = .ok (.getfield 112, 3) := by decide +kernel
theorem dX11_sell_63 : decode cX11_sell 63 = .ok (.astore 5, 2) := by decide +kernel
theorem dX11_sell_65 : decode cX11_sell 65 = .ok (.aload 5, 2) := by decide +kernel
theorem dX11_sell_67 : decode cX11_sell 67 = .ok (.iload_n 1, 1) := by decide +kernel
theorem dX11_sell_68 : decode cX11_sell 68 = .ok (.invokestatic 115, 3) := by decide +kernel
theorem dX11_sell_71 : decode cX11_sell 71 = .ok (.istore 6, 2) := by decide +kernel
theorem dX11_sell_73 : decode cX11_sell 73 = .ok (.aload 5, 2) := by decide +kernel
theorem dX11_sell_75 : decode cX11_sell 75 = .ok (.iload_n 1, 1) := by decide +kernel
theorem dX11_sell_76 : decode cX11_sell 76 = .ok (.iload_n 3, 1) := by decide +kernel
theorem dX11_sell_77 : decode cX11_sell 77 = .ok (.invokestatic 119, 3) := by decide +kernel
theorem dX11_sell_80 : decode cX11_sell 80 = .ok (.aload 4, 2) := by decide +kernel
theorem dX11_sell_82 : decode cX11_sell 82 = .ok (.dup, 1) := by decide +kernel
theorem dX11_sell_83 : decode cX11_sell 83 = .ok (.getfield 123, 3) := by decide +kernel
theorem dX11_sell_86 : decode cX11_sell 86 = .ok (.iconst 1, 1) := by decide +kernel
theorem dX11_sell_87 : decode cX11_sell 87 = .ok (.iadd, 1) := by decide +kernel
theorem dX11_sell_88 : decode cX11_sell 88 = .ok (.putfield 123, 3) := by decide +kernel
theorem dX11_sell_91 : decode cX11_sell 91 = .ok (.iload 6, 2) := by decide +kernel
theorem dX11_sell_93 : decode cX11_sell 93 = .ok (.ireturn, 1) := by decide +kernel
theorem dX11_quarrel_0 : decode cX11_quarrel 0 = .ok (.aload_n 0, 1) := by decide +kernel
theorem dX11_quarrel_1 : decode cX11_quarrel 1 = .ok (.getfield 19, 3) := by decide +kernel
theorem dX11_quarrel_4 : decode cX11_quarrel 4 = .ok (.iload_n 1, 1) := by decide +kernel
theorem dX11_quarrel_5 : decode cX11_quarrel 5 = .ok (.invokevirtual 77, 3) := by decide +kernel
theorem dX11_quarrel_8 : decode cX11_quarrel 8 = .ok (.ifCond .eq 19, 3) := by decide +kernel
theorem dX11_quarrel_11 : decode cX11_quarrel 11 = .ok (.aload_n 0, 1) := by decide +kernel
theorem dX11_quarrel_12 : decode cX11_quarrel 12 = .ok (.getfield 19, 3) := by decide +kernel
theorem dX11_quarrel_15 : decode cX11_quarrel 15 = .ok (.iload_n 2, 1) := by decide +kernel
theorem dX11_quarrel_16 : decode cX11_quarrel 16 = .ok (.invokevirtual 77, 3) := by decide +kernel
theorem dX11_quarrel_19 : decode cX11_quarrel 19 = .ok (.ifCond .eq 8, 3) := by decide +kernel
theorem dX11_quarrel_22 : decode cX11_quarrel 22 = .ok (.iload_n 1, 1) := by decide +kernel
theorem dX11_quarrel_23 : decode cX11_quarrel 23 = .ok (.iload_n 2, 1) := by decide +kernel
theorem dX11_quarrel_24 : decode cX11_quarrel 24 = .ok (.if_icmp .ne 6, 3) := by decide +kernel
theorem dX11_quarrel_27 : decode cX11_quarrel 27 = .ok (.bipush (-101), 2) := by decide +kernel
theorem dX11_quarrel_29 : decode cX11_quarrel 29 = .ok (.ireturn, 1) := by decide +kernel
theorem dX11_quarrel_30 : decode cX11_quarrel 30 = .ok (.aload_n 0, 1) := by decide +kernel
theorem dX11_quarrel_31 : decode cX11_quarrel 31 = .ok (.getfield 19, 3) := by decide +kernel
theorem dX11_quarrel_34 : decode cX11_quarrel 34 = .ok (.getfield 92, 3) := by decide +kernel
theorem dX11_quarrel_37 : decode cX11_quarrel 37 = .ok (.astore 4, 2) := by decide +kernel
theorem dX11_quarrel_39 : decode cX11_quarrel 39 = .ok (.aload 4, 2) := by decide +kernel
theorem dX11_quarrel_41 : decode cX11_quarrel 41 = .ok (.getfield 126, 3) := by decide +kernel
theorem dX11_quarrel_44 : decode cX11_quarrel 44 = .ok (.iload_n 1, 1) := by decide +kernel
theorem dX11_quarrel_45 : decode cX11_quarrel 45 = .ok (.invokestatic 115, 3) := by decide +kernel
theorem dX11_quarrel_48 : decode cX11_quarrel 48 = .ok (.iload_n 2, 1) := by decide +kernel
theorem dX11_quarrel_49 : decode cX11_quarrel 49 = .ok (.ishr, 1) := by decide +kernel
theorem dX11_quarrel_50 : decode cX11_quarrel 50 = .ok (.iconst 1, 1) := by decide +kernel
theorem dX11_quarrel_51 : decode cX11_quarrel 51 = .ok (.iand, 1) := by decide +kernel
theorem dX11_quarrel_52 : decode cX11_quarrel 52 = .ok (.istore 5, 2) := by decide +kernel
theorem dX11_quarrel_54 : decode cX11_quarrel 54 = .ok (.aload 4, 2) := by decide +kernel
theorem dX11_quarrel_56 : decode cX11_quarrel 56 = .ok (.iload_n 1, 1) := by decide +kernel
theorem dX11_quarrel_57 : decode cX11_quarrel 57 = .ok (.iload_n 2, 1) := by decide +kernel
theorem dX11_quarrel_58 : decode cX11_quarrel 58 = .ok (.iload_n 3, 1) := by decide +kernel
theorem dX11_quarrel_59 : decode cX11_quarrel 59 = .ok (.invokevirtual 129, 3) := by decide +kernel
theorem dX11_quarrel_62 : decode cX11_quarrel 62 = .ok (.aload 4, 2) := by decide +kernel
theorem dX11_quarrel_64 : decode cX11_quarrel 64 = .ok (.iload_n 2, 1) := by decide +kernel
theorem dX11_quarrel_65 : decode cX11_quarrel 65 = .ok (.iload_n 1, 1) := by decide +kernel
theorem dX11_quarrel_66 : decode cX11_quarrel 66 = .ok (.iload_n 3, 1) := by decide +kernel
theorem dX11_quarrel_67 : decode cX11_quarrel 67 = .ok (.invokevirtual 129, 3) := by decide +kernel
theorem dX11_quarrel_70 : decode cX11_quarrel 70 = .ok (.iload 5, 2) := by decide +kernel
theorem dX11_quarrel_72 : decode cX11_quarrel 72 = .ok (.ireturn, 1) := by decide +kernel
theorem dX11_written_0 : decode cX11_written 0 = .ok (.aload_n 0, 1) := by decide +kernel
theorem dX11_written_1 : decode cX11_written 1 = .ok (.getfield 19, 3) := by decide +kernel
theorem dX11_written_4 : decode cX11_written 4 = .ok (.iload_n 1, 1) := by decide +kernel
theorem dX11_written_5 : decode cX11_written 5 = .ok (.invokevirtual 77, 3) := by decide +kernel
theorem dX11_written_8 : decode cX11_written 8 = .ok (.ifCond .ne 6, 3) := by decide +kernel
theorem dX11_written_11 : decode cX11_written 11 = .ok (.bipush (-101), 2) := by decide +kernel
theorem dX11_written_13 : decode cX11_written 13 = .ok (.ireturn, 1) := by decide +kernel
theorem dX11_written_14 : decode cX11_written 14 = .ok (.aload_n 0, 1) := by decide +kernel
theorem dX11_written_15 : decode cX11_written 15 = .ok (.getfield 19, 3) := by decide +kernel
theorem dX11_written_18 : decode cX11_written 18 = .ok (.iload_n 1, 1) := by decide +kernel
theorem dX11_written_19 : decode cX11_written 19 = .ok (.iload_n 2, 1) := by decide +kernel
theorem dX11_written_20 : decode cX11_written 20 = .ok (.invokevirtual 133, 3) := by decide +kernel
theorem dX11_written_23 : decode cX11_written 23 = .ok (.ifCond .ne 6, 3) := by decide +kernel
theorem dX11_written_26 : decode cX11_written 26 = .ok (.bipush (-102), 2) := by decide +kernel
theorem dX11_written_28 : decode cX11_written 28 = .ok (.ireturn, 1) := by decide +kernel
theorem dX11_written_29 : decode cX11_written 29 = .ok (.aload_n 0, 1) := by decide +kernel
theorem dX11_written_30 : decode cX11_written 30 = .ok (.getfield 19, 3) := by decide +kernel
theorem dX11_written_33 : decode cX11_written 33 = .ok (.iload_n 1, 1) := by decide +kernel
theorem dX11_written_34 : decode cX11_written 34 = .ok (.iload_n 2, 1) := by decide +kernel
theorem dX11_written_35 : decode cX11_written 35 = .ok (.invokevirtual 137, 3) := by decide +kernel
theorem dX11_written_38 : decode cX11_written 38 = .ok (.ifCond .eq 7, 3) := by decide +kernel
theorem dX11_written_41 : decode cX11_written 41 = .ok (.iconst 1, 1) := by decide +kernel
theorem dX11_written_42 : decode cX11_written 42 = .ok (.goto 4, 3) := by decide +kernel
theorem dX11_written_45 : decode cX11_written 45 = .ok (.iconst 0, 1) := by decide +kernel
theorem dX11_written_46 : decode cX11_written 46 = .ok (.ireturn, 1) := by decide +kernel
theorem dX11_moves_0 : decode cX11_moves 0 = .ok (.aload_n 0, 1) := by decide +kernel
theorem dX11_moves_1 : decode cX11_moves 1 = .ok (.getfield 19, 3) := by decide +kernel
theorem dX11_moves_4 : decode cX11_moves 4 = .ok (.iload_n 1, 1) := by decide +kernel
theorem dX11_moves_5 : decode cX11_moves 5 = .ok (.invokevirtual 77, 3) := by decide +kernel
theorem dX11_moves_8 : decode cX11_moves 8 = .ok (.ifCond .ne 6, 3) := by decide +kernel
theorem dX11_moves_11 : decode cX11_moves 11 = .ok (.bipush (-101), 2) := by decide +kernel
theorem dX11_moves_13 : decode cX11_moves 13 = .ok (.ireturn, 1) := by decide +kernel
theorem dX11_moves_14 : decode cX11_moves 14 = .ok (.iload_n 2, 1) := by decide +kernel
theorem dX11_moves_15 : decode cX11_moves 15 = .ok (.ifCond .eq 18, 3) := by decide +kernel
theorem dX11_moves_18 : decode cX11_moves 18 = .ok (.iload_n 2, 1) := by decide +kernel
theorem dX11_moves_19 : decode cX11_moves 19 = .ok (.bipush 10, 2) := by decide +kernel
theorem dX11_moves_21 : decode cX11_moves 21 = .ok (.if_icmp .lt 9, 3) := by decide +kernel
theorem dX11_moves_24 : decode cX11_moves 24 = .ok (.iload_n 2, 1) := by decide +kernel
theorem dX11_moves_25 : decode cX11_moves 25 = .ok (.bipush 15, 2) := by decide +kernel
theorem dX11_moves_27 : decode cX11_moves 27 = .ok (.if_icmp .lt 6, 3) := by decide +kernel
theorem dX11_moves_30 : decode cX11_moves 30 = .ok (.bipush (-102), 2) := by decide +kernel
theorem dX11_moves_32 : decode cX11_moves 32 = .ok (.ireturn, 1) := by decide +kernel
theorem dX11_moves_33 : decode cX11_moves 33 = .ok (.aload_n 0, 1) := by decide +kernel
theorem dX11_moves_34 : decode cX11_moves 34 = .ok (.getfield 140, 3) := by decide +kernel
theorem dX11_moves_37 : decode cX11_moves 37 = .ok (.bipush 40, 2) := by decide +kernel
theorem dX11_moves_39 : decode cX11_moves 39 = .ok (.if_icmp .lt 6, 3) := by decide +kernel
theorem dX11_moves_42 : decode cX11_moves 42 = .ok (.bipush (-103), 2) := by decide +kernel
theorem dX11_moves_44 : decode cX11_moves 44 = .ok (.ireturn, 1) := by decide +kernel
theorem dX11_moves_45 : decode cX11_moves 45 = .ok (.aload_n 0, 1) := by decide +kernel
theorem dX11_moves_46 : decode cX11_moves 46 = .ok (.dup, 1) := by decide +kernel
theorem dX11_moves_47 : decode cX11_moves 47 = .ok (.getfield 140, 3) := by decide +kernel
theorem dX11_moves_50 : decode cX11_moves 50 = .ok (.iconst 1, 1) := by decide +kernel
theorem dX11_moves_51 : decode cX11_moves 51 = .ok (.iadd, 1) := by decide +kernel
theorem dX11_moves_52 : decode cX11_moves 52 = .ok (.putfield 140, 3) := by decide +kernel
theorem dX11_moves_55 : decode cX11_moves 55 = .ok (.aload_n 0, 1) := by decide +kernel
theorem dX11_moves_56 : decode cX11_moves 56 = .ok (.getfield 33, 3) := by decide +kernel
theorem dX11_moves_59 : decode cX11_moves 59 = .ok (.aload_n 0, 1) := by decide +kernel
theorem dX11_moves_60 : decode cX11_moves 60 = .ok (.getfield 19, 3) := by decide +kernel
theorem dX11_moves_63 : decode cX11_moves 63 = .ok (.iload_n 1, 1) := by decide +kernel
theorem dX11_moves_64 : decode cX11_moves 64 = .ok (.invokevirtual 143, 3) := by decide +kernel
theorem dX11_moves_67 : decode cX11_moves 67 = .ok (.istore_n 3, 1) := by decide +kernel
theorem dX11_moves_68 : decode cX11_moves 68 = .ok (.iload_n 3, 1) := by decide +kernel
theorem dX11_moves_69 : decode cX11_moves 69 = .ok (.iconst (-1), 1) := by decide +kernel
theorem dX11_moves_70 : decode cX11_moves 70 = .ok (.if_icmp .eq 7, 3) := by decide +kernel
theorem dX11_moves_73 : decode cX11_moves 73 = .ok (.iload_n 2, 1) := by decide +kernel
theorem dX11_moves_74 : decode cX11_moves 74 = .ok (.ifCond .ne 5, 3) := by decide +kernel
theorem dX11_moves_77 : decode cX11_moves 77 = .ok (.iload_n 3, 1) := by decide +kernel
theorem dX11_moves_78 : decode cX11_moves 78 = .ok (.ireturn, 1) := by decide +kernel
theorem dX11_moves_79 : decode cX11_moves 79 = .ok (.aload_n 0, 1) := by decide +kernel
theorem dX11_moves_80 : decode cX11_moves 80 = .ok (.getfield 19, 3) := by decide +kernel
theorem dX11_moves_83 : decode cX11_moves 83 = .ok (.iload_n 2, 1) := by decide +kernel
theorem dX11_moves_84 : decode cX11_moves 84 = .ok (.bipush 10, 2) := by decide +kernel
theorem dX11_moves_86 : decode cX11_moves 86 = .ok (.isub, 1) := by decide +kernel
theorem dX11_moves_87 : decode cX11_moves 87 = .ok (.invokevirtual 77, 3) := by decide +kernel
theorem dX11_moves_90 : decode cX11_moves 90 = .ok (.ifCond .eq 20, 3) := by decide +kernel
theorem dX11_moves_93 : decode cX11_moves 93 = .ok (.aload_n 0, 1) := by decide +kernel
theorem dX11_moves_94 : decode cX11_moves 94 = .ok (.getfield 33, 3) := by decide +kernel
theorem dX11_moves_97 : decode cX11_moves 97 = .ok (.getfield 147, 3) := by decide +kernel
theorem dX11_moves_100 : decode cX11_moves 100 = .ok (.iload_n 2, 1) := by decide +kernel
theorem dX11_moves_101 : decode cX11_moves 101 = .ok (.bipush 10, 2) := by decide +kernel
theorem dX11_moves_103 : decode cX11_moves 103 = .ok (.isub, 1) := by decide +kernel
theorem dX11_moves_104 : decode cX11_moves 104 = .ok (.invokestatic 98, 3) := by decide +kernel
theorem dX11_moves_107 : decode cX11_moves 107 = .ok (.goto 4, 3) := by decide +kernel
theorem dX11_moves_110 : decode cX11_moves 110 = .ok (.iconst (-1), 1) := by decide +kernel
theorem dX11_moves_111 : decode cX11_moves 111 = .ok (.ireturn, 1) := by decide +kernel
theorem dX11_days_0 : decode cX11_days 0 = .ok (.aload_n 0, 1) := by decide +kernel
theorem dX11_days_1 : decode cX11_days 1 = .ok (.getfield 19, 3) := by decide +kernel
theorem dX11_days_4 : decode cX11_days 4 = .ok (.iload_n 1, 1) := by decide +kernel
theorem dX11_days_5 : decode cX11_days 5 = .ok (.invokevirtual 150, 3) := by decide +kernel
theorem dX11_days_8 : decode cX11_days 8 = .ok (.ifCond .ne 6, 3) := by decide +kernel
theorem dX11_days_11 : decode cX11_days 11 = .ok (.bipush (-102), 2) := by decide +kernel
theorem dX11_days_13 : decode cX11_days 13 = .ok (.ireturn, 1) := by decide +kernel
theorem dX11_days_14 : decode cX11_days 14 = .ok (.iload_n 2, 1) := by decide +kernel
theorem dX11_days_15 : decode cX11_days 15 = .ok (.ifCond .eq 18, 3) := by decide +kernel
theorem dX11_days_18 : decode cX11_days 18 = .ok (.iload_n 2, 1) := by decide +kernel
theorem dX11_days_19 : decode cX11_days 19 = .ok (.bipush 10, 2) := by decide +kernel
theorem dX11_days_21 : decode cX11_days 21 = .ok (.if_icmp .lt 9, 3) := by decide +kernel
theorem dX11_days_24 : decode cX11_days 24 = .ok (.iload_n 2, 1) := by decide +kernel
theorem dX11_days_25 : decode cX11_days 25 = .ok (.bipush 13, 2) := by decide +kernel
theorem dX11_days_27 : decode cX11_days 27 = .ok (.if_icmp .lt 6, 3) := by decide +kernel
theorem dX11_days_30 : decode cX11_days 30 = .ok (.bipush (-102), 2) := by decide +kernel
theorem dX11_days_32 : decode cX11_days 32 = .ok (.ireturn, 1) := by decide +kernel
theorem dX11_days_33 : decode cX11_days 33 = .ok (.aload_n 0, 1) := by decide +kernel
theorem dX11_days_34 : decode cX11_days 34 = .ok (.getfield 19, 3) := by decide +kernel
theorem dX11_days_37 : decode cX11_days 37 = .ok (.getfield 74, 3) := by decide +kernel
theorem dX11_days_40 : decode cX11_days 40 = .ok (.ifCond .eq 12, 3) := by decide +kernel
theorem dX11_days_43 : decode cX11_days 43 = .ok (.aload_n 0, 1) := by decide +kernel
theorem dX11_days_44 : decode cX11_days 44 = .ok (.getfield 153, 3) := by decide +kernel
theorem dX11_days_47 : decode cX11_days 47 = .ok (.bipush 40, 2) := by decide +kernel
theorem dX11_days_49 : decode cX11_days 49 = .ok (.if_icmp .lt 6, 3) := by decide +kernel
theorem dX11_days_52 : decode cX11_days 52 = .ok (.bipush (-103), 2) := by decide +kernel
theorem dX11_days_54 : decode cX11_days 54 = .ok (.ireturn, 1) := by decide +kernel
theorem dX11_days_55 : decode cX11_days 55 = .ok (.aload_n 0, 1) := by decide +kernel
theorem dX11_days_56 : decode cX11_days 56 = .ok (.dup, 1) := by decide +kernel
theorem dX11_days_57 : decode cX11_days 57 = .ok (.getfield 153, 3) := by decide +kernel
theorem dX11_days_60 : decode cX11_days 60 = .ok (.iconst 1, 1) := by decide +kernel
theorem dX11_days_61 : decode cX11_days 61 = .ok (.iadd, 1) := by decide +kernel
theorem dX11_days_62 : decode cX11_days 62 = .ok (.putfield 153, 3) := by decide +kernel
theorem dX11_days_65 : decode cX11_days 65 = .ok (.aload_n 0, 1) := by decide +kernel
theorem dX11_days_66 : decode cX11_days 66 = .ok (.getfield 33, 3) := by decide +kernel
theorem dX11_days_69 : decode cX11_days 69 = .ok (.aload_n 0, 1) := by decide +kernel
theorem dX11_days_70 : decode cX11_days 70 = .ok (.getfield 19, 3) := by decide +kernel
theorem dX11_days_73 : decode cX11_days 73 = .ok (.iload_n 1, 1) := by decide +kernel
theorem dX11_days_74 : decode cX11_days 74 = .ok (.invokevirtual 156, 3) := by decide +kernel
theorem dX11_days_77 : decode cX11_days 77 = .ok (.istore_n 3, 1) := by decide +kernel
theorem dX11_days_78 : decode cX11_days 78 = .ok (.iload_n 3, 1) := by decide +kernel
theorem dX11_days_79 : decode cX11_days 79 = .ok (.iconst (-1), 1) := by decide +kernel
theorem dX11_days_80 : decode cX11_days 80 = .ok (.if_icmp .eq 7, 3) := by decide +kernel
theorem dX11_days_83 : decode cX11_days 83 = .ok (.iload_n 2, 1) := by decide +kernel
theorem dX11_days_84 : decode cX11_days 84 = .ok (.ifCond .ne 5, 3) := by decide +kernel
theorem dX11_days_87 : decode cX11_days 87 = .ok (.iload_n 3, 1) := by decide +kernel
theorem dX11_days_88 : decode cX11_days 88 = .ok (.ireturn, 1) := by decide +kernel
theorem dX11_days_89 : decode cX11_days 89 = .ok (.iload_n 2, 1) := by decide +kernel
theorem dX11_days_90 : decode cX11_days 90 = .ok (.bipush 10, 2) := by decide +kernel
theorem dX11_days_92 : decode cX11_days 92 = .ok (.isub, 1) := by decide +kernel
theorem dX11_days_93 : decode cX11_days 93 = .ok (.iload_n 3, 1) := by decide +kernel
theorem dX11_days_94 : decode cX11_days 94 = .ok (.if_icmp .ge 20, 3) := by decide +kernel
theorem dX11_days_97 : decode cX11_days 97 = .ok (.aload_n 0, 1) := by decide +kernel
theorem dX11_days_98 : decode cX11_days 98 = .ok (.getfield 33, 3) := by decide +kernel
theorem dX11_days_101 : decode cX11_days 101 = .ok (.getfield 159, 3) := by decide +kernel
theorem dX11_days_104 : decode cX11_days 104 = .ok (.iload_n 2, 1) := by decide +kernel
theorem dX11_days_105 : decode cX11_days 105 = .ok (.bipush 10, 2) := by decide +kernel
theorem dX11_days_107 : decode cX11_days 107 = .ok (.isub, 1) := by decide +kernel
theorem dX11_days_108 : decode cX11_days 108 = .ok (.invokestatic 115, 3) := by decide +kernel
theorem dX11_days_111 : decode cX11_days 111 = .ok (.goto 4, 3) := by decide +kernel
theorem dX11_days_114 : decode cX11_days 114 = .ok (.iconst (-1), 1) := by decide +kernel
theorem dX11_days_115 : decode cX11_days 115 = .ok (.ireturn, 1) := by decide +kernel
theorem dX11_hear_0 : decode cX11_hear 0 = .ok (.aload_n 0, 1) := by decide +kernel
theorem dX11_hear_1 : decode cX11_hear 1 = .ok (.getfield 19, 3) := by decide +kernel
theorem dX11_hear_4 : decode cX11_hear 4 = .ok (.iload_n 1, 1) := by decide +kernel
theorem dX11_hear_5 : decode cX11_hear 5 = .ok (.invokevirtual 77, 3) := by decide +kernel
theorem dX11_hear_8 : decode cX11_hear 8 = .ok (.ifCond .ne 6, 3) := by decide +kernel
theorem dX11_hear_11 : decode cX11_hear 11 = .ok (.bipush (-101), 2) := by decide +kernel
theorem dX11_hear_13 : decode cX11_hear 13 = .ok (.ireturn, 1) := by decide +kernel
theorem dX11_hear_14 : decode cX11_hear 14 = .ok (.aload_n 0, 1) := by decide +kernel
theorem dX11_hear_15 : decode cX11_hear 15 = .ok (.getfield 19, 3) := by decide +kernel
theorem dX11_hear_18 : decode cX11_hear 18 = .ok (.iload_n 1, 1) := by decide +kernel
theorem dX11_hear_19 : decode cX11_hear 19 = .ok (.iload_n 2, 1) := by decide +kernel
theorem dX11_hear_20 : decode cX11_hear 20 = .ok (.invokevirtual 133, 3) := by decide +kernel
theorem dX11_hear_23 : decode cX11_hear 23 = .ok (.ifCond .ne 6, 3) := by decide +kernel
theorem dX11_hear_26 : decode cX11_hear 26 = .ok (.bipush (-102), 2) := by decide +kernel
theorem dX11_hear_28 : decode cX11_hear 28 = .ok (.ireturn, 1) := by decide +kernel
theorem dX11_hear_29 : decode cX11_hear 29 = .ok (.aload_n 0, 1) := by decide +kernel
theorem dX11_hear_30 : decode cX11_hear 30 = .ok (.getfield 19, 3) := by decide +kernel
theorem dX11_hear_33 : decode cX11_hear 33 = .ok (.getfield 92, 3) := by decide +kernel
theorem dX11_hear_36 : decode cX11_hear 36 = .ok (.astore 4, 2) := by decide +kernel
theorem dX11_hear_38 : decode cX11_hear 38 = .ok (.aload 4, 2) := by decide +kernel
theorem dX11_hear_40 : decode cX11_hear 40 = .ok (.getfield 162, 3) := by decide +kernel
theorem dX11_hear_43 : decode cX11_hear 43 = .ok (.bipush 6, 2) := by decide +kernel
theorem dX11_hear_45 : decode cX11_hear 45 = .ok (.if_icmp .lt 6, 3) := by decide +kernel
theorem dX11_hear_48 : decode cX11_hear 48 = .ok (.bipush (-104), 2) := by decide +kernel
theorem dX11_hear_50 : decode cX11_hear 50 = .ok (.ireturn, 1) := by decide +kernel
theorem dX11_hear_51 : decode cX11_hear 51 = .ok (.aload 4, 2) := by decide +kernel
theorem dX11_hear_53 : decode cX11_hear 53 = .ok (.iload_n 1, 1) := by decide +kernel
theorem dX11_hear_54 : decode cX11_hear 54 = .ok (.iload_n 2, 1) := by decide +kernel
theorem dX11_hear_55 : decode cX11_hear 55 = .ok (.iload_n 3, 1) := by decide +kernel
theorem dX11_hear_56 : decode cX11_hear 56 = .ok (.invokevirtual 165, 3) := by decide +kernel
theorem dX11_hear_59 : decode cX11_hear 59 = .ok (.aload 4, 2) := by decide +kernel
theorem dX11_hear_61 : decode cX11_hear 61 = .ok (.getfield 162, 3) := by decide +kernel
theorem dX11_hear_64 : decode cX11_hear 64 = .ok (.ireturn, 1) := by decide +kernel
theorem dX11_forget_0 : decode cX11_forget 0 = .ok (.aload_n 0, 1) := by decide +kernel
theorem dX11_forget_1 : decode cX11_forget 1 = .ok (.getfield 19, 3) := by decide +kernel
theorem dX11_forget_4 : decode cX11_forget 4 = .ok (.getfield 92, 3) := by decide +kernel
theorem dX11_forget_7 : decode cX11_forget 7 = .ok (.getfield 162, 3) := by decide +kernel
theorem dX11_forget_10 : decode cX11_forget 10 = .ok (.istore_n 1, 1) := by decide +kernel
theorem dX11_forget_11 : decode cX11_forget 11 = .ok (.aload_n 0, 1) := by decide +kernel
theorem dX11_forget_12 : decode cX11_forget 12 = .ok (.getfield 19, 3) := by decide +kernel
theorem dX11_forget_15 : decode cX11_forget 15 = .ok (.getfield 92, 3) := by decide +kernel
theorem dX11_forget_18 : decode cX11_forget 18 = .ok (.iconst 0, 1) := by decide +kernel
theorem dX11_forget_19 : decode cX11_forget 19 = .ok (.putfield 162, 3) := by decide +kernel
theorem dX11_forget_22 : decode cX11_forget 22 = .ok (.iload_n 1, 1) := by decide +kernel
theorem dX11_forget_23 : decode cX11_forget 23 = .ok (.ireturn, 1) := by decide +kernel
theorem dX11_holders_0 : decode cX11_holders 0 = .ok (.aload_n 0, 1) := by decide +kernel
theorem dX11_holders_1 : decode cX11_holders 1 = .ok (.getfield 19, 3) := by decide +kernel
theorem dX11_holders_4 : decode cX11_holders 4 = .ok (.iload_n 1, 1) := by decide +kernel
theorem dX11_holders_5 : decode cX11_holders 5 = .ok (.invokevirtual 77, 3) := by decide +kernel
theorem dX11_holders_8 : decode cX11_holders 8 = .ok (.ifCond .ne 6, 3) := by decide +kernel
theorem dX11_holders_11 : decode cX11_holders 11 = .ok (.bipush (-101), 2) := by decide +kernel
theorem dX11_holders_13 : decode cX11_holders 13 = .ok (.ireturn, 1) := by decide +kernel
theorem dX11_holders_14 : decode cX11_holders 14 = .ok (.iload_n 2, 1) := by decide +kernel
theorem dX11_holders_15 : decode cX11_holders 15 = .ok (.ifCond .lt 8, 3) := by decide +kernel
theorem dX11_holders_18 : decode cX11_holders 18 = .ok (.iload_n 2, 1) := by decide +kernel
theorem dX11_holders_19 : decode cX11_holders 19 = .ok (.iconst 1, 1) := by decide +kernel
theorem dX11_holders_20 : decode cX11_holders 20 = .ok (.if_icmp .le 6, 3) := by decide +kernel
theorem dX11_holders_23 : decode cX11_holders 23 = .ok (.bipush (-102), 2) := by decide +kernel
theorem dX11_holders_25 : decode cX11_holders 25 = .ok (.ireturn, 1) := by decide +kernel
theorem dX11_holders_26 : decode cX11_holders 26 = .ok (.aload_n 0, 1) := by decide +kernel
theorem dX11_holders_27 : decode cX11_holders 27 = .ok (.getfield 40, 3) := by decide +kernel
theorem dX11_holders_30 : decode cX11_holders 30 = .ok (.aload_n 0, 1) := by decide +kernel
theorem dX11_holders_31 : decode cX11_holders 31 = .ok (.getfield 19, 3) := by decide +kernel
theorem dX11_holders_34 : decode cX11_holders 34 = .ok (.iload_n 1, 1) := by decide +kernel
theorem dX11_holders_35 : decode cX11_holders 35 = .ok (.invokevirtual 168, 3) := by decide +kernel
theorem dX11_holders_38 : decode cX11_holders 38 = .ok (.iload_n 2, 1) := by decide +kernel
theorem dX11_holders_39 : decode cX11_holders 39 = .ok (.ifCond .ne 13, 3) := by decide +kernel
theorem dX11_holders_42 : decode cX11_holders 42 = .ok (.aload_n 0, 1) := by decide +kernel
theorem dX11_holders_43 : decode cX11_holders 43 = .ok (.getfield 40, 3) := by decide +kernel
theorem dX11_holders_46 : decode cX11_holders 46 = .ok (.getfield 172, 3) := by decide +kernel
theorem dX11_holders_49 : decode cX11_holders 49 = .ok (.goto 10, 3) := by decide +kernel
theorem dX11_holders_52 : decode cX11_holders 52 = .ok (.aload_n 0, 1) := by decide +kernel
theorem dX11_holders_53 : decode cX11_holders 53 = .ok (.getfield 40, 3) := by decide +kernel
theorem dX11_holders_56 : decode cX11_holders 56 = .ok (.invokevirtual 175, 3) := by decide +kernel
theorem dX11_holders_59 : decode cX11_holders 59 = .ok (.ireturn, 1) := by decide +kernel
theorem dX11_invite_0 : decode cX11_invite 0 = .ok (.aload_n 0, 1) := by decide +kernel
theorem dX11_invite_1 : decode cX11_invite 1 = .ok (.getfield 19, 3) := by decide +kernel
theorem dX11_invite_4 : decode cX11_invite 4 = .ok (.iload_n 1, 1) := by decide +kernel
theorem dX11_invite_5 : decode cX11_invite 5 = .ok (.invokevirtual 77, 3) := by decide +kernel
theorem dX11_invite_8 : decode cX11_invite 8 = .ok (.ifCond .ne 6, 3) := by decide +kernel
theorem dX11_invite_11 : decode cX11_invite 11 = .ok (.bipush (-101), 2) := by decide +kernel
theorem dX11_invite_13 : decode cX11_invite 13 = .ok (.ireturn, 1) := by decide +kernel
theorem dX11_invite_14 : decode cX11_invite 14 = .ok (.aload_n 0, 1) := by decide +kernel
theorem dX11_invite_15 : decode cX11_invite 15 = .ok (.getfield 40, 3) := by decide +kernel
theorem dX11_invite_18 : decode cX11_invite 18 = .ok (.aload_n 0, 1) := by decide +kernel
theorem dX11_invite_19 : decode cX11_invite 19 = .ok (.getfield 19, 3) := by decide +kernel
theorem dX11_invite_22 : decode cX11_invite 22 = .ok (.iload_n 1, 1) := by decide +kernel
theorem dX11_invite_23 : decode cX11_invite 23 = .ok (.invokevirtual 168, 3) := by decide +kernel
theorem dX11_invite_26 : decode cX11_invite 26 = .ok (.aload_n 0, 1) := by decide +kernel
theorem dX11_invite_27 : decode cX11_invite 27 = .ok (.getfield 40, 3) := by decide +kernel
theorem dX11_invite_30 : decode cX11_invite 30 = .ok (.aload_n 0, 1) := by decide +kernel
theorem dX11_invite_31 : decode cX11_invite 31 = .ok (.getfield 19, 3) := by decide +kernel
theorem dX11_invite_34 : decode cX11_invite 34 = .ok (.invokevirtual 178, 3) := by decide +kernel
theorem dX11_invite_37 : decode cX11_invite 37 = .ok (.ireturn, 1) := by decide +kernel
theorem dX11_years_0 : decode cX11_years 0 = .ok (.iload_n 1, 1) := by decide +kernel
theorem dX11_years_1 : decode cX11_years 1 = .ok (.iconst 1, 1) := by decide +kernel
theorem dX11_years_2 : decode cX11_years 2 = .ok (.if_icmp .lt 22, 3) := by decide +kernel
theorem dX11_years_5 : decode cX11_years 5 = .ok (.iload_n 1, 1) := by decide +kernel
theorem dX11_years_6 : decode cX11_years 6 = .ok (.bipush 60, 2) := by decide +kernel
theorem dX11_years_8 : decode cX11_years 8 = .ok (.if_icmp .gt 16, 3) := by decide +kernel
theorem dX11_years_11 : decode cX11_years 11 = .ok (.iload_n 2, 1) := by decide +kernel
theorem dX11_years_12 : decode cX11_years 12 = .ok (.ifCond .lt 12, 3) := by decide +kernel
theorem dX11_years_15 : decode cX11_years 15 = .ok (.iload_n 3, 1) := by decide +kernel
theorem dX11_years_16 : decode cX11_years 16 = .ok (.ifCond .lt 8, 3) := by decide +kernel
theorem dX11_years_19 : decode cX11_years 19 = .ok (.iload_n 3, 1) := by decide +kernel
theorem dX11_years_20 : decode cX11_years 20 = .ok (.iconst 2, 1) := by decide +kernel
theorem dX11_years_21 : decode cX11_years 21 = .ok (.if_icmp .le 6, 3) := by decide +kernel
theorem dX11_years_24 : decode cX11_years 24 = .ok (.bipush (-102), 2) := by decide +kernel
theorem dX11_years_26 : decode cX11_years 26 = .ok (.ireturn, 1) := by decide +kernel
theorem dX11_years_27 : decode cX11_years 27 = .ok (.aload_n 0, 1) := by decide +kernel
theorem dX11_years_28 : decode cX11_years 28 = .ok (.getfield 19, 3) := by decide +kernel
theorem dX11_years_31 : decode cX11_years 31 = .ok (.getfield 74, 3) := by decide +kernel
theorem dX11_years_34 : decode cX11_years 34 = .ok (.ifCond .ne 6, 3) := by decide +kernel
theorem dX11_years_37 : decode cX11_years 37 = .ok (.bipush (-103), 2) := by decide +kernel
theorem dX11_years_39 : decode cX11_years 39 = .ok (.ireturn, 1) := by decide +kernel
theorem dX11_years_40 : decode cX11_years 40 = .ok (.aload_n 0, 1) := by decide +kernel
theorem dX11_years_41 : decode cX11_years 41 = .ok (.getfield 47, 3) := by decide +kernel
theorem dX11_years_44 : decode cX11_years 44 = .ok (.aload_n 0, 1) := by decide +kernel
theorem dX11_years_45 : decode cX11_years 45 = .ok (.getfield 19, 3) := by decide +kernel
theorem dX11_years_48 : decode cX11_years 48 = .ok (.iload_n 1, 1) := by decide +kernel
theorem dX11_years_49 : decode cX11_years 49 = .ok (.iload_n 2, 1) := by decide +kernel
theorem dX11_years_50 : decode cX11_years 50 = .ok (.invokevirtual 182, 3) := by decide +kernel
theorem dX11_years_53 : decode cX11_years 53 = .ok (.iload_n 3, 1) := by decide +kernel
theorem dX11_years_54 : decode cX11_years 54 = .ok (.lookupswitch 42 #[(0, 26), (1, 34)], 26) := by decide +kernel
theorem dX11_years_80 : decode cX11_years 80 = .ok (.aload_n 0, 1) := by decide +kernel
theorem dX11_years_81 : decode cX11_years 81 = .ok (.getfield 47, 3) := by decide +kernel
theorem dX11_years_84 : decode cX11_years 84 = .ok (.getfield 186, 3) := by decide +kernel
theorem dX11_years_87 : decode cX11_years 87 = .ok (.ireturn, 1) := by decide +kernel
theorem dX11_years_88 : decode cX11_years 88 = .ok (.aload_n 0, 1) := by decide +kernel
theorem dX11_years_89 : decode cX11_years 89 = .ok (.getfield 47, 3) := by decide +kernel
theorem dX11_years_92 : decode cX11_years 92 = .ok (.getfield 189, 3) := by decide +kernel
theorem dX11_years_95 : decode cX11_years 95 = .ok (.ireturn, 1) := by decide +kernel
theorem dX11_years_96 : decode cX11_years 96 = .ok (.aload_n 0, 1) := by decide +kernel
theorem dX11_years_97 : decode cX11_years 97 = .ok (.getfield 47, 3) := by decide +kernel
theorem dX11_years_100 : decode cX11_years 100 = .ok (.getfield 192, 3) := by decide +kernel
theorem dX11_years_103 : decode cX11_years 103 = .ok (.ireturn, 1) := by decide +kernel
theorem dX11_image_0 : decode cX11_image 0 = .ok (.aload_n 0, 1) := by decide +kernel
theorem dX11_image_1 : decode cX11_image 1 = .ok (.getfield 19, 3) := by decide +kernel
theorem dX11_image_4 : decode cX11_image 4 = .ok (.getfield 74, 3) := by decide +kernel
theorem dX11_image_7 : decode cX11_image 7 = .ok (.ifCond .ne 6, 3) := by decide +kernel
theorem dX11_image_10 : decode cX11_image 10 = .ok (.bipush (-103), 2) := by decide +kernel
theorem dX11_image_12 : decode cX11_image 12 = .ok (.ireturn, 1) := by decide +kernel
theorem dX11_image_13 : decode cX11_image 13 = .ok (.aload_n 0, 1) := by decide +kernel
theorem dX11_image_14 : decode cX11_image 14 = .ok (.getfield 26, 3) := by decide +kernel
theorem dX11_image_17 : decode cX11_image 17 = .ok (.aload_n 0, 1) := by decide +kernel
theorem dX11_image_18 : decode cX11_image 18 = .ok (.getfield 19, 3) := by decide +kernel
theorem dX11_image_21 : decode cX11_image 21 = .ok (.getfield 92, 3) := by decide +kernel
theorem dX11_image_24 : decode cX11_image 24 = .ok (.invokevirtual 195, 3) := by decide +kernel
theorem dX11_image_27 : decode cX11_image 27 = .ok (.aload_n 0, 1) := by decide +kernel
theorem dX11_image_28 : decode cX11_image 28 = .ok (.aload_n 0, 1) := by decide +kernel
theorem dX11_image_29 : decode cX11_image 29 = .ok (.getfield 71, 3) := by decide +kernel
theorem dX11_image_32 : decode cX11_image 32 = .ok (.putfield 199, 3) := by decide +kernel
theorem dX11_image_35 : decode cX11_image 35 = .ok (.aload_n 0, 1) := by decide +kernel
theorem dX11_image_36 : decode cX11_image 36 = .ok (.getfield 26, 3) := by decide +kernel
theorem dX11_image_39 : decode cX11_image 39 = .ok (.getfield 105, 3) := by decide +kernel
theorem dX11_image_42 : decode cX11_image 42 = .ok (.aload_n 0, 1) := by decide +kernel
theorem dX11_image_43 : decode cX11_image 43 = .ok (.getfield 26, 3) := by decide +kernel
theorem dX11_image_46 : decode cX11_image 46 = .ok (.getfield 123, 3) := by decide +kernel
theorem dX11_image_49 : decode cX11_image 49 = .ok (.iadd, 1) := by decide +kernel
theorem dX11_image_50 : decode cX11_image 50 = .ok (.ireturn, 1) := by decide +kernel
theorem dX11_restore_0 : decode cX11_restore 0 = .ok (.aload_n 0, 1) := by decide +kernel
theorem dX11_restore_1 : decode cX11_restore 1 = .ok (.getfield 199, 3) := by decide +kernel
theorem dX11_restore_4 : decode cX11_restore 4 = .ok (.ifCond .eq 14, 3) := by decide +kernel
theorem dX11_restore_7 : decode cX11_restore 7 = .ok (.aload_n 0, 1) := by decide +kernel
theorem dX11_restore_8 : decode cX11_restore 8 = .ok (.getfield 199, 3) := by decide +kernel
theorem dX11_restore_11 : decode cX11_restore 11 = .ok (.aload_n 0, 1) := by decide +kernel
theorem dX11_restore_12 : decode cX11_restore 12 = .ok (.getfield 71, 3) := by decide +kernel
theorem dX11_restore_15 : decode cX11_restore 15 = .ok (.if_icmp .eq 6, 3) := by decide +kernel
theorem dX11_restore_18 : decode cX11_restore 18 = .ok (.bipush (-103), 2) := by decide +kernel
theorem dX11_restore_20 : decode cX11_restore 20 = .ok (.ireturn, 1) := by decide +kernel
theorem dX11_restore_21 : decode cX11_restore 21 = .ok (.aload_n 0, 1) := by decide +kernel
theorem dX11_restore_22 : decode cX11_restore 22 = .ok (.getfield 19, 3) := by decide +kernel
theorem dX11_restore_25 : decode cX11_restore 25 = .ok (.getfield 92, 3) := by decide +kernel
theorem dX11_restore_28 : decode cX11_restore 28 = .ok (.aload_n 0, 1) := by decide +kernel
theorem dX11_restore_29 : decode cX11_restore 29 = .ok (.getfield 26, 3) := by decide +kernel
theorem dX11_restore_32 : decode cX11_restore 32 = .ok (.invokevirtual 195, 3) := by decide +kernel
theorem dX11_restore_35 : decode cX11_restore 35 = .ok (.aload_n 0, 1) := by decide +kernel
theorem dX11_restore_36 : decode cX11_restore 36 = .ok (.getfield 26, 3) := by decide +kernel
theorem dX11_restore_39 : decode cX11_restore 39 = .ok (.getfield 105, 3) := by decide +kernel
theorem dX11_restore_42 : decode cX11_restore 42 = .ok (.aload_n 0, 1) := by decide +kernel
theorem dX11_restore_43 : decode cX11_restore 43 = .ok (.getfield 26, 3) := by decide +kernel
theorem dX11_restore_46 : decode cX11_restore 46 = .ok (.getfield 123, 3) := by decide +kernel
theorem dX11_restore_49 : decode cX11_restore 49 = .ok (.iadd, 1) := by decide +kernel
theorem dX11_restore_50 : decode cX11_restore 50 = .ok (.ireturn, 1) := by decide +kernel
theorem dX11_count_0 : decode cX11_count 0 = .ok (.iload_n 1, 1) := by decide +kernel
theorem dX11_count_1 : decode cX11_count 1 = .ok (.tableswitch 145 0 9 #[55, 63, 81, 89, 100, 111, 122, 130, 135, 140], 55) := by decide +kernel
theorem dX11_count_56 : decode cX11_count 56 = .ok (.aload_n 0, 1) := by decide +kernel
theorem dX11_count_57 : decode cX11_count 57 = .ok (.getfield 19, 3) := by decide +kernel
theorem dX11_count_60 : decode cX11_count 60 = .ok (.getfield 74, 3) := by decide +kernel
theorem dX11_count_63 : decode cX11_count 63 = .ok (.ireturn, 1) := by decide +kernel
theorem dX11_count_64 : decode cX11_count 64 = .ok (.aload_n 0, 1) := by decide +kernel
theorem dX11_count_65 : decode cX11_count 65 = .ok (.getfield 19, 3) := by decide +kernel
theorem dX11_count_68 : decode cX11_count 68 = .ok (.aload_n 0, 1) := by decide +kernel
theorem dX11_count_69 : decode cX11_count 69 = .ok (.getfield 19, 3) := by decide +kernel
theorem dX11_count_72 : decode cX11_count 72 = .ok (.getfield 92, 3) := by decide +kernel
theorem dX11_count_75 : decode cX11_count 75 = .ok (.getfield 95, 3) := by decide +kernel
theorem dX11_count_78 : decode cX11_count 78 = .ok (.invokevirtual 202, 3) := by decide +kernel
theorem dX11_count_81 : decode cX11_count 81 = .ok (.ireturn, 1) := by decide +kernel
theorem dX11_count_82 : decode cX11_count 82 = .ok (.aload_n 0, 1) := by decide +kernel
theorem dX11_count_83 : decode cX11_count 83 = .ok (.getfield 19, 3) := by decide +kernel
theorem dX11_count_86 : decode cX11_count 86 = .ok (.invokevirtual 206, 3) := by decide +kernel
theorem dX11_count_89 : decode cX11_count 89 = .ok (.ireturn, 1) := by decide +kernel
theorem dX11_count_90 : decode cX11_count 90 = .ok (.aload_n 0, 1) := by decide +kernel
theorem dX11_count_91 : decode cX11_count 91 = .ok (.getfield 19, 3) := by decide +kernel
theorem dX11_count_94 : decode cX11_count 94 = .ok (.getfield 92, 3) := by decide +kernel
theorem dX11_count_97 : decode cX11_count 97 = .ok (.getfield 105, 3) := by decide +kernel
theorem dX11_count_100 : decode cX11_count 100 = .ok (.ireturn, 1) := by decide +kernel
theorem dX11_count_101 : decode cX11_count 101 = .ok (.aload_n 0, 1) := by decide +kernel
theorem dX11_count_102 : decode cX11_count 102 = .ok (.getfield 19, 3) := by decide +kernel
theorem dX11_count_105 : decode cX11_count 105 = .ok (.getfield 92, 3) := by decide +kernel
theorem dX11_count_108 : decode cX11_count 108 = .ok (.getfield 123, 3) := by decide +kernel
theorem dX11_count_111 : decode cX11_count 111 = .ok (.ireturn, 1) := by decide +kernel
theorem dX11_count_112 : decode cX11_count 112 = .ok (.aload_n 0, 1) := by decide +kernel
theorem dX11_count_113 : decode cX11_count 113 = .ok (.getfield 19, 3) := by decide +kernel
theorem dX11_count_116 : decode cX11_count 116 = .ok (.getfield 92, 3) := by decide +kernel
theorem dX11_count_119 : decode cX11_count 119 = .ok (.getfield 162, 3) := by decide +kernel
theorem dX11_count_122 : decode cX11_count 122 = .ok (.ireturn, 1) := by decide +kernel
theorem dX11_count_123 : decode cX11_count 123 = .ok (.aload_n 0, 1) := by decide +kernel
theorem dX11_count_124 : decode cX11_count 124 = .ok (.getfield 10, 3) := by decide +kernel
theorem dX11_count_127 : decode cX11_count 127 = .ok (.getfield 55, 3) := by decide +kernel
theorem dX11_count_130 : decode cX11_count 130 = .ok (.ireturn, 1) := by decide +kernel
theorem dX11_count_131 : decode cX11_count 131 = .ok (.aload_n 0, 1) := by decide +kernel
theorem dX11_count_132 : decode cX11_count 132 = .ok (.getfield 71, 3) := by decide +kernel
theorem dX11_count_135 : decode cX11_count 135 = .ok (.ireturn, 1) := by decide +kernel
theorem dX11_count_136 : decode cX11_count 136 = .ok (.aload_n 0, 1) := by decide +kernel
theorem dX11_count_137 : decode cX11_count 137 = .ok (.getfield 140, 3) := by decide +kernel
theorem dX11_count_140 : decode cX11_count 140 = .ok (.ireturn, 1) := by decide +kernel
theorem dX11_count_141 : decode cX11_count 141 = .ok (.aload_n 0, 1) := by decide +kernel
theorem dX11_count_142 : decode cX11_count 142 = .ok (.getfield 153, 3) := by decide +kernel
theorem dX11_count_145 : decode cX11_count 145 = .ok (.ireturn, 1) := by decide +kernel
theorem dX11_count_146 : decode cX11_count 146 = .ok (.bipush (-102), 2) := by decide +kernel
theorem dX11_count_148 : decode cX11_count 148 = .ok (.ireturn, 1) := by decide +kernel
theorem dX11_digest_0 : decode cX11_digest 0 = .ok (.ldc2_w 209, 3) := by decide +kernel
theorem dX11_digest_3 : decode cX11_digest 3 = .ok (.lstore_n 1, 1) := by decide +kernel
theorem dX11_digest_4 : decode cX11_digest 4 = .ok (.iconst 0, 1) := by decide +kernel
theorem dX11_digest_5 : decode cX11_digest 5 = .ok (.istore_n 3, 1) := by decide +kernel
theorem dX11_digest_6 : decode cX11_digest 6 = .ok (.iload_n 3, 1) := by decide +kernel
theorem dX11_digest_7 : decode cX11_digest 7 = .ok (.aload_n 0, 1) := by decide +kernel
theorem dX11_digest_8 : decode cX11_digest 8 = .ok (.getfield 19, 3) := by decide +kernel
theorem dX11_digest_11 : decode cX11_digest 11 = .ok (.getfield 74, 3) := by decide +kernel
theorem dX11_digest_14 : decode cX11_digest 14 = .ok (.if_icmp .ge 101, 3) := by decide +kernel
theorem dX11_digest_17 : decode cX11_digest 17 = .ok (.iconst 0, 1) := by decide +kernel
theorem dX11_digest_18 : decode cX11_digest 18 = .ok (.istore 4, 2) := by decide +kernel
theorem dX11_digest_20 : decode cX11_digest 20 = .ok (.iload 4, 2) := by decide +kernel
theorem dX11_digest_22 : decode cX11_digest 22 = .ok (.bipush 9, 2) := by decide +kernel
theorem dX11_digest_24 : decode cX11_digest 24 = .ok (.if_icmp .ge 24, 3) := by decide +kernel
theorem dX11_digest_27 : decode cX11_digest 27 = .ok (.ldc2_w 211, 3) := by decide +kernel
theorem dX11_digest_30 : decode cX11_digest 30 = .ok (.lload_n 1, 1) := by decide +kernel
theorem dX11_digest_31 : decode cX11_digest 31 = .ok (.lmul, 1) := by decide +kernel
theorem dX11_digest_32 : decode cX11_digest 32 = .ok (.aload_n 0, 1) := by decide +kernel
theorem dX11_digest_33 : decode cX11_digest 33 = .ok (.iload_n 3, 1) := by decide +kernel
theorem dX11_digest_34 : decode cX11_digest 34 = .ok (.iload 4, 2) := by decide +kernel
theorem dX11_digest_36 : decode cX11_digest 36 = .ok (.invokevirtual 80, 3) := by decide +kernel
theorem dX11_digest_39 : decode cX11_digest 39 = .ok (.i2l, 1) := by decide +kernel
theorem dX11_digest_40 : decode cX11_digest 40 = .ok (.ladd, 1) := by decide +kernel
theorem dX11_digest_41 : decode cX11_digest 41 = .ok (.lstore_n 1, 1) := by decide +kernel
theorem dX11_digest_42 : decode cX11_digest 42 = .ok (.iinc 4 1, 3) := by decide +kernel
theorem dX11_digest_45 : decode cX11_digest 45 = .ok (.goto (-25), 3) := by decide +kernel
theorem dX11_digest_48 : decode cX11_digest 48 = .ok (.aload_n 0, 1) := by decide +kernel
theorem dX11_digest_49 : decode cX11_digest 49 = .ok (.getfield 40, 3) := by decide +kernel
theorem dX11_digest_52 : decode cX11_digest 52 = .ok (.aload_n 0, 1) := by decide +kernel
theorem dX11_digest_53 : decode cX11_digest 53 = .ok (.getfield 19, 3) := by decide +kernel
theorem dX11_digest_56 : decode cX11_digest 56 = .ok (.iload_n 3, 1) := by decide +kernel
theorem dX11_digest_57 : decode cX11_digest 57 = .ok (.invokevirtual 168, 3) := by decide +kernel
theorem dX11_digest_60 : decode cX11_digest 60 = .ok (.ldc2_w 211, 3) := by decide +kernel
theorem dX11_digest_63 : decode cX11_digest 63 = .ok (.lload_n 1, 1) := by decide +kernel
theorem dX11_digest_64 : decode cX11_digest 64 = .ok (.lmul, 1) := by decide +kernel
theorem dX11_digest_65 : decode cX11_digest 65 = .ok (.aload_n 0, 1) := by decide +kernel
theorem dX11_digest_66 : decode cX11_digest 66 = .ok (.getfield 40, 3) := by decide +kernel
theorem dX11_digest_69 : decode cX11_digest 69 = .ok (.getfield 172, 3) := by decide +kernel
theorem dX11_digest_72 : decode cX11_digest 72 = .ok (.i2l, 1) := by decide +kernel
theorem dX11_digest_73 : decode cX11_digest 73 = .ok (.ladd, 1) := by decide +kernel
theorem dX11_digest_74 : decode cX11_digest 74 = .ok (.lstore_n 1, 1) := by decide +kernel
theorem dX11_digest_75 : decode cX11_digest 75 = .ok (.ldc2_w 211, 3) := by decide +kernel
theorem dX11_digest_78 : decode cX11_digest 78 = .ok (.lload_n 1, 1) := by decide +kernel
theorem dX11_digest_79 : decode cX11_digest 79 = .ok (.lmul, 1) := by decide +kernel
theorem dX11_digest_80 : decode cX11_digest 80 = .ok (.aload_n 0, 1) := by decide +kernel
theorem dX11_digest_81 : decode cX11_digest 81 = .ok (.getfield 40, 3) := by decide +kernel
theorem dX11_digest_84 : decode cX11_digest 84 = .ok (.invokevirtual 175, 3) := by decide +kernel
theorem dX11_digest_87 : decode cX11_digest 87 = .ok (.i2l, 1) := by decide +kernel
theorem dX11_digest_88 : decode cX11_digest 88 = .ok (.ladd, 1) := by decide +kernel
theorem dX11_digest_89 : decode cX11_digest 89 = .ok (.lstore_n 1, 1) := by decide +kernel
theorem dX11_digest_90 : decode cX11_digest 90 = .ok (.ldc2_w 211, 3) := by decide +kernel
theorem dX11_digest_93 : decode cX11_digest 93 = .ok (.lload_n 1, 1) := by decide +kernel
theorem dX11_digest_94 : decode cX11_digest 94 = .ok (.lmul, 1) := by decide +kernel
theorem dX11_digest_95 : decode cX11_digest 95 = .ok (.aload_n 0, 1) := by decide +kernel
theorem dX11_digest_96 : decode cX11_digest 96 = .ok (.getfield 40, 3) := by decide +kernel
theorem dX11_digest_99 : decode cX11_digest 99 = .ok (.aload_n 0, 1) := by decide +kernel
theorem dX11_digest_100 : decode cX11_digest 100 = .ok (.getfield 19, 3) := by decide +kernel
theorem dX11_digest_103 : decode cX11_digest 103 = .ok (.invokevirtual 178, 3) := by decide +kernel
theorem dX11_digest_106 : decode cX11_digest 106 = .ok (.i2l, 1) := by decide +kernel
theorem dX11_digest_107 : decode cX11_digest 107 = .ok (.ladd, 1) := by decide +kernel
theorem dX11_digest_108 : decode cX11_digest 108 = .ok (.lstore_n 1, 1) := by decide +kernel
theorem dX11_digest_109 : decode cX11_digest 109 = .ok (.iinc 3 1, 3) := by decide +kernel
theorem dX11_digest_112 : decode cX11_digest 112 = .ok (.goto (-106), 3) := by decide +kernel
theorem dX11_digest_115 : decode cX11_digest 115 = .ok (.iconst 0, 1) := by decide +kernel
theorem dX11_digest_116 : decode cX11_digest 116 = .ok (.istore_n 3, 1) := by decide +kernel
theorem dX11_digest_117 : decode cX11_digest 117 = .ok (.iload_n 3, 1) := by decide +kernel
theorem dX11_digest_118 : decode cX11_digest 118 = .ok (.aload_n 0, 1) := by decide +kernel
theorem dX11_digest_119 : decode cX11_digest 119 = .ok (.getfield 10, 3) := by decide +kernel
theorem dX11_digest_122 : decode cX11_digest 122 = .ok (.getfield 55, 3) := by decide +kernel
theorem dX11_digest_125 : decode cX11_digest 125 = .ok (.if_icmp .ge 28, 3) := by decide +kernel
theorem dX11_digest_128 : decode cX11_digest 128 = .ok (.ldc2_w 211, 3) := by decide +kernel
theorem dX11_digest_131 : decode cX11_digest 131 = .ok (.lload_n 1, 1) := by decide +kernel
theorem dX11_digest_132 : decode cX11_digest 132 = .ok (.lmul, 1) := by decide +kernel
theorem dX11_digest_133 : decode cX11_digest 133 = .ok (.aload_n 0, 1) := by decide +kernel
theorem dX11_digest_134 : decode cX11_digest 134 = .ok (.getfield 10, 3) := by decide +kernel
theorem dX11_digest_137 : decode cX11_digest 137 = .ok (.getfield 213, 3) := by decide +kernel
theorem dX11_digest_140 : decode cX11_digest 140 = .ok (.iload_n 3, 1) := by decide +kernel
theorem dX11_digest_141 : decode cX11_digest 141 = .ok (.invokestatic 115, 3) := by decide +kernel
theorem dX11_digest_144 : decode cX11_digest 144 = .ok (.i2l, 1) := by decide +kernel
theorem dX11_digest_145 : decode cX11_digest 145 = .ok (.ladd, 1) := by decide +kernel
theorem dX11_digest_146 : decode cX11_digest 146 = .ok (.lstore_n 1, 1) := by decide +kernel
theorem dX11_digest_147 : decode cX11_digest 147 = .ok (.iinc 3 1, 3) := by decide +kernel
theorem dX11_digest_150 : decode cX11_digest 150 = .ok (.goto (-33), 3) := by decide +kernel
theorem dX11_digest_153 : decode cX11_digest 153 = .ok (.iconst 0, 1) := by decide +kernel
theorem dX11_digest_154 : decode cX11_digest 154 = .ok (.istore_n 3, 1) := by decide +kernel
theorem dX11_digest_155 : decode cX11_digest 155 = .ok (.iload_n 3, 1) := by decide +kernel
theorem dX11_digest_156 : decode cX11_digest 156 = .ok (.bipush 10, 2) := by decide +kernel
theorem dX11_digest_158 : decode cX11_digest 158 = .ok (.if_icmp .ge 22, 3) := by decide +kernel
theorem dX11_digest_161 : decode cX11_digest 161 = .ok (.ldc2_w 211, 3) := by decide +kernel
theorem dX11_digest_164 : decode cX11_digest 164 = .ok (.lload_n 1, 1) := by decide +kernel
theorem dX11_digest_165 : decode cX11_digest 165 = .ok (.lmul, 1) := by decide +kernel
theorem dX11_digest_166 : decode cX11_digest 166 = .ok (.aload_n 0, 1) := by decide +kernel
theorem dX11_digest_167 : decode cX11_digest 167 = .ok (.iload_n 3, 1) := by decide +kernel
theorem dX11_digest_168 : decode cX11_digest 168 = .ok (.invokevirtual 216, 3) := by decide +kernel
theorem dX11_digest_171 : decode cX11_digest 171 = .ok (.i2l, 1) := by decide +kernel
theorem dX11_digest_172 : decode cX11_digest 172 = .ok (.ladd, 1) := by decide +kernel
theorem dX11_digest_173 : decode cX11_digest 173 = .ok (.lstore_n 1, 1) := by decide +kernel
theorem dX11_digest_174 : decode cX11_digest 174 = .ok (.iinc 3 1, 3) := by decide +kernel
theorem dX11_digest_177 : decode cX11_digest 177 = .ok (.goto (-22), 3) := by decide +kernel
theorem dX11_digest_180 : decode cX11_digest 180 = .ok (.lload_n 1, 1) := by decide +kernel
theorem dX11_digest_181 : decode cX11_digest 181 = .ok (.lreturn, 1) := by decide +kernel
theorem dX11_tellAbout_0 : decode cX11_tellAbout 0 = .ok (.aload_n 0, 1) := by decide +kernel
theorem dX11_tellAbout_1 : decode cX11_tellAbout 1 = .ok (.getfield 19, 3) := by decide +kernel
theorem dX11_tellAbout_4 : decode cX11_tellAbout 4 = .ok (.getfield 92, 3) := by decide +kernel
theorem dX11_tellAbout_7 : decode cX11_tellAbout 7 = .ok (.astore_n 3, 1) := by decide +kernel
theorem dX11_tellAbout_8 : decode cX11_tellAbout 8 = .ok (.iload_n 2, 1) := by decide +kernel
theorem dX11_tellAbout_9 : decode cX11_tellAbout 9 = .ok (.tableswitch 143 0 7 #[47, 56, 65, 74, 83, 92, 121, 134], 47) := by decide +kernel
theorem dX11_tellAbout_56 : decode cX11_tellAbout 56 = .ok (.aload_n 0, 1) := by decide +kernel
theorem dX11_tellAbout_57 : decode cX11_tellAbout 57 = .ok (.getfield 19, 3) := by decide +kernel
theorem dX11_tellAbout_60 : decode cX11_tellAbout 60 = .ok (.iload_n 1, 1) := by decide +kernel
theorem dX11_tellAbout_61 : decode cX11_tellAbout 61 = .ok (.invokevirtual 219, 3) := by decide +kernel
theorem dX11_tellAbout_64 : decode cX11_tellAbout 64 = .ok (.ireturn, 1) := by decide +kernel
theorem dX11_tellAbout_65 : decode cX11_tellAbout 65 = .ok (.aload_n 3, 1) := by decide +kernel
theorem dX11_tellAbout_66 : decode cX11_tellAbout 66 = .ok (.getfield 108, 3) := by decide +kernel
theorem dX11_tellAbout_69 : decode cX11_tellAbout 69 = .ok (.iload_n 1, 1) := by decide +kernel
theorem dX11_tellAbout_70 : decode cX11_tellAbout 70 = .ok (.invokestatic 115, 3) := by decide +kernel
theorem dX11_tellAbout_73 : decode cX11_tellAbout 73 = .ok (.ireturn, 1) := by decide +kernel
theorem dX11_tellAbout_74 : decode cX11_tellAbout 74 = .ok (.aload_n 3, 1) := by decide +kernel
theorem dX11_tellAbout_75 : decode cX11_tellAbout 75 = .ok (.getfield 112, 3) := by decide +kernel
theorem dX11_tellAbout_78 : decode cX11_tellAbout 78 = .ok (.iload_n 1, 1) := by decide +kernel
theorem dX11_tellAbout_79 : decode cX11_tellAbout 79 = .ok (.invokestatic 115, 3) := by decide +kernel
theorem dX11_tellAbout_82 : decode cX11_tellAbout 82 = .ok (.ireturn, 1) := by decide +kernel
theorem dX11_tellAbout_83 : decode cX11_tellAbout 83 = .ok (.aload_n 3, 1) := by decide +kernel
theorem dX11_tellAbout_84 : decode cX11_tellAbout 84 = .ok (.getfield 95, 3) := by decide +kernel
theorem dX11_tellAbout_87 : decode cX11_tellAbout 87 = .ok (.iload_n 1, 1) := by decide +kernel
theorem dX11_tellAbout_88 : decode cX11_tellAbout 88 = .ok (.invokestatic 98, 3) := by decide +kernel
theorem dX11_tellAbout_91 : decode cX11_tellAbout 91 = .ok (.ireturn, 1) := by decide +kernel
theorem dX11_tellAbout_92 : decode cX11_tellAbout 92 = .ok (.aload_n 3, 1) := by decide +kernel
theorem dX11_tellAbout_93 : decode cX11_tellAbout 93 = .ok (.getfield 126, 3) := by decide +kernel
theorem dX11_tellAbout_96 : decode cX11_tellAbout 96 = .ok (.iload_n 1, 1) := by decide +kernel
theorem dX11_tellAbout_97 : decode cX11_tellAbout 97 = .ok (.invokestatic 115, 3) := by decide +kernel
theorem dX11_tellAbout_100 : decode cX11_tellAbout 100 = .ok (.ireturn, 1) := by decide +kernel
theorem dX11_tellAbout_101 : decode cX11_tellAbout 101 = .ok (.aload_n 0, 1) := by decide +kernel
theorem dX11_tellAbout_102 : decode cX11_tellAbout 102 = .ok (.getfield 19, 3) := by decide +kernel
theorem dX11_tellAbout_105 : decode cX11_tellAbout 105 = .ok (.iload_n 1, 1) := by decide +kernel
theorem dX11_tellAbout_106 : decode cX11_tellAbout 106 = .ok (.aload_n 0, 1) := by decide +kernel
theorem dX11_tellAbout_107 : decode cX11_tellAbout 107 = .ok (.getfield 19, 3) := by decide +kernel
theorem dX11_tellAbout_110 : decode cX11_tellAbout 110 = .ok (.aload_n 3, 1) := by decide +kernel
theorem dX11_tellAbout_111 : decode cX11_tellAbout 111 = .ok (.getfield 95, 3) := by decide +kernel
theorem dX11_tellAbout_114 : decode cX11_tellAbout 114 = .ok (.iload_n 1, 1) := by decide +kernel
theorem dX11_tellAbout_115 : decode cX11_tellAbout 115 = .ok (.invokevirtual 222, 3) := by decide +kernel
theorem dX11_tellAbout_118 : decode cX11_tellAbout 118 = .ok (.invokevirtual 137, 3) := by decide +kernel
theorem dX11_tellAbout_121 : decode cX11_tellAbout 121 = .ok (.ifCond .eq 7, 3) := by decide +kernel
theorem dX11_tellAbout_124 : decode cX11_tellAbout 124 = .ok (.iconst 1, 1) := by decide +kernel
theorem dX11_tellAbout_125 : decode cX11_tellAbout 125 = .ok (.goto 4, 3) := by decide +kernel
theorem dX11_tellAbout_128 : decode cX11_tellAbout 128 = .ok (.iconst 0, 1) := by decide +kernel
theorem dX11_tellAbout_129 : decode cX11_tellAbout 129 = .ok (.ireturn, 1) := by decide +kernel
theorem dX11_tellAbout_130 : decode cX11_tellAbout 130 = .ok (.aload_n 0, 1) := by decide +kernel
theorem dX11_tellAbout_131 : decode cX11_tellAbout 131 = .ok (.getfield 19, 3) := by decide +kernel
theorem dX11_tellAbout_134 : decode cX11_tellAbout 134 = .ok (.aload_n 3, 1) := by decide +kernel
theorem dX11_tellAbout_135 : decode cX11_tellAbout 135 = .ok (.getfield 95, 3) := by decide +kernel
theorem dX11_tellAbout_138 : decode cX11_tellAbout 138 = .ok (.iload_n 1, 1) := by decide +kernel
theorem dX11_tellAbout_139 : decode cX11_tellAbout 139 = .ok (.invokevirtual 222, 3) := by decide +kernel
theorem dX11_tellAbout_142 : decode cX11_tellAbout 142 = .ok (.ireturn, 1) := by decide +kernel
theorem dX11_tellAbout_143 : decode cX11_tellAbout 143 = .ok (.aload_n 0, 1) := by decide +kernel
theorem dX11_tellAbout_144 : decode cX11_tellAbout 144 = .ok (.getfield 19, 3) := by decide +kernel
theorem dX11_tellAbout_147 : decode cX11_tellAbout 147 = .ok (.iload_n 1, 1) := by decide +kernel
theorem dX11_tellAbout_148 : decode cX11_tellAbout 148 = .ok (.invokevirtual 225, 3) := by decide +kernel
theorem dX11_tellAbout_151 : decode cX11_tellAbout 151 = .ok (.ireturn, 1) := by decide +kernel
theorem dX11_tellAbout_152 : decode cX11_tellAbout 152 = .ok (.aload_n 0, 1) := by decide +kernel
theorem dX11_tellAbout_153 : decode cX11_tellAbout 153 = .ok (.getfield 19, 3) := by decide +kernel
theorem dX11_tellAbout_156 : decode cX11_tellAbout 156 = .ok (.iload_n 1, 1) := by decide +kernel
theorem dX11_tellAbout_157 : decode cX11_tellAbout 157 = .ok (.invokevirtual 228, 3) := by decide +kernel
theorem dX11_tellAbout_160 : decode cX11_tellAbout 160 = .ok (.ireturn, 1) := by decide +kernel
theorem dX11_isOfKind_0 : decode cX11_isOfKind 0 = .ok (.iload_n 1, 1) := by decide +kernel
theorem dX11_isOfKind_1 : decode cX11_isOfKind 1 = .ok (.tableswitch 65 0 4 #[35, 45, 50, 55, 60], 35) := by decide +kernel
theorem dX11_isOfKind_36 : decode cX11_isOfKind 36 = .ok (.aload_n 0, 1) := by decide +kernel
theorem dX11_isOfKind_37 : decode cX11_isOfKind 37 = .ok (.ifnull 7, 3) := by decide +kernel
theorem dX11_isOfKind_40 : decode cX11_isOfKind 40 = .ok (.iconst 1, 1) := by decide +kernel
theorem dX11_isOfKind_41 : decode cX11_isOfKind 41 = .ok (.goto 4, 3) := by decide +kernel
theorem dX11_isOfKind_44 : decode cX11_isOfKind 44 = .ok (.iconst 0, 1) := by decide +kernel
theorem dX11_isOfKind_45 : decode cX11_isOfKind 45 = .ok (.ireturn, 1) := by decide +kernel
theorem dX11_isOfKind_46 : decode cX11_isOfKind 46 = .ok (.aload_n 0, 1) := by decide +kernel
theorem dX11_isOfKind_47 : decode cX11_isOfKind 47 = .ok (.instanceof 231, 3) := by decide +kernel
theorem dX11_isOfKind_50 : decode cX11_isOfKind 50 = .ok (.ireturn, 1) := by decide +kernel
theorem dX11_isOfKind_51 : decode cX11_isOfKind 51 = .ok (.aload_n 0, 1) := by decide +kernel
theorem dX11_isOfKind_52 : decode cX11_isOfKind 52 = .ok (.instanceof 233, 3) := by decide +kernel
theorem dX11_isOfKind_55 : decode cX11_isOfKind 55 = .ok (.ireturn, 1) := by decide +kernel
theorem dX11_isOfKind_56 : decode cX11_isOfKind 56 = .ok (.aload_n 0, 1) := by decide +kernel
theorem dX11_isOfKind_57 : decode cX11_isOfKind 57 = .ok (.instanceof 235, 3) := by decide +kernel
theorem dX11_isOfKind_60 : decode cX11_isOfKind 60 = .ok (.ireturn, 1) := by decide +kernel
theorem dX11_isOfKind_61 : decode cX11_isOfKind 61 = .ok (.aload_n 0, 1) := by decide +kernel
theorem dX11_isOfKind_62 : decode cX11_isOfKind 62 = .ok (.instanceof 237, 3) := by decide +kernel
theorem dX11_isOfKind_65 : decode cX11_isOfKind 65 = .ok (.ireturn, 1) := by decide +kernel
theorem dX11_isOfKind_66 : decode cX11_isOfKind 66 = .ok (.iconst 0, 1) := by decide +kernel
theorem dX11_isOfKind_67 : decode cX11_isOfKind 67 = .ok (.ireturn, 1) := by decide +kernel
theorem dX11_at_0 : decode cX11_at 0 = .ok (.aload_n 0, 1) := by decide +kernel
theorem dX11_at_1 : decode cX11_at 1 = .ok (.ifnull 19, 3) := by decide +kernel
theorem dX11_at_4 : decode cX11_at 4 = .ok (.iload_n 1, 1) := by decide +kernel
theorem dX11_at_5 : decode cX11_at 5 = .ok (.ifCond .lt 15, 3) := by decide +kernel
theorem dX11_at_8 : decode cX11_at 8 = .ok (.iload_n 1, 1) := by decide +kernel
theorem dX11_at_9 : decode cX11_at 9 = .ok (.aload_n 0, 1) := by decide +kernel
theorem dX11_at_10 : decode cX11_at 10 = .ok (.arraylength, 1) := by decide +kernel
theorem dX11_at_11 : decode cX11_at 11 = .ok (.if_icmp .ge 9, 3) := by decide +kernel
theorem dX11_at_14 : decode cX11_at 14 = .ok (.aload_n 0, 1) := by decide +kernel
theorem dX11_at_15 : decode cX11_at 15 = .ok (.iload_n 1, 1) := by decide +kernel
theorem dX11_at_16 : decode cX11_at 16 = .ok (.iaload, 1) := by decide +kernel
theorem dX11_at_17 : decode cX11_at 17 = .ok (.goto 4, 3) := by decide +kernel
theorem dX11_at_20 : decode cX11_at 20 = .ok (.iconst 0, 1) := by decide +kernel
theorem dX11_at_21 : decode cX11_at 21 = .ok (.ireturn, 1) := by decide +kernel
theorem dX11_put_0 : decode cX11_put 0 = .ok (.aload_n 0, 1) := by decide +kernel
theorem dX11_put_1 : decode cX11_put 1 = .ok (.ifnull 17, 3) := by decide +kernel
theorem dX11_put_4 : decode cX11_put 4 = .ok (.iload_n 1, 1) := by decide +kernel
theorem dX11_put_5 : decode cX11_put 5 = .ok (.ifCond .lt 13, 3) := by decide +kernel
theorem dX11_put_8 : decode cX11_put 8 = .ok (.iload_n 1, 1) := by decide +kernel
theorem dX11_put_9 : decode cX11_put 9 = .ok (.aload_n 0, 1) := by decide +kernel
theorem dX11_put_10 : decode cX11_put 10 = .ok (.arraylength, 1) := by decide +kernel
theorem dX11_put_11 : decode cX11_put 11 = .ok (.if_icmp .ge 7, 3) := by decide +kernel
theorem dX11_put_14 : decode cX11_put 14 = .ok (.aload_n 0, 1) := by decide +kernel
theorem dX11_put_15 : decode cX11_put 15 = .ok (.iload_n 1, 1) := by decide +kernel
theorem dX11_put_16 : decode cX11_put 16 = .ok (.iload_n 2, 1) := by decide +kernel
theorem dX11_put_17 : decode cX11_put 17 = .ok (.iastore, 1) := by decide +kernel
theorem dX11_put_18 : decode cX11_put 18 = .ok (.return_, 1) := by decide +kernel
theorem dX11_shiftOf_0 : decode cX11_shiftOf 0 = .ok (.iconst 2, 1) := by decide +kernel
theorem dX11_shiftOf_1 : decode cX11_shiftOf 1 = .ok (.iconst 4, 1) := by decide +kernel
theorem dX11_shiftOf_2 : decode cX11_shiftOf 2 = .ok (.iload_n 0, 1) := by decide +kernel
theorem dX11_shiftOf_3 : decode cX11_shiftOf 3 = .ok (.isub, 1) := by decide +kernel
theorem dX11_shiftOf_4 : decode cX11_shiftOf 4 = .ok (.imul, 1) := by decide +kernel
theorem dX11_shiftOf_5 : decode cX11_shiftOf 5 = .ok (.ireturn, 1) := by decide +kernel
theorem dX11_roomIn_0 : decode cX11_roomIn 0 = .ok (.iload_n 0, 1) := by decide +kernel
theorem dX11_roomIn_1 : decode cX11_roomIn 1 = .ok (.iload_n 1, 1) := by decide +kernel
theorem dX11_roomIn_2 : decode cX11_roomIn 2 = .ok (.invokestatic 239, 3) := by decide +kernel
theorem dX11_roomIn_5 : decode cX11_roomIn 5 = .ok (.ishr, 1) := by decide +kernel
theorem dX11_roomIn_6 : decode cX11_roomIn 6 = .ok (.iconst 3, 1) := by decide +kernel
theorem dX11_roomIn_7 : decode cX11_roomIn 7 = .ok (.iand, 1) := by decide +kernel
theorem dX11_roomIn_8 : decode cX11_roomIn 8 = .ok (.ireturn, 1) := by decide +kernel
theorem dX11_withRoom_0 : decode cX11_withRoom 0 = .ok (.iload_n 1, 1) := by decide +kernel
theorem dX11_withRoom_1 : decode cX11_withRoom 1 = .ok (.invokestatic 239, 3) := by decide +kernel
theorem dX11_withRoom_4 : decode cX11_withRoom 4 = .ok (.istore_n 3, 1) := by decide +kernel
theorem dX11_withRoom_5 : decode cX11_withRoom 5 = .ok (.iload_n 0, 1) := by decide +kernel
theorem dX11_withRoom_6 : decode cX11_withRoom 6 = .ok (.iconst 3, 1) := by decide +kernel
theorem dX11_withRoom_7 : decode cX11_withRoom 7 = .ok (.iload_n 3, 1) := by decide +kernel
theorem dX11_withRoom_8 : decode cX11_withRoom 8 = .ok (.ishl, 1) := by decide +kernel
theorem dX11_withRoom_9 : decode cX11_withRoom 9 = .ok (.iconst (-1), 1) := by decide +kernel
theorem dX11_withRoom_10 : decode cX11_withRoom 10 = .ok (.ixor, 1) := by decide +kernel
theorem dX11_withRoom_11 : decode cX11_withRoom 11 = .ok (.iand, 1) := by decide +kernel
theorem dX11_withRoom_12 : decode cX11_withRoom 12 = .ok (.iload_n 2, 1) := by decide +kernel
theorem dX11_withRoom_13 : decode cX11_withRoom 13 = .ok (.iload_n 3, 1) := by decide +kernel
theorem dX11_withRoom_14 : decode cX11_withRoom 14 = .ok (.ishl, 1) := by decide +kernel
theorem dX11_withRoom_15 : decode cX11_withRoom 15 = .ok (.ior, 1) := by decide +kernel
theorem dX11_withRoom_16 : decode cX11_withRoom 16 = .ok (.ireturn, 1) := by decide +kernel
theorem dX12_init_0 : decode cX12_init 0 = .ok (.aload_n 0, 1) := by decide +kernel
theorem dX12_init_1 : decode cX12_init 1 = .ok (.invokespecial 1, 3) := by decide +kernel
theorem dX12_init_4 : decode cX12_init 4 = .ok (.aload_n 0, 1) := by decide +kernel
theorem dX12_init_5 : decode cX12_init 5 = .ok (.iconst 5, 1) := by decide +kernel
theorem dX12_init_6 : decode cX12_init 6 = .ok (.newarray .int, 2) := by decide +kernel
theorem dX12_init_8 : decode cX12_init 8 = .ok (.putfield 7, 3) := by decide +kernel
theorem dX12_init_11 : decode cX12_init 11 = .ok (.aload_n 0, 1) := by decide +kernel
theorem dX12_init_12 : decode cX12_init 12 = .ok (.bipush 10, 2) := by decide +kernel
theorem dX12_init_14 : decode cX12_init 14 = .ok (.newarray .int, 2) := by decide +kernel
theorem dX12_init_16 : decode cX12_init 16 = .ok (.putfield 13, 3) := by decide +kernel
theorem dX12_init_19 : decode cX12_init 19 = .ok (.aload_n 0, 1) := by decide +kernel
theorem dX12_init_20 : decode cX12_init 20 = .ok (.iconst 5, 1) := by decide +kernel
theorem dX12_init_21 : decode cX12_init 21 = .ok (.newarray .int, 2) := by decide +kernel
theorem dX12_init_23 : decode cX12_init 23 = .ok (.putfield 16, 3) := by decide +kernel
theorem dX12_init_26 : decode cX12_init 26 = .ok (.aload_n 0, 1) := by decide +kernel
theorem dX12_init_27 : decode cX12_init 27 = .ok (.iconst 5, 1) := by decide +kernel
theorem dX12_init_28 : decode cX12_init 28 = .ok (.newarray .int, 2) := by decide +kernel
theorem dX12_init_30 : decode cX12_init 30 = .ok (.putfield 19, 3) := by decide +kernel
theorem dX12_init_33 : decode cX12_init 33 = .ok (.aload_n 0, 1) := by decide +kernel
theorem dX12_init_34 : decode cX12_init 34 = .ok (.bipush 6, 2) := by decide +kernel
theorem dX12_init_36 : decode cX12_init 36 = .ok (.newarray .int, 2) := by decide +kernel
theorem dX12_init_38 : decode cX12_init 38 = .ok (.putfield 22, 3) := by decide +kernel
theorem dX12_init_41 : decode cX12_init 41 = .ok (.aload_n 0, 1) := by decide +kernel
theorem dX12_init_42 : decode cX12_init 42 = .ok (.bipush 6, 2) := by decide +kernel
theorem dX12_init_44 : decode cX12_init 44 = .ok (.newarray .int, 2) := by decide +kernel
theorem dX12_init_46 : decode cX12_init 46 = .ok (.putfield 25, 3) := by decide +kernel
theorem dX12_init_49 : decode cX12_init 49 = .ok (.aload_n 0, 1) := by decide +kernel
theorem dX12_init_50 : decode cX12_init 50 = .ok (.bipush 6, 2) := by decide +kernel
theorem dX12_init_52 : decode cX12_init 52 = .ok (.newarray .int, 2) := by decide +kernel
theorem dX12_init_54 : decode cX12_init 54 = .ok (.putfield 28, 3) := by decide +kernel
theorem dX12_init_57 : decode cX12_init 57 = .ok (.aload_n 0, 1) := by decide +kernel
theorem dX12_init_58 : decode cX12_init 58 = .ok (.bipush 21, 2) := by decide +kernel
theorem dX12_init_60 : decode cX12_init 60 = .ok (.newarray .byte, 2) := by decide +kernel
theorem dX12_init_62 : decode cX12_init 62 = .ok (.putfield 31, 3) := by decide +kernel
theorem dX12_init_65 : decode cX12_init 65 = .ok (.aload_n 0, 1) := by decide +kernel
theorem dX12_init_66 : decode cX12_init 66 = .ok (.bipush 32, 2) := by decide +kernel
theorem dX12_init_68 : decode cX12_init 68 = .ok (.newarray .int, 2) := by decide +kernel
theorem dX12_init_70 : decode cX12_init 70 = .ok (.putfield 35, 3) := by decide +kernel
theorem dX12_init_73 : decode cX12_init 73 = .ok (.aload_n 0, 1) := by decide +kernel
theorem dX12_init_74 : decode cX12_init 74 = .ok (.iconst 5, 1) := by decide +kernel
theorem dX12_init_75 : decode cX12_init 75 = .ok (.newarray .int, 2) := by decide +kernel
theorem dX12_init_77 : decode cX12_init 77 = .ok (.putfield 38, 3) := by decide +kernel
theorem dX12_init_80 : decode cX12_init 80 = .ok (.aload_n 0, 1) := by decide +kernel
theorem dX12_init_81 : decode cX12_init 81 = .ok (.bipush 10, 2) := by decide +kernel
theorem dX12_init_83 : decode cX12_init 83 = .ok (.newarray .int, 2) := by decide +kernel
theorem dX12_init_85 : decode cX12_init 85 = .ok (.putfield 41, 3) := by decide +kernel
theorem dX12_init_88 : decode cX12_init 88 = .ok (.aload_n 0, 1) := by decide +kernel
theorem dX12_init_89 : decode cX12_init 89 = .ok (.iconst 5, 1) := by decide +kernel
theorem dX12_init_90 : decode cX12_init 90 = .ok (.newarray .int, 2) := by decide +kernel
theorem dX12_init_92 : decode cX12_init 92 = .ok (.putfield 44, 3) := by decide +kernel
theorem dX12_init_95 : decode cX12_init 95 = .ok (.aload_n 0, 1) := by decide +kernel
theorem dX12_init_96 : decode cX12_init 96 = .ok (.iconst 5, 1) := by decide +kernel
theorem dX12_init_97 : decode cX12_init 97 = .ok (.newarray .int, 2) := by decide +kernel
theorem dX12_init_99 : decode cX12_init 99 = .ok (.putfield 47, 3) := by decide +kernel
theorem dX12_init_102 : decode cX12_init 102 = .ok (.aload_n 0, 1) := by decide +kernel
theorem dX12_init_103 : decode cX12_init 103 = .ok (.bipush 6, 2) := by decide +kernel
theorem dX12_init_105 : decode cX12_init 105 = .ok (.newarray .int, 2) := by decide +kernel
theorem dX12_init_107 : decode cX12_init 107 = .ok (.putfield 50, 3) := by decide +kernel
theorem dX12_init_110 : decode cX12_init 110 = .ok (.aload_n 0, 1) := by decide +kernel
theorem dX12_init_111 : decode cX12_init 111 = .ok (.bipush 6, 2) := by decide +kernel
theorem dX12_init_113 : decode cX12_init 113 = .ok (.newarray .int, 2) := by decide +kernel
theorem dX12_init_115 : decode cX12_init 115 = .ok (.putfield 53, 3) := by decide +kernel
theorem dX12_init_118 : decode cX12_init 118 = .ok (.aload_n 0, 1) := by decide +kernel
theorem dX12_init_119 : decode cX12_init 119 = .ok (.bipush 6, 2) := by decide +kernel
theorem dX12_init_121 : decode cX12_init 121 = .ok (.newarray .int, 2) := by decide +kernel
theorem dX12_init_123 : decode cX12_init 123 = .ok (.putfield 56, 3) := by decide +kernel
theorem dX12_init_126 : decode cX12_init 126 = .ok (.return_, 1) := by decide +kernel
theorem dX12_within_0 : decode cX12_within 0 = .ok (.iload_n 0, 1) := by decide +kernel
theorem dX12_within_1 : decode cX12_within 1 = .ok (.iload_n 1, 1) := by decide +kernel
theorem dX12_within_2 : decode cX12_within 2 = .ok (.if_icmp .lt 12, 3) := by decide +kernel
theorem dX12_within_5 : decode cX12_within 5 = .ok (.iload_n 0, 1) := by decide +kernel
theorem dX12_within_6 : decode cX12_within 6 = .ok (.iload_n 2, 1) := by decide +kernel
theorem dX12_within_7 : decode cX12_within 7 = .ok (.if_icmp .gt 7, 3) := by decide +kernel
theorem dX12_within_10 : decode cX12_within 10 = .ok (.iconst 1, 1) := by decide +kernel
theorem dX12_within_11 : decode cX12_within 11 = .ok (.goto 4, 3) := by decide +kernel
theorem dX12_within_14 : decode cX12_within 14 = .ok (.iconst 0, 1) := by decide +kernel
theorem dX12_within_15 : decode cX12_within 15 = .ok (.ireturn, 1) := by decide +kernel
theorem dX12_isIn_0 : decode cX12_isIn 0 = .ok (.iload_n 0, 1) := by decide +kernel
theorem dX12_isIn_1 : decode cX12_isIn 1 = .ok (.iload_n 1, 1) := by decide +kernel
theorem dX12_isIn_2 : decode cX12_isIn 2 = .ok (.ishr, 1) := by decide +kernel
theorem dX12_isIn_3 : decode cX12_isIn 3 = .ok (.iconst 1, 1) := by decide +kernel
theorem dX12_isIn_4 : decode cX12_isIn 4 = .ok (.iand, 1) := by decide +kernel
theorem dX12_isIn_5 : decode cX12_isIn 5 = .ok (.iconst 1, 1) := by decide +kernel
theorem dX12_isIn_6 : decode cX12_isIn 6 = .ok (.if_icmp .ne 7, 3) := by decide +kernel
theorem dX12_isIn_9 : decode cX12_isIn 9 = .ok (.iconst 1, 1) := by decide +kernel
theorem dX12_isIn_10 : decode cX12_isIn 10 = .ok (.goto 4, 3) := by decide +kernel
theorem dX12_isIn_13 : decode cX12_isIn 13 = .ok (.iconst 0, 1) := by decide +kernel
theorem dX12_isIn_14 : decode cX12_isIn 14 = .ok (.ireturn, 1) := by decide +kernel
theorem dX12_size_0 : decode cX12_size 0 = .ok (.iconst 0, 1) := by decide +kernel
theorem dX12_size_1 : decode cX12_size 1 = .ok (.istore_n 1, 1) := by decide +kernel
theorem dX12_size_2 : decode cX12_size 2 = .ok (.iconst 0, 1) := by decide +kernel
theorem dX12_size_3 : decode cX12_size 3 = .ok (.istore_n 2, 1) := by decide +kernel
theorem dX12_size_4 : decode cX12_size 4 = .ok (.iload_n 2, 1) := by decide +kernel
theorem dX12_size_5 : decode cX12_size 5 = .ok (.iconst 5, 1) := by decide +kernel
theorem dX12_size_6 : decode cX12_size 6 = .ok (.if_icmp .ge 17, 3) := by decide +kernel
theorem dX12_size_9 : decode cX12_size 9 = .ok (.iload_n 1, 1) := by decide +kernel
theorem dX12_size_10 : decode cX12_size 10 = .ok (.iload_n 0, 1) := by decide +kernel
theorem dX12_size_11 : decode cX12_size 11 = .ok (.iload_n 2, 1) := by decide +kernel
theorem dX12_size_12 : decode cX12_size 12 = .ok (.ishr, 1) := by decide +kernel
theorem dX12_size_13 : decode cX12_size 13 = .ok (.iconst 1, 1) := by decide +kernel
theorem dX12_size_14 : decode cX12_size 14 = .ok (.iand, 1) := by decide +kernel
theorem dX12_size_15 : decode cX12_size 15 = .ok (.iadd, 1) := by decide +kernel
theorem dX12_size_16 : decode cX12_size 16 = .ok (.istore_n 1, 1) := by decide +kernel
theorem dX12_size_17 : decode cX12_size 17 = .ok (.iinc 2 1, 3) := by decide +kernel
theorem dX12_size_20 : decode cX12_size 20 = .ok (.goto (-16), 3) := by decide +kernel
theorem dX12_size_23 : decode cX12_size 23 = .ok (.iload_n 1, 1) := by decide +kernel
theorem dX12_size_24 : decode cX12_size 24 = .ok (.ireturn, 1) := by decide +kernel
theorem dX12_letter_0 : decode cX12_letter 0 = .ok (.iload_n 1, 1) := by decide +kernel
theorem dX12_letter_1 : decode cX12_letter 1 = .ok (.bipush 32, 2) := by decide +kernel
theorem dX12_letter_3 : decode cX12_letter 3 = .ok (.bipush 126, 2) := by decide +kernel
theorem dX12_letter_5 : decode cX12_letter 5 = .ok (.invokestatic 59, 3) := by decide +kernel
theorem dX12_letter_8 : decode cX12_letter 8 = .ok (.ifCond .ne 6, 3) := by decide +kernel
theorem dX12_letter_11 : decode cX12_letter 11 = .ok (.bipush (-102), 2) := by decide +kernel
theorem dX12_letter_13 : decode cX12_letter 13 = .ok (.ireturn, 1) := by decide +kernel
theorem dX12_letter_14 : decode cX12_letter 14 = .ok (.aload_n 0, 1) := by decide +kernel
theorem dX12_letter_15 : decode cX12_letter 15 = .ok (.getfield 63, 3) := by decide +kernel
theorem dX12_letter_18 : decode cX12_letter 18 = .ok (.bipush 21, 2) := by decide +kernel
theorem dX12_letter_20 : decode cX12_letter 20 = .ok (.if_icmp .ne 6, 3) := by decide +kernel
theorem dX12_letter_23 : decode cX12_letter 23 = .ok (.bipush (-104), 2) := by decide +kernel
theorem dX12_letter_25 : decode cX12_letter 25 = .ok (.ireturn, 1) := by decide +kernel
theorem dX12_letter_26 : decode cX12_letter 26 = .ok (.aload_n 0, 1) := by decide +kernel
theorem dX12_letter_27 : decode cX12_letter 27 = .ok (.getfield 31, 3) := by decide +kernel
theorem dX12_letter_30 : decode cX12_letter 30 = .ok (.aload_n 0, 1) := by decide +kernel
theorem dX12_letter_31 : decode cX12_letter 31 = .ok (.getfield 63, 3) := by decide +kernel
theorem dX12_letter_34 : decode cX12_letter 34 = .ok (.iload_n 1, 1) := by decide +kernel
theorem dX12_letter_35 : decode cX12_letter 35 = .ok (.i2b, 1) := by decide +kernel
theorem dX12_letter_36 : decode cX12_letter 36 = .ok (.bastore, 1) := by decide +kernel
theorem dX12_letter_37 : decode cX12_letter 37 = .ok (.aload_n 0, 1) := by decide +kernel
theorem dX12_letter_38 : decode cX12_letter 38 = .ok (.dup, 1) := by decide +kernel
theorem dX12_letter_39 : decode cX12_letter 39 = .ok (.getfield 63, 3) := by decide +kernel
theorem dX12_letter_42 : decode cX12_letter 42 = .ok (.iconst 1, 1) := by decide +kernel
theorem dX12_letter_43 : decode cX12_letter 43 = .ok (.iadd, 1) := by decide +kernel
theorem dX12_letter_44 : decode cX12_letter 44 = .ok (.putfield 63, 3) := by decide +kernel
theorem dX12_letter_47 : decode cX12_letter 47 = .ok (.aload_n 0, 1) := by decide +kernel
theorem dX12_letter_48 : decode cX12_letter 48 = .ok (.getfield 63, 3) := by decide +kernel
theorem dX12_letter_51 : decode cX12_letter 51 = .ok (.ireturn, 1) := by decide +kernel
theorem dX12_blank_0 : decode cX12_blank 0 = .ok (.aload_n 0, 1) := by decide +kernel
theorem dX12_blank_1 : decode cX12_blank 1 = .ok (.getfield 63, 3) := by decide +kernel
theorem dX12_blank_4 : decode cX12_blank 4 = .ok (.istore_n 1, 1) := by decide +kernel
theorem dX12_blank_5 : decode cX12_blank 5 = .ok (.aload_n 0, 1) := by decide +kernel
theorem dX12_blank_6 : decode cX12_blank 6 = .ok (.iconst 0, 1) := by decide +kernel
theorem dX12_blank_7 : decode cX12_blank 7 = .ok (.putfield 63, 3) := by decide +kernel
theorem dX12_blank_10 : decode cX12_blank 10 = .ok (.iload_n 1, 1) := by decide +kernel
theorem dX12_blank_11 : decode cX12_blank 11 = .ok (.ireturn, 1) := by decide +kernel
theorem dX12_kindBy_0 : decode cX12_kindBy 0 = .ok (.iload_n 0, 1) := by decide +kernel
theorem dX12_kindBy_1 : decode cX12_kindBy 1 = .ok (.tableswitch 85 102 116 #[79, 85, 77, 85, 85, 85, 85, 85, 85, 85, 75, 85, 81, 85, 83], 75) := by decide +kernel
theorem dX12_kindBy_76 : decode cX12_kindBy 76 = .ok (.iconst 0, 1) := by decide +kernel
theorem dX12_kindBy_77 : decode cX12_kindBy 77 = .ok (.ireturn, 1) := by decide +kernel
theorem dX12_kindBy_78 : decode cX12_kindBy 78 = .ok (.iconst 1, 1) := by decide +kernel
theorem dX12_kindBy_79 : decode cX12_kindBy 79 = .ok (.ireturn, 1) := by decide +kernel
theorem dX12_kindBy_80 : decode cX12_kindBy 80 = .ok (.iconst 2, 1) := by decide +kernel
theorem dX12_kindBy_81 : decode cX12_kindBy 81 = .ok (.ireturn, 1) := by decide +kernel
theorem dX12_kindBy_82 : decode cX12_kindBy 82 = .ok (.iconst 3, 1) := by decide +kernel
theorem dX12_kindBy_83 : decode cX12_kindBy 83 = .ok (.ireturn, 1) := by decide +kernel
theorem dX12_kindBy_84 : decode cX12_kindBy 84 = .ok (.iconst 4, 1) := by decide +kernel
theorem dX12_kindBy_85 : decode cX12_kindBy 85 = .ok (.ireturn, 1) := by decide +kernel
theorem dX12_kindBy_86 : decode cX12_kindBy 86 = .ok (.iconst (-1), 1) := by decide +kernel
theorem dX12_kindBy_87 : decode cX12_kindBy 87 = .ok (.ireturn, 1) := by decide +kernel
theorem dX12_isGood_0 : decode cX12_isGood 0 = .ok (.aload_n 0, 1) := by decide +kernel
theorem dX12_isGood_1 : decode cX12_isGood 1 = .ok (.getfield 31, 3) := by decide +kernel
theorem dX12_isGood_4 : decode cX12_isGood 4 = .ok (.iload_n 1, 1) := by decide +kernel
theorem dX12_isGood_5 : decode cX12_isGood 5 = .ok (.baload, 1) := by decide +kernel
theorem dX12_isGood_6 : decode cX12_isGood 6 = .ok (.istore_n 2, 1) := by decide +kernel
theorem dX12_isGood_7 : decode cX12_isGood 7 = .ok (.iload_n 1, 1) := by decide +kernel
theorem dX12_isGood_8 : decode cX12_isGood 8 = .ok (.iconst 4, 1) := by decide +kernel
theorem dX12_isGood_9 : decode cX12_isGood 9 = .ok (.irem, 1) := by decide +kernel
theorem dX12_isGood_10 : decode cX12_isGood 10 = .ok (.lookupswitch 58 #[(0, 26), (3, 40)], 26) := by decide +kernel
theorem dX12_isGood_36 : decode cX12_isGood 36 = .ok (.iload_n 2, 1) := by decide +kernel
theorem dX12_isGood_37 : decode cX12_isGood 37 = .ok (.invokestatic 67, 3) := by decide +kernel
theorem dX12_isGood_40 : decode cX12_isGood 40 = .ok (.iconst (-1), 1) := by decide +kernel
theorem dX12_isGood_41 : decode cX12_isGood 41 = .ok (.if_icmp .eq 7, 3) := by decide +kernel
theorem dX12_isGood_44 : decode cX12_isGood 44 = .ok (.iconst 1, 1) := by decide +kernel
theorem dX12_isGood_45 : decode cX12_isGood 45 = .ok (.goto 4, 3) := by decide +kernel
theorem dX12_isGood_48 : decode cX12_isGood 48 = .ok (.iconst 0, 1) := by decide +kernel
theorem dX12_isGood_49 : decode cX12_isGood 49 = .ok (.ireturn, 1) := by decide +kernel
theorem dX12_isGood_50 : decode cX12_isGood 50 = .ok (.iload_n 2, 1) := by decide +kernel
theorem dX12_isGood_51 : decode cX12_isGood 51 = .ok (.bipush 44, 2) := by decide +kernel
theorem dX12_isGood_53 : decode cX12_isGood 53 = .ok (.if_icmp .ne 13, 3) := by decide +kernel
theorem dX12_isGood_56 : decode cX12_isGood 56 = .ok (.iload_n 1, 1) := by decide +kernel
theorem dX12_isGood_57 : decode cX12_isGood 57 = .ok (.bipush 19, 2) := by decide +kernel
theorem dX12_isGood_59 : decode cX12_isGood 59 = .ok (.if_icmp .ge 7, 3) := by decide +kernel
theorem dX12_isGood_62 : decode cX12_isGood 62 = .ok (.iconst 1, 1) := by decide +kernel
theorem dX12_isGood_63 : decode cX12_isGood 63 = .ok (.goto 4, 3) := by decide +kernel
theorem dX12_isGood_66 : decode cX12_isGood 66 = .ok (.iconst 0, 1) := by decide +kernel
theorem dX12_isGood_67 : decode cX12_isGood 67 = .ok (.ireturn, 1) := by decide +kernel
theorem dX12_isGood_68 : decode cX12_isGood 68 = .ok (.iload_n 2, 1) := by decide +kernel
theorem dX12_isGood_69 : decode cX12_isGood 69 = .ok (.bipush 48, 2) := by decide +kernel
theorem dX12_isGood_71 : decode cX12_isGood 71 = .ok (.isub, 1) := by decide +kernel
theorem dX12_isGood_72 : decode cX12_isGood 72 = .ok (.iconst 0, 1) := by decide +kernel
theorem dX12_isGood_73 : decode cX12_isGood 73 = .ok (.iconst 4, 1) := by decide +kernel
theorem dX12_isGood_74 : decode cX12_isGood 74 = .ok (.invokestatic 59, 3) := by decide +kernel
theorem dX12_isGood_77 : decode cX12_isGood 77 = .ok (.ireturn, 1) := by decide +kernel
theorem dX12_isWhole_0 : decode cX12_isWhole 0 = .ok (.aload_n 0, 1) := by decide +kernel
theorem dX12_isWhole_1 : decode cX12_isWhole 1 = .ok (.getfield 63, 3) := by decide +kernel
theorem dX12_isWhole_4 : decode cX12_isWhole 4 = .ok (.iconst 4, 1) := by decide +kernel
theorem dX12_isWhole_5 : decode cX12_isWhole 5 = .ok (.irem, 1) := by decide +kernel
theorem dX12_isWhole_6 : decode cX12_isWhole 6 = .ok (.iconst 3, 1) := by decide +kernel
theorem dX12_isWhole_7 : decode cX12_isWhole 7 = .ok (.if_icmp .ne 16, 3) := by decide +kernel
theorem dX12_isWhole_10 : decode cX12_isWhole 10 = .ok (.aload_n 0, 1) := by decide +kernel
theorem dX12_isWhole_11 : decode cX12_isWhole 11 = .ok (.getfield 63, 3) := by decide +kernel
theorem dX12_isWhole_14 : decode cX12_isWhole 14 = .ok (.bipush 6, 2) := by decide +kernel
theorem dX12_isWhole_16 : decode cX12_isWhole 16 = .ok (.if_icmp .le 7, 3) := by decide +kernel
theorem dX12_isWhole_19 : decode cX12_isWhole 19 = .ok (.iconst 1, 1) := by decide +kernel
theorem dX12_isWhole_20 : decode cX12_isWhole 20 = .ok (.goto 4, 3) := by decide +kernel
theorem dX12_isWhole_23 : decode cX12_isWhole 23 = .ok (.iconst 0, 1) := by decide +kernel
theorem dX12_isWhole_24 : decode cX12_isWhole 24 = .ok (.ireturn, 1) := by decide +kernel
theorem dX12_faultNow_0 : decode cX12_faultNow 0 = .ok (.iconst 0, 1) := by decide +kernel
theorem dX12_faultNow_1 : decode cX12_faultNow 1 = .ok (.istore_n 1, 1) := by decide +kernel
theorem dX12_faultNow_2 : decode cX12_faultNow 2 = .ok (.iload_n 1, 1) := by decide +kernel
theorem dX12_faultNow_3 : decode cX12_faultNow 3 = .ok (.aload_n 0, 1) := by decide +kernel
theorem dX12_faultNow_4 : decode cX12_faultNow 4 = .ok (.getfield 63, 3) := by decide +kernel
theorem dX12_faultNow_7 : decode cX12_faultNow 7 = .ok (.if_icmp .ge 17, 3) := by decide +kernel
theorem dX12_faultNow_10 : decode cX12_faultNow 10 = .ok (.aload_n 0, 1) := by decide +kernel
theorem dX12_faultNow_11 : decode cX12_faultNow 11 = .ok (.iload_n 1, 1) := by decide +kernel
theorem dX12_faultNow_12 : decode cX12_faultNow 12 = .ok (.invokevirtual 71, 3) := by decide +kernel
theorem dX12_faultNow_15 : decode cX12_faultNow 15 = .ok (.ifCond .eq 9, 3) := by decide +kernel
theorem dX12_faultNow_18 : decode cX12_faultNow 18 = .ok (.iinc 1 1, 3) := by decide +kernel
theorem dX12_faultNow_21 : decode cX12_faultNow 21 = .ok (.goto (-19), 3) := by decide +kernel
theorem dX12_faultNow_24 : decode cX12_faultNow 24 = .ok (.iload_n 1, 1) := by decide +kernel
theorem dX12_faultNow_25 : decode cX12_faultNow 25 = .ok (.aload_n 0, 1) := by decide +kernel
theorem dX12_faultNow_26 : decode cX12_faultNow 26 = .ok (.getfield 63, 3) := by decide +kernel
theorem dX12_faultNow_29 : decode cX12_faultNow 29 = .ok (.if_icmp .lt 10, 3) := by decide +kernel
theorem dX12_faultNow_32 : decode cX12_faultNow 32 = .ok (.aload_n 0, 1) := by decide +kernel
theorem dX12_faultNow_33 : decode cX12_faultNow 33 = .ok (.invokevirtual 75, 3) := by decide +kernel
theorem dX12_faultNow_36 : decode cX12_faultNow 36 = .ok (.ifCond .ne 5, 3) := by decide +kernel
theorem dX12_faultNow_39 : decode cX12_faultNow 39 = .ok (.iload_n 1, 1) := by decide +kernel
theorem dX12_faultNow_40 : decode cX12_faultNow 40 = .ok (.ireturn, 1) := by decide +kernel
theorem dX12_faultNow_41 : decode cX12_faultNow 41 = .ok (.aload_n 0, 1) := by decide +kernel
theorem dX12_faultNow_42 : decode cX12_faultNow 42 = .ok (.getfield 63, 3) := by decide +kernel
theorem dX12_faultNow_45 : decode cX12_faultNow 45 = .ok (.iconst 1, 1) := by decide +kernel
theorem dX12_faultNow_46 : decode cX12_faultNow 46 = .ok (.iadd, 1) := by decide +kernel
theorem dX12_faultNow_47 : decode cX12_faultNow 47 = .ok (.iconst 4, 1) := by decide +kernel
theorem dX12_faultNow_48 : decode cX12_faultNow 48 = .ok (.idiv, 1) := by decide +kernel
theorem dX12_faultNow_49 : decode cX12_faultNow 49 = .ok (.istore_n 2, 1) := by decide +kernel
theorem dX12_faultNow_50 : decode cX12_faultNow 50 = .ok (.iconst 0, 1) := by decide +kernel
theorem dX12_faultNow_51 : decode cX12_faultNow 51 = .ok (.istore_n 3, 1) := by decide +kernel
theorem dX12_faultNow_52 : decode cX12_faultNow 52 = .ok (.iload_n 3, 1) := by decide +kernel
theorem dX12_faultNow_53 : decode cX12_faultNow 53 = .ok (.aload_n 0, 1) := by decide +kernel
theorem dX12_faultNow_54 : decode cX12_faultNow 54 = .ok (.getfield 63, 3) := by decide +kernel
theorem dX12_faultNow_57 : decode cX12_faultNow 57 = .ok (.if_icmp .ge 35, 3) := by decide +kernel
theorem dX12_faultNow_60 : decode cX12_faultNow 60 = .ok (.iload_n 3, 1) := by decide +kernel
theorem dX12_faultNow_61 : decode cX12_faultNow 61 = .ok (.iconst 4, 1) := by decide +kernel
theorem dX12_faultNow_62 : decode cX12_faultNow 62 = .ok (.irem, 1) := by decide +kernel
theorem dX12_faultNow_63 : decode cX12_faultNow 63 = .ok (.ifCond .eq 23, 3) := by decide +kernel
theorem dX12_faultNow_66 : decode cX12_faultNow 66 = .ok (.iload_n 3, 1) := by decide +kernel
theorem dX12_faultNow_67 : decode cX12_faultNow 67 = .ok (.iconst 4, 1) := by decide +kernel
theorem dX12_faultNow_68 : decode cX12_faultNow 68 = .ok (.irem, 1) := by decide +kernel
theorem dX12_faultNow_69 : decode cX12_faultNow 69 = .ok (.iconst 3, 1) := by decide +kernel
theorem dX12_faultNow_70 : decode cX12_faultNow 70 = .ok (.if_icmp .eq 16, 3) := by decide +kernel
theorem dX12_faultNow_73 : decode cX12_faultNow 73 = .ok (.aload_n 0, 1) := by decide +kernel
theorem dX12_faultNow_74 : decode cX12_faultNow 74 = .ok (.getfield 31, 3) := by decide +kernel
theorem dX12_faultNow_77 : decode cX12_faultNow 77 = .ok (.iload_n 3, 1) := by decide +kernel
theorem dX12_faultNow_78 : decode cX12_faultNow 78 = .ok (.baload, 1) := by decide +kernel
theorem dX12_faultNow_79 : decode cX12_faultNow 79 = .ok (.bipush 48, 2) := by decide +kernel
theorem dX12_faultNow_81 : decode cX12_faultNow 81 = .ok (.isub, 1) := by decide +kernel
theorem dX12_faultNow_82 : decode cX12_faultNow 82 = .ok (.iload_n 2, 1) := by decide +kernel
theorem dX12_faultNow_83 : decode cX12_faultNow 83 = .ok (.if_icmp .ge 9, 3) := by decide +kernel
theorem dX12_faultNow_86 : decode cX12_faultNow 86 = .ok (.iinc 3 1, 3) := by decide +kernel
theorem dX12_faultNow_89 : decode cX12_faultNow 89 = .ok (.goto (-37), 3) := by decide +kernel
theorem dX12_faultNow_92 : decode cX12_faultNow 92 = .ok (.iload_n 3, 1) := by decide +kernel
theorem dX12_faultNow_93 : decode cX12_faultNow 93 = .ok (.ireturn, 1) := by decide +kernel
theorem dX12_fault_0 : decode cX12_fault 0 = .ok (.aload_n 0, 1) := by decide +kernel
theorem dX12_fault_1 : decode cX12_fault 1 = .ok (.invokevirtual 79, 3) := by decide +kernel
theorem dX12_fault_4 : decode cX12_fault 4 = .ok (.ireturn, 1) := by decide +kernel
theorem dX12_town_0 : decode cX12_town 0 = .ok (.aload_n 0, 1) := by decide +kernel
theorem dX12_town_1 : decode cX12_town 1 = .ok (.invokevirtual 75, 3) := by decide +kernel
theorem dX12_town_4 : decode cX12_town 4 = .ok (.ifCond .eq 14, 3) := by decide +kernel
theorem dX12_town_7 : decode cX12_town 7 = .ok (.aload_n 0, 1) := by decide +kernel
theorem dX12_town_8 : decode cX12_town 8 = .ok (.invokevirtual 79, 3) := by decide +kernel
theorem dX12_town_11 : decode cX12_town 11 = .ok (.aload_n 0, 1) := by decide +kernel
theorem dX12_town_12 : decode cX12_town 12 = .ok (.getfield 63, 3) := by decide +kernel
theorem dX12_town_15 : decode cX12_town 15 = .ok (.if_icmp .eq 6, 3) := by decide +kernel
theorem dX12_town_18 : decode cX12_town 18 = .ok (.bipush (-103), 2) := by decide +kernel
theorem dX12_town_20 : decode cX12_town 20 = .ok (.ireturn, 1) := by decide +kernel
theorem dX12_town_21 : decode cX12_town 21 = .ok (.aload_n 0, 1) := by decide +kernel
theorem dX12_town_22 : decode cX12_town 22 = .ok (.aload_n 0, 1) := by decide +kernel
theorem dX12_town_23 : decode cX12_town 23 = .ok (.getfield 63, 3) := by decide +kernel
theorem dX12_town_26 : decode cX12_town 26 = .ok (.iconst 1, 1) := by decide +kernel
theorem dX12_town_27 : decode cX12_town 27 = .ok (.iadd, 1) := by decide +kernel
theorem dX12_town_28 : decode cX12_town 28 = .ok (.iconst 4, 1) := by decide +kernel
theorem dX12_town_29 : decode cX12_town 29 = .ok (.idiv, 1) := by decide +kernel
theorem dX12_town_30 : decode cX12_town 30 = .ok (.putfield 83, 3) := by decide +kernel
theorem dX12_town_33 : decode cX12_town 33 = .ok (.iconst 0, 1) := by decide +kernel
theorem dX12_town_34 : decode cX12_town 34 = .ok (.istore_n 1, 1) := by decide +kernel
theorem dX12_town_35 : decode cX12_town 35 = .ok (.iload_n 1, 1) := by decide +kernel
theorem dX12_town_36 : decode cX12_town 36 = .ok (.aload_n 0, 1) := by decide +kernel
theorem dX12_town_37 : decode cX12_town 37 = .ok (.getfield 83, 3) := by decide +kernel
theorem dX12_town_40 : decode cX12_town 40 = .ok (.if_icmp .ge 84, 3) := by decide +kernel
theorem dX12_town_43 : decode cX12_town 43 = .ok (.aload_n 0, 1) := by decide +kernel
theorem dX12_town_44 : decode cX12_town 44 = .ok (.getfield 7, 3) := by decide +kernel
theorem dX12_town_47 : decode cX12_town 47 = .ok (.iload_n 1, 1) := by decide +kernel
theorem dX12_town_48 : decode cX12_town 48 = .ok (.aload_n 0, 1) := by decide +kernel
theorem dX12_town_49 : decode cX12_town 49 = .ok (.getfield 31, 3) := by decide +kernel
theorem dX12_town_52 : decode cX12_town 52 = .ok (.iconst 4, 1) := by decide +kernel
theorem dX12_town_53 : decode cX12_town 53 = .ok (.iload_n 1, 1) := by decide +kernel
theorem dX12_town_54 : decode cX12_town 54 = .ok (.imul, 1) := by decide +kernel
theorem dX12_town_55 : decode cX12_town 55 = .ok (.baload, 1) := by decide +kernel
theorem dX12_town_56 : decode cX12_town 56 = .ok (.invokestatic 67, 3) := by decide +kernel
theorem dX12_town_59 : decode cX12_town 59 = .ok (.iastore, 1) := by decide +kernel
theorem dX12_town_60 : decode cX12_town 60 = .ok (.aload_n 0, 1) := by decide +kernel
theorem dX12_town_61 : decode cX12_town 61 = .ok (.getfield 13, 3) := by decide +kernel
theorem dX12_town_64 : decode cX12_town 64 = .ok (.iconst 2, 1) := by decide +kernel
theorem dX12_town_65 : decode cX12_town 65 = .ok (.iload_n 1, 1) := by decide +kernel
theorem dX12_town_66 : decode cX12_town 66 = .ok (.imul, 1) := by decide +kernel
theorem dX12_town_67 : decode cX12_town 67 = .ok (.aload_n 0, 1) := by decide +kernel
theorem dX12_town_68 : decode cX12_town 68 = .ok (.getfield 31, 3) := by decide +kernel
theorem dX12_town_71 : decode cX12_town 71 = .ok (.iconst 4, 1) := by decide +kernel
theorem dX12_town_72 : decode cX12_town 72 = .ok (.iload_n 1, 1) := by decide +kernel
theorem dX12_town_73 : decode cX12_town 73 = .ok (.imul, 1) := by decide +kernel
theorem dX12_town_74 : decode cX12_town 74 = .ok (.iconst 1, 1) := by decide +kernel
