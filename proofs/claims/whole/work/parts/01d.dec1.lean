theorem dX0_init_0 : decode cX0_init 0 = .ok (.aload_n 0, 1) := by decide +kernel
theorem dX0_init_1 : decode cX0_init 1 = .ok (.iload_n 1, 1) := by decide +kernel
theorem dX0_init_2 : decode cX0_init 2 = .ok (.invokespecial 1, 3) := by decide +kernel
theorem dX0_init_5 : decode cX0_init 5 = .ok (.return_, 1) := by decide +kernel
theorem dX0_isSpelt_0 : decode cX0_isSpelt 0 = .ok (.iload_n 1, 1) := by decide +kernel
theorem dX0_isSpelt_1 : decode cX0_isSpelt 1 = .ok (.ifCond .ne 7, 3) := by decide +kernel
theorem dX0_isSpelt_4 : decode cX0_isSpelt 4 = .ok (.iload_n 2, 1) := by decide +kernel
theorem dX0_isSpelt_5 : decode cX0_isSpelt 5 = .ok (.ifCond .eq 7, 3) := by decide +kernel
theorem dX0_isSpelt_8 : decode cX0_isSpelt 8 = .ok (.iconst 1, 1) := by decide +kernel
theorem dX0_isSpelt_9 : decode cX0_isSpelt 9 = .ok (.goto 4, 3) := by decide +kernel
theorem dX0_isSpelt_12 : decode cX0_isSpelt 12 = .ok (.iconst 0, 1) := by decide +kernel
theorem dX0_isSpelt_13 : decode cX0_isSpelt 13 = .ok (.ireturn, 1) := by decide +kernel
theorem dX1_init_0 : decode cX1_init 0 = .ok (.aload_n 0, 1) := by decide +kernel
theorem dX1_init_1 : decode cX1_init 1 = .ok (.invokespecial 3, 3) := by decide +kernel
theorem dX1_init_4 : decode cX1_init 4 = .ok (.aload_n 0, 1) := by decide +kernel
theorem dX1_init_5 : decode cX1_init 5 = .ok (.bipush 25, 2) := by decide +kernel
theorem dX1_init_7 : decode cX1_init 7 = .ok (.newarray .int, 2) := by decide +kernel
theorem dX1_init_9 : decode cX1_init 9 = .ok (.putfield 9, 3) := by decide +kernel
theorem dX1_init_12 : decode cX1_init 12 = .ok (.aload_n 0, 1) := by decide +kernel
theorem dX1_init_13 : decode cX1_init 13 = .ok (.bipush 25, 2) := by decide +kernel
theorem dX1_init_15 : decode cX1_init 15 = .ok (.newarray .int, 2) := by decide +kernel
theorem dX1_init_17 : decode cX1_init 17 = .ok (.putfield 15, 3) := by decide +kernel
theorem dX1_init_20 : decode cX1_init 20 = .ok (.return_, 1) := by decide +kernel
theorem dX1_gather_0 : decode cX1_gather 0 = .ok (.aload_n 0, 1) := by decide +kernel
theorem dX1_gather_1 : decode cX1_gather 1 = .ok (.iload_n 2, 1) := by decide +kernel
theorem dX1_gather_2 : decode cX1_gather 2 = .ok (.putfield 18, 3) := by decide +kernel
theorem dX1_gather_5 : decode cX1_gather 5 = .ok (.aload_n 0, 1) := by decide +kernel
theorem dX1_gather_6 : decode cX1_gather 6 = .ok (.iconst 0, 1) := by decide +kernel
theorem dX1_gather_7 : decode cX1_gather 7 = .ok (.putfield 22, 3) := by decide +kernel
theorem dX1_gather_10 : decode cX1_gather 10 = .ok (.iconst 0, 1) := by decide +kernel
theorem dX1_gather_11 : decode cX1_gather 11 = .ok (.istore_n 3, 1) := by decide +kernel
theorem dX1_gather_12 : decode cX1_gather 12 = .ok (.iload_n 3, 1) := by decide +kernel
theorem dX1_gather_13 : decode cX1_gather 13 = .ok (.aload_n 1, 1) := by decide +kernel
theorem dX1_gather_14 : decode cX1_gather 14 = .ok (.getfield 25, 3) := by decide +kernel
theorem dX1_gather_17 : decode cX1_gather 17 = .ok (.if_icmp .ge 73, 3) := by decide +kernel
theorem dX1_gather_20 : decode cX1_gather 20 = .ok (.iconst 0, 1) := by decide +kernel
theorem dX1_gather_21 : decode cX1_gather 21 = .ok (.istore 4, 2) := by decide +kernel
theorem dX1_gather_23 : decode cX1_gather 23 = .ok (.iload 4, 2) := by decide +kernel
theorem dX1_gather_25 : decode cX1_gather 25 = .ok (.aload_n 1, 1) := by decide +kernel
theorem dX1_gather_26 : decode cX1_gather 26 = .ok (.getfield 25, 3) := by decide +kernel
theorem dX1_gather_29 : decode cX1_gather 29 = .ok (.if_icmp .ge 55, 3) := by decide +kernel
theorem dX1_gather_32 : decode cX1_gather 32 = .ok (.aload_n 0, 1) := by decide +kernel
theorem dX1_gather_33 : decode cX1_gather 33 = .ok (.aload_n 1, 1) := by decide +kernel
theorem dX1_gather_34 : decode cX1_gather 34 = .ok (.iload_n 3, 1) := by decide +kernel
theorem dX1_gather_35 : decode cX1_gather 35 = .ok (.iload 4, 2) := by decide +kernel
theorem dX1_gather_37 : decode cX1_gather 37 = .ok (.invokevirtual 30, 3) := by decide +kernel
theorem dX1_gather_40 : decode cX1_gather 40 = .ok (.ifCond .eq 38, 3) := by decide +kernel
theorem dX1_gather_43 : decode cX1_gather 43 = .ok (.aload_n 0, 1) := by decide +kernel
theorem dX1_gather_44 : decode cX1_gather 44 = .ok (.getfield 9, 3) := by decide +kernel
theorem dX1_gather_47 : decode cX1_gather 47 = .ok (.aload_n 0, 1) := by decide +kernel
theorem dX1_gather_48 : decode cX1_gather 48 = .ok (.getfield 22, 3) := by decide +kernel
theorem dX1_gather_51 : decode cX1_gather 51 = .ok (.iload_n 3, 1) := by decide +kernel
theorem dX1_gather_52 : decode cX1_gather 52 = .ok (.invokestatic 34, 3) := by decide +kernel
theorem dX1_gather_55 : decode cX1_gather 55 = .ok (.aload_n 0, 1) := by decide +kernel
theorem dX1_gather_56 : decode cX1_gather 56 = .ok (.getfield 15, 3) := by decide +kernel
theorem dX1_gather_59 : decode cX1_gather 59 = .ok (.aload_n 0, 1) := by decide +kernel
theorem dX1_gather_60 : decode cX1_gather 60 = .ok (.getfield 22, 3) := by decide +kernel
theorem dX1_gather_63 : decode cX1_gather 63 = .ok (.iload 4, 2) := by decide +kernel
theorem dX1_gather_65 : decode cX1_gather 65 = .ok (.invokestatic 34, 3) := by decide +kernel
theorem dX1_gather_68 : decode cX1_gather 68 = .ok (.aload_n 0, 1) := by decide +kernel
theorem dX1_gather_69 : decode cX1_gather 69 = .ok (.dup, 1) := by decide +kernel
theorem dX1_gather_70 : decode cX1_gather 70 = .ok (.getfield 22, 3) := by decide +kernel
theorem dX1_gather_73 : decode cX1_gather 73 = .ok (.iconst 1, 1) := by decide +kernel
theorem dX1_gather_74 : decode cX1_gather 74 = .ok (.iadd, 1) := by decide +kernel
theorem dX1_gather_75 : decode cX1_gather 75 = .ok (.putfield 22, 3) := by decide +kernel
theorem dX1_gather_78 : decode cX1_gather 78 = .ok (.iinc 4 1, 3) := by decide +kernel
theorem dX1_gather_81 : decode cX1_gather 81 = .ok (.goto (-58), 3) := by decide +kernel
theorem dX1_gather_84 : decode cX1_gather 84 = .ok (.iinc 3 1, 3) := by decide +kernel
theorem dX1_gather_87 : decode cX1_gather 87 = .ok (.goto (-75), 3) := by decide +kernel
theorem dX1_gather_90 : decode cX1_gather 90 = .ok (.return_, 1) := by decide +kernel
theorem dX1_agrees_0 : decode cX1_agrees 0 = .ok (.aload_n 1, 1) := by decide +kernel
theorem dX1_agrees_1 : decode cX1_agrees 1 = .ok (.getfield 38, 3) := by decide +kernel
theorem dX1_agrees_4 : decode cX1_agrees 4 = .ok (.astore 4, 2) := by decide +kernel
theorem dX1_agrees_6 : decode cX1_agrees 6 = .ok (.iconst 0, 1) := by decide +kernel
theorem dX1_agrees_7 : decode cX1_agrees 7 = .ok (.istore 5, 2) := by decide +kernel
theorem dX1_agrees_9 : decode cX1_agrees 9 = .ok (.iload 5, 2) := by decide +kernel
theorem dX1_agrees_11 : decode cX1_agrees 11 = .ok (.aload 4, 2) := by decide +kernel
theorem dX1_agrees_13 : decode cX1_agrees 13 = .ok (.getfield 42, 3) := by decide +kernel
theorem dX1_agrees_16 : decode cX1_agrees 16 = .ok (.if_icmp .ge 74, 3) := by decide +kernel
theorem dX1_agrees_19 : decode cX1_agrees 19 = .ok (.aload 4, 2) := by decide +kernel
theorem dX1_agrees_21 : decode cX1_agrees 21 = .ok (.getfield 47, 3) := by decide +kernel
theorem dX1_agrees_24 : decode cX1_agrees 24 = .ok (.iload 5, 2) := by decide +kernel
theorem dX1_agrees_26 : decode cX1_agrees 26 = .ok (.invokestatic 50, 3) := by decide +kernel
theorem dX1_agrees_29 : decode cX1_agrees 29 = .ok (.aload_n 0, 1) := by decide +kernel
theorem dX1_agrees_30 : decode cX1_agrees 30 = .ok (.getfield 18, 3) := by decide +kernel
theorem dX1_agrees_33 : decode cX1_agrees 33 = .ok (.if_icmp .ne 51, 3) := by decide +kernel
theorem dX1_agrees_36 : decode cX1_agrees 36 = .ok (.aload_n 1, 1) := by decide +kernel
theorem dX1_agrees_37 : decode cX1_agrees 37 = .ok (.aload_n 0, 1) := by decide +kernel
theorem dX1_agrees_38 : decode cX1_agrees 38 = .ok (.getfield 18, 3) := by decide +kernel
theorem dX1_agrees_41 : decode cX1_agrees 41 = .ok (.aload 4, 2) := by decide +kernel
theorem dX1_agrees_43 : decode cX1_agrees 43 = .ok (.getfield 54, 3) := by decide +kernel
theorem dX1_agrees_46 : decode cX1_agrees 46 = .ok (.iload 5, 2) := by decide +kernel
theorem dX1_agrees_48 : decode cX1_agrees 48 = .ok (.invokestatic 50, 3) := by decide +kernel
theorem dX1_agrees_51 : decode cX1_agrees 51 = .ok (.iload_n 2, 1) := by decide +kernel
theorem dX1_agrees_52 : decode cX1_agrees 52 = .ok (.iload_n 3, 1) := by decide +kernel
theorem dX1_agrees_53 : decode cX1_agrees 53 = .ok (.invokevirtual 57, 3) := by decide +kernel
theorem dX1_agrees_56 : decode cX1_agrees 56 = .ok (.istore 6, 2) := by decide +kernel
theorem dX1_agrees_58 : decode cX1_agrees 58 = .ok (.iload 6, 2) := by decide +kernel
theorem dX1_agrees_60 : decode cX1_agrees 60 = .ok (.aload 4, 2) := by decide +kernel
theorem dX1_agrees_62 : decode cX1_agrees 62 = .ok (.getfield 61, 3) := by decide +kernel
theorem dX1_agrees_65 : decode cX1_agrees 65 = .ok (.iload 5, 2) := by decide +kernel
theorem dX1_agrees_67 : decode cX1_agrees 67 = .ok (.invokestatic 50, 3) := by decide +kernel
theorem dX1_agrees_70 : decode cX1_agrees 70 = .ok (.iconst 1, 1) := by decide +kernel
theorem dX1_agrees_71 : decode cX1_agrees 71 = .ok (.if_icmp .ne 7, 3) := by decide +kernel
theorem dX1_agrees_74 : decode cX1_agrees 74 = .ok (.iconst 1, 1) := by decide +kernel
theorem dX1_agrees_75 : decode cX1_agrees 75 = .ok (.goto 4, 3) := by decide +kernel
theorem dX1_agrees_78 : decode cX1_agrees 78 = .ok (.iconst 0, 1) := by decide +kernel
theorem dX1_agrees_79 : decode cX1_agrees 79 = .ok (.if_icmp .eq 5, 3) := by decide +kernel
theorem dX1_agrees_82 : decode cX1_agrees 82 = .ok (.iconst 0, 1) := by decide +kernel
theorem dX1_agrees_83 : decode cX1_agrees 83 = .ok (.ireturn, 1) := by decide +kernel
theorem dX1_agrees_84 : decode cX1_agrees 84 = .ok (.iinc 5 1, 3) := by decide +kernel
theorem dX1_agrees_87 : decode cX1_agrees 87 = .ok (.goto (-78), 3) := by decide +kernel
theorem dX1_agrees_90 : decode cX1_agrees 90 = .ok (.iconst 1, 1) := by decide +kernel
theorem dX1_agrees_91 : decode cX1_agrees 91 = .ok (.ireturn, 1) := by decide +kernel
theorem dX1_least_0 : decode cX1_least 0 = .ok (.aload_n 0, 1) := by decide +kernel
theorem dX1_least_1 : decode cX1_least 1 = .ok (.getfield 22, 3) := by decide +kernel
theorem dX1_least_4 : decode cX1_least 4 = .ok (.ifCond .ne 7, 3) := by decide +kernel
theorem dX1_least_7 : decode cX1_least 7 = .ok (.iconst (-1), 1) := by decide +kernel
theorem dX1_least_8 : decode cX1_least 8 = .ok (.goto 23, 3) := by decide +kernel
theorem dX1_least_11 : decode cX1_least 11 = .ok (.bipush 10, 2) := by decide +kernel
theorem dX1_least_13 : decode cX1_least 13 = .ok (.aload_n 0, 1) := by decide +kernel
theorem dX1_least_14 : decode cX1_least 14 = .ok (.getfield 9, 3) := by decide +kernel
theorem dX1_least_17 : decode cX1_least 17 = .ok (.iconst 0, 1) := by decide +kernel
theorem dX1_least_18 : decode cX1_least 18 = .ok (.invokestatic 50, 3) := by decide +kernel
theorem dX1_least_21 : decode cX1_least 21 = .ok (.imul, 1) := by decide +kernel
theorem dX1_least_22 : decode cX1_least 22 = .ok (.aload_n 0, 1) := by decide +kernel
theorem dX1_least_23 : decode cX1_least 23 = .ok (.getfield 15, 3) := by decide +kernel
theorem dX1_least_26 : decode cX1_least 26 = .ok (.iconst 0, 1) := by decide +kernel
theorem dX1_least_27 : decode cX1_least 27 = .ok (.invokestatic 50, 3) := by decide +kernel
theorem dX1_least_30 : decode cX1_least 30 = .ok (.iadd, 1) := by decide +kernel
theorem dX1_least_31 : decode cX1_least 31 = .ok (.ireturn, 1) := by decide +kernel
theorem dX1_bestCompany_0 : decode cX1_bestCompany 0 = .ok (.aload_n 0, 1) := by decide +kernel
theorem dX1_bestCompany_1 : decode cX1_bestCompany 1 = .ok (.getfield 22, 3) := by decide +kernel
theorem dX1_bestCompany_4 : decode cX1_bestCompany 4 = .ok (.ifCond .ne 5, 3) := by decide +kernel
theorem dX1_bestCompany_7 : decode cX1_bestCompany 7 = .ok (.iconst (-1), 1) := by decide +kernel
theorem dX1_bestCompany_8 : decode cX1_bestCompany 8 = .ok (.ireturn, 1) := by decide +kernel
theorem dX1_bestCompany_9 : decode cX1_bestCompany 9 = .ok (.iconst (-1), 1) := by decide +kernel
theorem dX1_bestCompany_10 : decode cX1_bestCompany 10 = .ok (.istore_n 2, 1) := by decide +kernel
theorem dX1_bestCompany_11 : decode cX1_bestCompany 11 = .ok (.aload_n 0, 1) := by decide +kernel
theorem dX1_bestCompany_12 : decode cX1_bestCompany 12 = .ok (.getfield 22, 3) := by decide +kernel
theorem dX1_bestCompany_15 : decode cX1_bestCompany 15 = .ok (.iconst 1, 1) := by decide +kernel
theorem dX1_bestCompany_16 : decode cX1_bestCompany 16 = .ok (.iadd, 1) := by decide +kernel
theorem dX1_bestCompany_17 : decode cX1_bestCompany 17 = .ok (.istore_n 3, 1) := by decide +kernel
theorem dX1_bestCompany_18 : decode cX1_bestCompany 18 = .ok (.iconst 0, 1) := by decide +kernel
theorem dX1_bestCompany_19 : decode cX1_bestCompany 19 = .ok (.istore 4, 2) := by decide +kernel
theorem dX1_bestCompany_21 : decode cX1_bestCompany 21 = .ok (.iload 4, 2) := by decide +kernel
theorem dX1_bestCompany_23 : decode cX1_bestCompany 23 = .ok (.iconst 1, 1) := by decide +kernel
theorem dX1_bestCompany_24 : decode cX1_bestCompany 24 = .ok (.aload_n 1, 1) := by decide +kernel
theorem dX1_bestCompany_25 : decode cX1_bestCompany 25 = .ok (.getfield 25, 3) := by decide +kernel
theorem dX1_bestCompany_28 : decode cX1_bestCompany 28 = .ok (.ishl, 1) := by decide +kernel
theorem dX1_bestCompany_29 : decode cX1_bestCompany 29 = .ok (.if_icmp .ge 43, 3) := by decide +kernel
theorem dX1_bestCompany_32 : decode cX1_bestCompany 32 = .ok (.aload_n 1, 1) := by decide +kernel
theorem dX1_bestCompany_33 : decode cX1_bestCompany 33 = .ok (.aload_n 0, 1) := by decide +kernel
theorem dX1_bestCompany_34 : decode cX1_bestCompany 34 = .ok (.getfield 18, 3) := by decide +kernel
theorem dX1_bestCompany_37 : decode cX1_bestCompany 37 = .ok (.iload 4, 2) := by decide +kernel
theorem dX1_bestCompany_39 : decode cX1_bestCompany 39 = .ok (.invokevirtual 64, 3) := by decide +kernel
theorem dX1_bestCompany_42 : decode cX1_bestCompany 42 = .ok (.ifCond .eq 24, 3) := by decide +kernel
theorem dX1_bestCompany_45 : decode cX1_bestCompany 45 = .ok (.aload_n 0, 1) := by decide +kernel
theorem dX1_bestCompany_46 : decode cX1_bestCompany 46 = .ok (.aload_n 1, 1) := by decide +kernel
theorem dX1_bestCompany_47 : decode cX1_bestCompany 47 = .ok (.iload 4, 2) := by decide +kernel
theorem dX1_bestCompany_49 : decode cX1_bestCompany 49 = .ok (.invokevirtual 68, 3) := by decide +kernel
theorem dX1_bestCompany_52 : decode cX1_bestCompany 52 = .ok (.istore 5, 2) := by decide +kernel
theorem dX1_bestCompany_54 : decode cX1_bestCompany 54 = .ok (.iload 5, 2) := by decide +kernel
theorem dX1_bestCompany_56 : decode cX1_bestCompany 56 = .ok (.iload_n 3, 1) := by decide +kernel
theorem dX1_bestCompany_57 : decode cX1_bestCompany 57 = .ok (.if_icmp .ge 9, 3) := by decide +kernel
theorem dX1_bestCompany_60 : decode cX1_bestCompany 60 = .ok (.iload 5, 2) := by decide +kernel
theorem dX1_bestCompany_62 : decode cX1_bestCompany 62 = .ok (.istore_n 3, 1) := by decide +kernel
theorem dX1_bestCompany_63 : decode cX1_bestCompany 63 = .ok (.iload 4, 2) := by decide +kernel
theorem dX1_bestCompany_65 : decode cX1_bestCompany 65 = .ok (.istore_n 2, 1) := by decide +kernel
theorem dX1_bestCompany_66 : decode cX1_bestCompany 66 = .ok (.iinc 4 1, 3) := by decide +kernel
theorem dX1_bestCompany_69 : decode cX1_bestCompany 69 = .ok (.goto (-48), 3) := by decide +kernel
theorem dX1_bestCompany_72 : decode cX1_bestCompany 72 = .ok (.iload_n 2, 1) := by decide +kernel
theorem dX1_bestCompany_73 : decode cX1_bestCompany 73 = .ok (.ireturn, 1) := by decide +kernel
theorem dX1_leftAtWorst_0 : decode cX1_leftAtWorst 0 = .ok (.iconst 0, 1) := by decide +kernel
theorem dX1_leftAtWorst_1 : decode cX1_leftAtWorst 1 = .ok (.istore_n 3, 1) := by decide +kernel
theorem dX1_leftAtWorst_2 : decode cX1_leftAtWorst 2 = .ok (.iconst 0, 1) := by decide +kernel
theorem dX1_leftAtWorst_3 : decode cX1_leftAtWorst 3 = .ok (.istore 4, 2) := by decide +kernel
theorem dX1_leftAtWorst_5 : decode cX1_leftAtWorst 5 = .ok (.iload 4, 2) := by decide +kernel
theorem dX1_leftAtWorst_7 : decode cX1_leftAtWorst 7 = .ok (.aload_n 0, 1) := by decide +kernel
theorem dX1_leftAtWorst_8 : decode cX1_leftAtWorst 8 = .ok (.getfield 22, 3) := by decide +kernel
theorem dX1_leftAtWorst_11 : decode cX1_leftAtWorst 11 = .ok (.if_icmp .ge 42, 3) := by decide +kernel
theorem dX1_leftAtWorst_14 : decode cX1_leftAtWorst 14 = .ok (.aload_n 1, 1) := by decide +kernel
theorem dX1_leftAtWorst_15 : decode cX1_leftAtWorst 15 = .ok (.aload_n 0, 1) := by decide +kernel
theorem dX1_leftAtWorst_16 : decode cX1_leftAtWorst 16 = .ok (.getfield 18, 3) := by decide +kernel
theorem dX1_leftAtWorst_19 : decode cX1_leftAtWorst 19 = .ok (.iload_n 2, 1) := by decide +kernel
theorem dX1_leftAtWorst_20 : decode cX1_leftAtWorst 20 = .ok (.aload_n 0, 1) := by decide +kernel
theorem dX1_leftAtWorst_21 : decode cX1_leftAtWorst 21 = .ok (.getfield 9, 3) := by decide +kernel
theorem dX1_leftAtWorst_24 : decode cX1_leftAtWorst 24 = .ok (.iload 4, 2) := by decide +kernel
theorem dX1_leftAtWorst_26 : decode cX1_leftAtWorst 26 = .ok (.invokestatic 50, 3) := by decide +kernel
theorem dX1_leftAtWorst_29 : decode cX1_leftAtWorst 29 = .ok (.aload_n 0, 1) := by decide +kernel
theorem dX1_leftAtWorst_30 : decode cX1_leftAtWorst 30 = .ok (.getfield 15, 3) := by decide +kernel
theorem dX1_leftAtWorst_33 : decode cX1_leftAtWorst 33 = .ok (.iload 4, 2) := by decide +kernel
theorem dX1_leftAtWorst_35 : decode cX1_leftAtWorst 35 = .ok (.invokestatic 50, 3) := by decide +kernel
theorem dX1_leftAtWorst_38 : decode cX1_leftAtWorst 38 = .ok (.invokevirtual 57, 3) := by decide +kernel
theorem dX1_leftAtWorst_41 : decode cX1_leftAtWorst 41 = .ok (.ifCond .eq 6, 3) := by decide +kernel
theorem dX1_leftAtWorst_44 : decode cX1_leftAtWorst 44 = .ok (.iinc 3 1, 3) := by decide +kernel
theorem dX1_leftAtWorst_47 : decode cX1_leftAtWorst 47 = .ok (.iinc 4 1, 3) := by decide +kernel
theorem dX1_leftAtWorst_50 : decode cX1_leftAtWorst 50 = .ok (.goto (-45), 3) := by decide +kernel
theorem dX1_leftAtWorst_53 : decode cX1_leftAtWorst 53 = .ok (.iload_n 3, 1) := by decide +kernel
theorem dX1_leftAtWorst_54 : decode cX1_leftAtWorst 54 = .ok (.aload_n 0, 1) := by decide +kernel
theorem dX1_leftAtWorst_55 : decode cX1_leftAtWorst 55 = .ok (.getfield 22, 3) := by decide +kernel
theorem dX1_leftAtWorst_58 : decode cX1_leftAtWorst 58 = .ok (.iload_n 3, 1) := by decide +kernel
theorem dX1_leftAtWorst_59 : decode cX1_leftAtWorst 59 = .ok (.isub, 1) := by decide +kernel
theorem dX1_leftAtWorst_60 : decode cX1_leftAtWorst 60 = .ok (.invokestatic 72, 3) := by decide +kernel
theorem dX1_leftAtWorst_63 : decode cX1_leftAtWorst 63 = .ok (.ireturn, 1) := by decide +kernel
theorem dX2_init_0 : decode cX2_init 0 = .ok (.aload_n 0, 1) := by decide +kernel
theorem dX2_init_1 : decode cX2_init 1 = .ok (.iconst 1, 1) := by decide +kernel
theorem dX2_init_2 : decode cX2_init 2 = .ok (.invokespecial 1, 3) := by decide +kernel
theorem dX2_init_5 : decode cX2_init 5 = .ok (.return_, 1) := by decide +kernel
theorem dX2_isSpelt_0 : decode cX2_isSpelt 0 = .ok (.iload_n 3, 1) := by decide +kernel
theorem dX2_isSpelt_1 : decode cX2_isSpelt 1 = .ok (.ifCond .eq 11, 3) := by decide +kernel
theorem dX2_isSpelt_4 : decode cX2_isSpelt 4 = .ok (.iload_n 1, 1) := by decide +kernel
theorem dX2_isSpelt_5 : decode cX2_isSpelt 5 = .ok (.ifCond .eq 11, 3) := by decide +kernel
theorem dX2_isSpelt_8 : decode cX2_isSpelt 8 = .ok (.iload_n 2, 1) := by decide +kernel
theorem dX2_isSpelt_9 : decode cX2_isSpelt 9 = .ok (.ifCond .eq 7, 3) := by decide +kernel
theorem dX2_isSpelt_12 : decode cX2_isSpelt 12 = .ok (.iconst 1, 1) := by decide +kernel
theorem dX2_isSpelt_13 : decode cX2_isSpelt 13 = .ok (.goto 4, 3) := by decide +kernel
theorem dX2_isSpelt_16 : decode cX2_isSpelt 16 = .ok (.iconst 0, 1) := by decide +kernel
theorem dX2_isSpelt_17 : decode cX2_isSpelt 17 = .ok (.ireturn, 1) := by decide +kernel
theorem dX3_init_0 : decode cX3_init 0 = .ok (.aload_n 0, 1) := by decide +kernel
theorem dX3_init_1 : decode cX3_init 1 = .ok (.invokespecial 3, 3) := by decide +kernel
theorem dX3_init_4 : decode cX3_init 4 = .ok (.aload_n 0, 1) := by decide +kernel
theorem dX3_init_5 : decode cX3_init 5 = .ok (.iconst 5, 1) := by decide +kernel
theorem dX3_init_6 : decode cX3_init 6 = .ok (.newarray .int, 2) := by decide +kernel
theorem dX3_init_8 : decode cX3_init 8 = .ok (.putfield 9, 3) := by decide +kernel
theorem dX3_init_11 : decode cX3_init 11 = .ok (.aload_n 0, 1) := by decide +kernel
theorem dX3_init_12 : decode cX3_init 12 = .ok (.iconst 5, 1) := by decide +kernel
theorem dX3_init_13 : decode cX3_init 13 = .ok (.newarray .int, 2) := by decide +kernel
theorem dX3_init_15 : decode cX3_init 15 = .ok (.putfield 15, 3) := by decide +kernel
theorem dX3_init_18 : decode cX3_init 18 = .ok (.aload_n 0, 1) := by decide +kernel
theorem dX3_init_19 : decode cX3_init 19 = .ok (.iconst 5, 1) := by decide +kernel
theorem dX3_init_20 : decode cX3_init 20 = .ok (.newarray .int, 2) := by decide +kernel
theorem dX3_init_22 : decode cX3_init 22 = .ok (.putfield 18, 3) := by decide +kernel
theorem dX3_init_25 : decode cX3_init 25 = .ok (.aload_n 0, 1) := by decide +kernel
theorem dX3_init_26 : decode cX3_init 26 = .ok (.bipush 6, 2) := by decide +kernel
theorem dX3_init_28 : decode cX3_init 28 = .ok (.newarray .int, 2) := by decide +kernel
theorem dX3_init_30 : decode cX3_init 30 = .ok (.putfield 21, 3) := by decide +kernel
theorem dX3_init_33 : decode cX3_init 33 = .ok (.aload_n 0, 1) := by decide +kernel
theorem dX3_init_34 : decode cX3_init 34 = .ok (.bipush 6, 2) := by decide +kernel
theorem dX3_init_36 : decode cX3_init 36 = .ok (.newarray .int, 2) := by decide +kernel
theorem dX3_init_38 : decode cX3_init 38 = .ok (.putfield 24, 3) := by decide +kernel
theorem dX3_init_41 : decode cX3_init 41 = .ok (.aload_n 0, 1) := by decide +kernel
theorem dX3_init_42 : decode cX3_init 42 = .ok (.bipush 6, 2) := by decide +kernel
theorem dX3_init_44 : decode cX3_init 44 = .ok (.newarray .int, 2) := by decide +kernel
theorem dX3_init_46 : decode cX3_init 46 = .ok (.putfield 27, 3) := by decide +kernel
theorem dX3_init_49 : decode cX3_init 49 = .ok (.return_, 1) := by decide +kernel
theorem dX3_clear_0 : decode cX3_clear 0 = .ok (.iconst 0, 1) := by decide +kernel
theorem dX3_clear_1 : decode cX3_clear 1 = .ok (.istore_n 1, 1) := by decide +kernel
theorem dX3_clear_2 : decode cX3_clear 2 = .ok (.iload_n 1, 1) := by decide +kernel
theorem dX3_clear_3 : decode cX3_clear 3 = .ok (.iconst 5, 1) := by decide +kernel
theorem dX3_clear_4 : decode cX3_clear 4 = .ok (.if_icmp .ge 36, 3) := by decide +kernel
theorem dX3_clear_7 : decode cX3_clear 7 = .ok (.aload_n 0, 1) := by decide +kernel
theorem dX3_clear_8 : decode cX3_clear 8 = .ok (.getfield 9, 3) := by decide +kernel
theorem dX3_clear_11 : decode cX3_clear 11 = .ok (.iload_n 1, 1) := by decide +kernel
theorem dX3_clear_12 : decode cX3_clear 12 = .ok (.iconst 0, 1) := by decide +kernel
theorem dX3_clear_13 : decode cX3_clear 13 = .ok (.invokestatic 30, 3) := by decide +kernel
theorem dX3_clear_16 : decode cX3_clear 16 = .ok (.aload_n 0, 1) := by decide +kernel
theorem dX3_clear_17 : decode cX3_clear 17 = .ok (.getfield 15, 3) := by decide +kernel
theorem dX3_clear_20 : decode cX3_clear 20 = .ok (.iload_n 1, 1) := by decide +kernel
theorem dX3_clear_21 : decode cX3_clear 21 = .ok (.iconst 0, 1) := by decide +kernel
theorem dX3_clear_22 : decode cX3_clear 22 = .ok (.invokestatic 30, 3) := by decide +kernel
theorem dX3_clear_25 : decode cX3_clear 25 = .ok (.aload_n 0, 1) := by decide +kernel
theorem dX3_clear_26 : decode cX3_clear 26 = .ok (.getfield 18, 3) := by decide +kernel
theorem dX3_clear_29 : decode cX3_clear 29 = .ok (.iload_n 1, 1) := by decide +kernel
theorem dX3_clear_30 : decode cX3_clear 30 = .ok (.iconst 0, 1) := by decide +kernel
theorem dX3_clear_31 : decode cX3_clear 31 = .ok (.invokestatic 30, 3) := by decide +kernel
theorem dX3_clear_34 : decode cX3_clear 34 = .ok (.iinc 1 1, 3) := by decide +kernel
theorem dX3_clear_37 : decode cX3_clear 37 = .ok (.goto (-35), 3) := by decide +kernel
theorem dX3_clear_40 : decode cX3_clear 40 = .ok (.aload_n 0, 1) := by decide +kernel
theorem dX3_clear_41 : decode cX3_clear 41 = .ok (.iconst 0, 1) := by decide +kernel
theorem dX3_clear_42 : decode cX3_clear 42 = .ok (.putfield 34, 3) := by decide +kernel
theorem dX3_clear_45 : decode cX3_clear 45 = .ok (.aload_n 0, 1) := by decide +kernel
theorem dX3_clear_46 : decode cX3_clear 46 = .ok (.iconst 0, 1) := by decide +kernel
theorem dX3_clear_47 : decode cX3_clear 47 = .ok (.putfield 38, 3) := by decide +kernel
theorem dX3_clear_50 : decode cX3_clear 50 = .ok (.aload_n 0, 1) := by decide +kernel
theorem dX3_clear_51 : decode cX3_clear 51 = .ok (.iconst 0, 1) := by decide +kernel
theorem dX3_clear_52 : decode cX3_clear 52 = .ok (.putfield 41, 3) := by decide +kernel
theorem dX3_clear_55 : decode cX3_clear 55 = .ok (.aload_n 0, 1) := by decide +kernel
theorem dX3_clear_56 : decode cX3_clear 56 = .ok (.iconst 0, 1) := by decide +kernel
theorem dX3_clear_57 : decode cX3_clear 57 = .ok (.putfield 44, 3) := by decide +kernel
theorem dX3_clear_60 : decode cX3_clear 60 = .ok (.return_, 1) := by decide +kernel
theorem dX3_copy_0 : decode cX3_copy 0 = .ok (.aload_n 1, 1) := by decide +kernel
theorem dX3_copy_1 : decode cX3_copy 1 = .ok (.ifnonnull 4, 3) := by decide +kernel
theorem dX3_copy_4 : decode cX3_copy 4 = .ok (.return_, 1) := by decide +kernel
theorem dX3_copy_5 : decode cX3_copy 5 = .ok (.iconst 0, 1) := by decide +kernel
theorem dX3_copy_6 : decode cX3_copy 6 = .ok (.istore_n 2, 1) := by decide +kernel
theorem dX3_copy_7 : decode cX3_copy 7 = .ok (.iload_n 2, 1) := by decide +kernel
theorem dX3_copy_8 : decode cX3_copy 8 = .ok (.iconst 5, 1) := by decide +kernel
theorem dX3_copy_9 : decode cX3_copy 9 = .ok (.if_icmp .ge 57, 3) := by decide +kernel
theorem dX3_copy_12 : decode cX3_copy 12 = .ok (.aload_n 0, 1) := by decide +kernel
theorem dX3_copy_13 : decode cX3_copy 13 = .ok (.getfield 9, 3) := by decide +kernel
theorem dX3_copy_16 : decode cX3_copy 16 = .ok (.iload_n 2, 1) := by decide +kernel
theorem dX3_copy_17 : decode cX3_copy 17 = .ok (.aload_n 1, 1) := by decide +kernel
theorem dX3_copy_18 : decode cX3_copy 18 = .ok (.getfield 9, 3) := by decide +kernel
theorem dX3_copy_21 : decode cX3_copy 21 = .ok (.iload_n 2, 1) := by decide +kernel
theorem dX3_copy_22 : decode cX3_copy 22 = .ok (.invokestatic 47, 3) := by decide +kernel
theorem dX3_copy_25 : decode cX3_copy 25 = .ok (.invokestatic 30, 3) := by decide +kernel
theorem dX3_copy_28 : decode cX3_copy 28 = .ok (.aload_n 0, 1) := by decide +kernel
theorem dX3_copy_29 : decode cX3_copy 29 = .ok (.getfield 15, 3) := by decide +kernel
theorem dX3_copy_32 : decode cX3_copy 32 = .ok (.iload_n 2, 1) := by decide +kernel
theorem dX3_copy_33 : decode cX3_copy 33 = .ok (.aload_n 1, 1) := by decide +kernel
theorem dX3_copy_34 : decode cX3_copy 34 = .ok (.getfield 15, 3) := by decide +kernel
theorem dX3_copy_37 : decode cX3_copy 37 = .ok (.iload_n 2, 1) := by decide +kernel
theorem dX3_copy_38 : decode cX3_copy 38 = .ok (.invokestatic 47, 3) := by decide +kernel
theorem dX3_copy_41 : decode cX3_copy 41 = .ok (.invokestatic 30, 3) := by decide +kernel
theorem dX3_copy_44 : decode cX3_copy 44 = .ok (.aload_n 0, 1) := by decide +kernel
theorem dX3_copy_45 : decode cX3_copy 45 = .ok (.getfield 18, 3) := by decide +kernel
theorem dX3_copy_48 : decode cX3_copy 48 = .ok (.iload_n 2, 1) := by decide +kernel
theorem dX3_copy_49 : decode cX3_copy 49 = .ok (.aload_n 1, 1) := by decide +kernel
theorem dX3_copy_50 : decode cX3_copy 50 = .ok (.getfield 18, 3) := by decide +kernel
theorem dX3_copy_53 : decode cX3_copy 53 = .ok (.iload_n 2, 1) := by decide +kernel
theorem dX3_copy_54 : decode cX3_copy 54 = .ok (.invokestatic 47, 3) := by decide +kernel
theorem dX3_copy_57 : decode cX3_copy 57 = .ok (.invokestatic 30, 3) := by decide +kernel
theorem dX3_copy_60 : decode cX3_copy 60 = .ok (.iinc 2 1, 3) := by decide +kernel
theorem dX3_copy_63 : decode cX3_copy 63 = .ok (.goto (-56), 3) := by decide +kernel
theorem dX3_copy_66 : decode cX3_copy 66 = .ok (.iconst 0, 1) := by decide +kernel
theorem dX3_copy_67 : decode cX3_copy 67 = .ok (.istore_n 2, 1) := by decide +kernel
theorem dX3_copy_68 : decode cX3_copy 68 = .ok (.iload_n 2, 1) := by decide +kernel
theorem dX3_copy_69 : decode cX3_copy 69 = .ok (.bipush 6, 2) := by decide +kernel
theorem dX3_copy_71 : decode cX3_copy 71 = .ok (.if_icmp .ge 57, 3) := by decide +kernel
theorem dX3_copy_74 : decode cX3_copy 74 = .ok (.aload_n 0, 1) := by decide +kernel
theorem dX3_copy_75 : decode cX3_copy 75 = .ok (.getfield 21, 3) := by decide +kernel
theorem dX3_copy_78 : decode cX3_copy 78 = .ok (.iload_n 2, 1) := by decide +kernel
theorem dX3_copy_79 : decode cX3_copy 79 = .ok (.aload_n 1, 1) := by decide +kernel
theorem dX3_copy_80 : decode cX3_copy 80 = .ok (.getfield 21, 3) := by decide +kernel
theorem dX3_copy_83 : decode cX3_copy 83 = .ok (.iload_n 2, 1) := by decide +kernel
theorem dX3_copy_84 : decode cX3_copy 84 = .ok (.invokestatic 47, 3) := by decide +kernel
theorem dX3_copy_87 : decode cX3_copy 87 = .ok (.invokestatic 30, 3) := by decide +kernel
theorem dX3_copy_90 : decode cX3_copy 90 = .ok (.aload_n 0, 1) := by decide +kernel
theorem dX3_copy_91 : decode cX3_copy 91 = .ok (.getfield 24, 3) := by decide +kernel
theorem dX3_copy_94 : decode cX3_copy 94 = .ok (.iload_n 2, 1) := by decide +kernel
theorem dX3_copy_95 : decode cX3_copy 95 = .ok (.aload_n 1, 1) := by decide +kernel
theorem dX3_copy_96 : decode cX3_copy 96 = .ok (.getfield 24, 3) := by decide +kernel
theorem dX3_copy_99 : decode cX3_copy 99 = .ok (.iload_n 2, 1) := by decide +kernel
theorem dX3_copy_100 : decode cX3_copy 100 = .ok (.invokestatic 47, 3) := by decide +kernel
theorem dX3_copy_103 : decode cX3_copy 103 = .ok (.invokestatic 30, 3) := by decide +kernel
theorem dX3_copy_106 : decode cX3_copy 106 = .ok (.aload_n 0, 1) := by decide +kernel
theorem dX3_copy_107 : decode cX3_copy 107 = .ok (.getfield 27, 3) := by decide +kernel
theorem dX3_copy_110 : decode cX3_copy 110 = .ok (.iload_n 2, 1) := by decide +kernel
theorem dX3_copy_111 : decode cX3_copy 111 = .ok (.aload_n 1, 1) := by decide +kernel
theorem dX3_copy_112 : decode cX3_copy 112 = .ok (.getfield 27, 3) := by decide +kernel
theorem dX3_copy_115 : decode cX3_copy 115 = .ok (.iload_n 2, 1) := by decide +kernel
theorem dX3_copy_116 : decode cX3_copy 116 = .ok (.invokestatic 47, 3) := by decide +kernel
theorem dX3_copy_119 : decode cX3_copy 119 = .ok (.invokestatic 30, 3) := by decide +kernel
theorem dX3_copy_122 : decode cX3_copy 122 = .ok (.iinc 2 1, 3) := by decide +kernel
theorem dX3_copy_125 : decode cX3_copy 125 = .ok (.goto (-57), 3) := by decide +kernel
theorem dX3_copy_128 : decode cX3_copy 128 = .ok (.aload_n 0, 1) := by decide +kernel
theorem dX3_copy_129 : decode cX3_copy 129 = .ok (.aload_n 1, 1) := by decide +kernel
theorem dX3_copy_130 : decode cX3_copy 130 = .ok (.getfield 34, 3) := by decide +kernel
theorem dX3_copy_133 : decode cX3_copy 133 = .ok (.putfield 34, 3) := by decide +kernel
theorem dX3_copy_136 : decode cX3_copy 136 = .ok (.aload_n 0, 1) := by decide +kernel
theorem dX3_copy_137 : decode cX3_copy 137 = .ok (.aload_n 1, 1) := by decide +kernel
theorem dX3_copy_138 : decode cX3_copy 138 = .ok (.getfield 38, 3) := by decide +kernel
theorem dX3_copy_141 : decode cX3_copy 141 = .ok (.putfield 38, 3) := by decide +kernel
theorem dX3_copy_144 : decode cX3_copy 144 = .ok (.aload_n 0, 1) := by decide +kernel
theorem dX3_copy_145 : decode cX3_copy 145 = .ok (.aload_n 1, 1) := by decide +kernel
theorem dX3_copy_146 : decode cX3_copy 146 = .ok (.getfield 41, 3) := by decide +kernel
theorem dX3_copy_149 : decode cX3_copy 149 = .ok (.putfield 41, 3) := by decide +kernel
theorem dX3_copy_152 : decode cX3_copy 152 = .ok (.aload_n 0, 1) := by decide +kernel
theorem dX3_copy_153 : decode cX3_copy 153 = .ok (.aload_n 1, 1) := by decide +kernel
theorem dX3_copy_154 : decode cX3_copy 154 = .ok (.getfield 44, 3) := by decide +kernel
theorem dX3_copy_157 : decode cX3_copy 157 = .ok (.putfield 44, 3) := by decide +kernel
theorem dX3_copy_160 : decode cX3_copy 160 = .ok (.return_, 1) := by decide +kernel
theorem dX3_setFoe_0 : decode cX3_setFoe 0 = .ok (.aload_n 0, 1) := by decide +kernel
theorem dX3_setFoe_1 : decode cX3_setFoe 1 = .ok (.getfield 18, 3) := by decide +kernel
theorem dX3_setFoe_4 : decode cX3_setFoe 4 = .ok (.iload_n 1, 1) := by decide +kernel
theorem dX3_setFoe_5 : decode cX3_setFoe 5 = .ok (.invokestatic 47, 3) := by decide +kernel
theorem dX3_setFoe_8 : decode cX3_setFoe 8 = .ok (.iconst 1, 1) := by decide +kernel
theorem dX3_setFoe_9 : decode cX3_setFoe 9 = .ok (.iload_n 2, 1) := by decide +kernel
theorem dX3_setFoe_10 : decode cX3_setFoe 10 = .ok (.ishl, 1) := by decide +kernel
theorem dX3_setFoe_11 : decode cX3_setFoe 11 = .ok (.iconst (-1), 1) := by decide +kernel
theorem dX3_setFoe_12 : decode cX3_setFoe 12 = .ok (.ixor, 1) := by decide +kernel
theorem dX3_setFoe_13 : decode cX3_setFoe 13 = .ok (.iand, 1) := by decide +kernel
theorem dX3_setFoe_14 : decode cX3_setFoe 14 = .ok (.istore 4, 2) := by decide +kernel
theorem dX3_setFoe_16 : decode cX3_setFoe 16 = .ok (.aload_n 0, 1) := by decide +kernel
theorem dX3_setFoe_17 : decode cX3_setFoe 17 = .ok (.getfield 18, 3) := by decide +kernel
theorem dX3_setFoe_20 : decode cX3_setFoe 20 = .ok (.iload_n 1, 1) := by decide +kernel
theorem dX3_setFoe_21 : decode cX3_setFoe 21 = .ok (.iload_n 3, 1) := by decide +kernel
theorem dX3_setFoe_22 : decode cX3_setFoe 22 = .ok (.ifCond .eq 12, 3) := by decide +kernel
theorem dX3_setFoe_25 : decode cX3_setFoe 25 = .ok (.iload 4, 2) := by decide +kernel
theorem dX3_setFoe_27 : decode cX3_setFoe 27 = .ok (.iconst 1, 1) := by decide +kernel
theorem dX3_setFoe_28 : decode cX3_setFoe 28 = .ok (.iload_n 2, 1) := by decide +kernel
theorem dX3_setFoe_29 : decode cX3_setFoe 29 = .ok (.ishl, 1) := by decide +kernel
theorem dX3_setFoe_30 : decode cX3_setFoe 30 = .ok (.ior, 1) := by decide +kernel
theorem dX3_setFoe_31 : decode cX3_setFoe 31 = .ok (.goto 5, 3) := by decide +kernel
theorem dX3_setFoe_34 : decode cX3_setFoe 34 = .ok (.iload 4, 2) := by decide +kernel
theorem dX3_setFoe_36 : decode cX3_setFoe 36 = .ok (.invokestatic 30, 3) := by decide +kernel
theorem dX3_setFoe_39 : decode cX3_setFoe 39 = .ok (.return_, 1) := by decide +kernel
theorem dX3_addHeard_0 : decode cX3_addHeard 0 = .ok (.aload_n 0, 1) := by decide +kernel
theorem dX3_addHeard_1 : decode cX3_addHeard 1 = .ok (.getfield 21, 3) := by decide +kernel
theorem dX3_addHeard_4 : decode cX3_addHeard 4 = .ok (.aload_n 0, 1) := by decide +kernel
theorem dX3_addHeard_5 : decode cX3_addHeard 5 = .ok (.getfield 38, 3) := by decide +kernel
theorem dX3_addHeard_8 : decode cX3_addHeard 8 = .ok (.iload_n 1, 1) := by decide +kernel
theorem dX3_addHeard_9 : decode cX3_addHeard 9 = .ok (.invokestatic 30, 3) := by decide +kernel
theorem dX3_addHeard_12 : decode cX3_addHeard 12 = .ok (.aload_n 0, 1) := by decide +kernel
theorem dX3_addHeard_13 : decode cX3_addHeard 13 = .ok (.getfield 24, 3) := by decide +kernel
theorem dX3_addHeard_16 : decode cX3_addHeard 16 = .ok (.aload_n 0, 1) := by decide +kernel
theorem dX3_addHeard_17 : decode cX3_addHeard 17 = .ok (.getfield 38, 3) := by decide +kernel
theorem dX3_addHeard_20 : decode cX3_addHeard 20 = .ok (.iload_n 2, 1) := by decide +kernel
theorem dX3_addHeard_21 : decode cX3_addHeard 21 = .ok (.invokestatic 30, 3) := by decide +kernel
theorem dX3_addHeard_24 : decode cX3_addHeard 24 = .ok (.aload_n 0, 1) := by decide +kernel
theorem dX3_addHeard_25 : decode cX3_addHeard 25 = .ok (.getfield 27, 3) := by decide +kernel
theorem dX3_addHeard_28 : decode cX3_addHeard 28 = .ok (.aload_n 0, 1) := by decide +kernel
theorem dX3_addHeard_29 : decode cX3_addHeard 29 = .ok (.getfield 38, 3) := by decide +kernel
theorem dX3_addHeard_32 : decode cX3_addHeard 32 = .ok (.iload_n 3, 1) := by decide +kernel
theorem dX3_addHeard_33 : decode cX3_addHeard 33 = .ok (.ifCond .eq 7, 3) := by decide +kernel
theorem dX3_addHeard_36 : decode cX3_addHeard 36 = .ok (.iconst 1, 1) := by decide +kernel
theorem dX3_addHeard_37 : decode cX3_addHeard 37 = .ok (.goto 4, 3) := by decide +kernel
theorem dX3_addHeard_40 : decode cX3_addHeard 40 = .ok (.iconst 0, 1) := by decide +kernel
theorem dX3_addHeard_41 : decode cX3_addHeard 41 = .ok (.invokestatic 30, 3) := by decide +kernel
theorem dX3_addHeard_44 : decode cX3_addHeard 44 = .ok (.aload_n 0, 1) := by decide +kernel
theorem dX3_addHeard_45 : decode cX3_addHeard 45 = .ok (.dup, 1) := by decide +kernel
theorem dX3_addHeard_46 : decode cX3_addHeard 46 = .ok (.getfield 38, 3) := by decide +kernel
theorem dX3_addHeard_49 : decode cX3_addHeard 49 = .ok (.iconst 1, 1) := by decide +kernel
theorem dX3_addHeard_50 : decode cX3_addHeard 50 = .ok (.iadd, 1) := by decide +kernel
theorem dX3_addHeard_51 : decode cX3_addHeard 51 = .ok (.putfield 38, 3) := by decide +kernel
theorem dX3_addHeard_54 : decode cX3_addHeard 54 = .ok (.return_, 1) := by decide +kernel
theorem dX4_init_0 : decode cX4_init 0 = .ok (.aload_n 0, 1) := by decide +kernel
theorem dX4_init_1 : decode cX4_init 1 = .ok (.invokespecial 3, 3) := by decide +kernel
theorem dX4_init_4 : decode cX4_init 4 = .ok (.return_, 1) := by decide +kernel
theorem dX4_play_0 : decode cX4_play 0 = .ok (.aload_n 0, 1) := by decide +kernel
theorem dX4_play_1 : decode cX4_play 1 = .ok (.iload_n 3, 1) := by decide +kernel
theorem dX4_play_2 : decode cX4_play 2 = .ok (.putfield 9, 3) := by decide +kernel
theorem dX4_play_5 : decode cX4_play 5 = .ok (.aload_n 0, 1) := by decide +kernel
theorem dX4_play_6 : decode cX4_play 6 = .ok (.iconst 0, 1) := by decide +kernel
theorem dX4_play_7 : decode cX4_play 7 = .ok (.putfield 15, 3) := by decide +kernel
theorem dX4_play_10 : decode cX4_play 10 = .ok (.aload_n 1, 1) := by decide +kernel
theorem dX4_play_11 : decode cX4_play 11 = .ok (.getfield 18, 3) := by decide +kernel
theorem dX4_play_14 : decode cX4_play 14 = .ok (.getfield 24, 3) := by decide +kernel
theorem dX4_play_17 : decode cX4_play 17 = .ok (.istore 4, 2) := by decide +kernel
theorem dX4_play_19 : decode cX4_play 19 = .ok (.iconst 0, 1) := by decide +kernel
theorem dX4_play_20 : decode cX4_play 20 = .ok (.istore 5, 2) := by decide +kernel
theorem dX4_play_22 : decode cX4_play 22 = .ok (.iload 5, 2) := by decide +kernel
theorem dX4_play_24 : decode cX4_play 24 = .ok (.iload_n 2, 1) := by decide +kernel
theorem dX4_play_25 : decode cX4_play 25 = .ok (.if_icmp .ge 56, 3) := by decide +kernel
theorem dX4_play_28 : decode cX4_play 28 = .ok (.aload_n 0, 1) := by decide +kernel
theorem dX4_play_29 : decode cX4_play 29 = .ok (.aload_n 1, 1) := by decide +kernel
theorem dX4_play_30 : decode cX4_play 30 = .ok (.getfield 29, 3) := by decide +kernel
theorem dX4_play_33 : decode cX4_play 33 = .ok (.invokevirtual 32, 3) := by decide +kernel
theorem dX4_play_36 : decode cX4_play 36 = .ok (.istore 6, 2) := by decide +kernel
theorem dX4_play_38 : decode cX4_play 38 = .ok (.iload 4, 2) := by decide +kernel
theorem dX4_play_40 : decode cX4_play 40 = .ok (.iload 6, 2) := by decide +kernel
theorem dX4_play_42 : decode cX4_play 42 = .ok (.aload_n 0, 1) := by decide +kernel
theorem dX4_play_43 : decode cX4_play 43 = .ok (.iconst 4, 1) := by decide +kernel
theorem dX4_play_44 : decode cX4_play 44 = .ok (.invokevirtual 32, 3) := by decide +kernel
theorem dX4_play_47 : decode cX4_play 47 = .ok (.invokestatic 36, 3) := by decide +kernel
theorem dX4_play_50 : decode cX4_play 50 = .ok (.istore 4, 2) := by decide +kernel
theorem dX4_play_52 : decode cX4_play 52 = .ok (.aload_n 0, 1) := by decide +kernel
theorem dX4_play_53 : decode cX4_play 53 = .ok (.aload_n 1, 1) := by decide +kernel
theorem dX4_play_54 : decode cX4_play 54 = .ok (.iload 4, 2) := by decide +kernel
theorem dX4_play_56 : decode cX4_play 56 = .ok (.invokevirtual 40, 3) := by decide +kernel
theorem dX4_play_59 : decode cX4_play 59 = .ok (.putfield 43, 3) := by decide +kernel
theorem dX4_play_62 : decode cX4_play 62 = .ok (.aload_n 0, 1) := by decide +kernel
theorem dX4_play_63 : decode cX4_play 63 = .ok (.dup, 1) := by decide +kernel
theorem dX4_play_64 : decode cX4_play 64 = .ok (.getfield 15, 3) := by decide +kernel
theorem dX4_play_67 : decode cX4_play 67 = .ok (.aload_n 0, 1) := by decide +kernel
theorem dX4_play_68 : decode cX4_play 68 = .ok (.getfield 43, 3) := by decide +kernel
theorem dX4_play_71 : decode cX4_play 71 = .ok (.iadd, 1) := by decide +kernel
theorem dX4_play_72 : decode cX4_play 72 = .ok (.putfield 15, 3) := by decide +kernel
theorem dX4_play_75 : decode cX4_play 75 = .ok (.iinc 5 1, 3) := by decide +kernel
theorem dX4_play_78 : decode cX4_play 78 = .ok (.goto (-56), 3) := by decide +kernel
theorem dX4_play_81 : decode cX4_play 81 = .ok (.return_, 1) := by decide +kernel
theorem dX4_draw_0 : decode cX4_draw 0 = .ok (.aload_n 0, 1) := by decide +kernel
theorem dX4_draw_1 : decode cX4_draw 1 = .ok (.ldc2_w 46, 3) := by decide +kernel
theorem dX4_draw_4 : decode cX4_draw 4 = .ok (.aload_n 0, 1) := by decide +kernel
theorem dX4_draw_5 : decode cX4_draw 5 = .ok (.getfield 9, 3) := by decide +kernel
theorem dX4_draw_8 : decode cX4_draw 8 = .ok (.i2l, 1) := by decide +kernel
theorem dX4_draw_9 : decode cX4_draw 9 = .ok (.lmul, 1) := by decide +kernel
theorem dX4_draw_10 : decode cX4_draw 10 = .ok (.ldc2_w 48, 3) := by decide +kernel
theorem dX4_draw_13 : decode cX4_draw 13 = .ok (.ladd, 1) := by decide +kernel
theorem dX4_draw_14 : decode cX4_draw 14 = .ok (.ldc2_w 50, 3) := by decide +kernel
theorem dX4_draw_17 : decode cX4_draw 17 = .ok (.land, 1) := by decide +kernel
theorem dX4_draw_18 : decode cX4_draw 18 = .ok (.l2i, 1) := by decide +kernel
theorem dX4_draw_19 : decode cX4_draw 19 = .ok (.putfield 9, 3) := by decide +kernel
theorem dX4_draw_22 : decode cX4_draw 22 = .ok (.iload_n 1, 1) := by decide +kernel
theorem dX4_draw_23 : decode cX4_draw 23 = .ok (.ifCond .le 15, 3) := by decide +kernel
theorem dX4_draw_26 : decode cX4_draw 26 = .ok (.aload_n 0, 1) := by decide +kernel
theorem dX4_draw_27 : decode cX4_draw 27 = .ok (.getfield 9, 3) := by decide +kernel
theorem dX4_draw_30 : decode cX4_draw 30 = .ok (.bipush 16, 2) := by decide +kernel
theorem dX4_draw_32 : decode cX4_draw 32 = .ok (.ishr, 1) := by decide +kernel
theorem dX4_draw_33 : decode cX4_draw 33 = .ok (.iload_n 1, 1) := by decide +kernel
theorem dX4_draw_34 : decode cX4_draw 34 = .ok (.irem, 1) := by decide +kernel
theorem dX4_draw_35 : decode cX4_draw 35 = .ok (.goto 4, 3) := by decide +kernel
theorem dX4_draw_38 : decode cX4_draw 38 = .ok (.iconst 0, 1) := by decide +kernel
theorem dX4_draw_39 : decode cX4_draw 39 = .ok (.ireturn, 1) := by decide +kernel
theorem dX5_init_0 : decode cX5_init 0 = .ok (.aload_n 0, 1) := by decide +kernel
theorem dX5_init_1 : decode cX5_init 1 = .ok (.invokespecial 3, 3) := by decide +kernel
theorem dX5_init_4 : decode cX5_init 4 = .ok (.aload_n 0, 1) := by decide +kernel
theorem dX5_init_5 : decode cX5_init 5 = .ok (.bipush 21, 2) := by decide +kernel
theorem dX5_init_7 : decode cX5_init 7 = .ok (.newarray .int, 2) := by decide +kernel
theorem dX5_init_9 : decode cX5_init 9 = .ok (.putfield 9, 3) := by decide +kernel
theorem dX5_init_12 : decode cX5_init 12 = .ok (.return_, 1) := by decide +kernel
theorem dX5_add_0 : decode cX5_add 0 = .ok (.aload_n 0, 1) := by decide +kernel
theorem dX5_add_1 : decode cX5_add 1 = .ok (.getfield 15, 3) := by decide +kernel
theorem dX5_add_4 : decode cX5_add 4 = .ok (.bipush 21, 2) := by decide +kernel
theorem dX5_add_6 : decode cX5_add 6 = .ok (.if_icmp .lt 5, 3) := by decide +kernel
theorem dX5_add_9 : decode cX5_add 9 = .ok (.iconst 0, 1) := by decide +kernel
theorem dX5_add_10 : decode cX5_add 10 = .ok (.ireturn, 1) := by decide +kernel
theorem dX5_add_11 : decode cX5_add 11 = .ok (.aload_n 0, 1) := by decide +kernel
theorem dX5_add_12 : decode cX5_add 12 = .ok (.getfield 9, 3) := by decide +kernel
theorem dX5_add_15 : decode cX5_add 15 = .ok (.aload_n 0, 1) := by decide +kernel
theorem dX5_add_16 : decode cX5_add 16 = .ok (.getfield 15, 3) := by decide +kernel
theorem dX5_add_19 : decode cX5_add 19 = .ok (.iload_n 1, 1) := by decide +kernel
theorem dX5_add_20 : decode cX5_add 20 = .ok (.invokestatic 19, 3) := by decide +kernel
theorem dX5_add_23 : decode cX5_add 23 = .ok (.aload_n 0, 1) := by decide +kernel
theorem dX5_add_24 : decode cX5_add 24 = .ok (.dup, 1) := by decide +kernel
theorem dX5_add_25 : decode cX5_add 25 = .ok (.getfield 15, 3) := by decide +kernel
theorem dX5_add_28 : decode cX5_add 28 = .ok (.iconst 1, 1) := by decide +kernel
theorem dX5_add_29 : decode cX5_add 29 = .ok (.iadd, 1) := by decide +kernel
theorem dX5_add_30 : decode cX5_add 30 = .ok (.putfield 15, 3) := by decide +kernel
theorem dX5_add_33 : decode cX5_add 33 = .ok (.iconst 1, 1) := by decide +kernel
theorem dX5_add_34 : decode cX5_add 34 = .ok (.ireturn, 1) := by decide +kernel
theorem dX5_isTown_0 : decode cX5_isTown 0 = .ok (.aload_n 0, 1) := by decide +kernel
theorem dX5_isTown_1 : decode cX5_isTown 1 = .ok (.invokevirtual 23, 3) := by decide +kernel
theorem dX5_isTown_4 : decode cX5_isTown 4 = .ok (.ifCond .eq 18, 3) := by decide +kernel
theorem dX5_isTown_7 : decode cX5_isTown 7 = .ok (.aload_n 0, 1) := by decide +kernel
theorem dX5_isTown_8 : decode cX5_isTown 8 = .ok (.invokevirtual 27, 3) := by decide +kernel
theorem dX5_isTown_11 : decode cX5_isTown 11 = .ok (.aload_n 0, 1) := by decide +kernel
theorem dX5_isTown_12 : decode cX5_isTown 12 = .ok (.getfield 15, 3) := by decide +kernel
theorem dX5_isTown_15 : decode cX5_isTown 15 = .ok (.if_icmp .ne 7, 3) := by decide +kernel
theorem dX5_isTown_18 : decode cX5_isTown 18 = .ok (.iconst 1, 1) := by decide +kernel
theorem dX5_isTown_19 : decode cX5_isTown 19 = .ok (.goto 4, 3) := by decide +kernel
theorem dX5_isTown_22 : decode cX5_isTown 22 = .ok (.iconst 0, 1) := by decide +kernel
theorem dX5_isTown_23 : decode cX5_isTown 23 = .ok (.ireturn, 1) := by decide +kernel
theorem dX5_people_0 : decode cX5_people 0 = .ok (.aload_n 0, 1) := by decide +kernel
theorem dX5_people_1 : decode cX5_people 1 = .ok (.getfield 15, 3) := by decide +kernel
theorem dX5_people_4 : decode cX5_people 4 = .ok (.iconst 1, 1) := by decide +kernel
theorem dX5_people_5 : decode cX5_people 5 = .ok (.iadd, 1) := by decide +kernel
theorem dX5_people_6 : decode cX5_people 6 = .ok (.iconst 4, 1) := by decide +kernel
theorem dX5_people_7 : decode cX5_people 7 = .ok (.idiv, 1) := by decide +kernel
theorem dX5_people_8 : decode cX5_people 8 = .ok (.ireturn, 1) := by decide +kernel
theorem dX5_kindAt_0 : decode cX5_kindAt 0 = .ok (.ldc 31, 2) := by decide +kernel
theorem dX5_kindAt_2 : decode cX5_kindAt 2 = .ok (.aload_n 0, 1) := by decide +kernel
theorem dX5_kindAt_3 : decode cX5_kindAt 3 = .ok (.getfield 9, 3) := by decide +kernel
theorem dX5_kindAt_6 : decode cX5_kindAt 6 = .ok (.iconst 4, 1) := by decide +kernel
theorem dX5_kindAt_7 : decode cX5_kindAt 7 = .ok (.iload_n 1, 1) := by decide +kernel
theorem dX5_kindAt_8 : decode cX5_kindAt 8 = .ok (.imul, 1) := by decide +kernel
theorem dX5_kindAt_9 : decode cX5_kindAt 9 = .ok (.invokestatic 33, 3) := by decide +kernel
theorem dX5_kindAt_12 : decode cX5_kindAt 12 = .ok (.i2c, 1) := by decide +kernel
theorem dX5_kindAt_13 : decode cX5_kindAt 13 = .ok (.invokevirtual 37, 3) := by decide +kernel
theorem dX5_kindAt_16 : decode cX5_kindAt 16 = .ok (.ireturn, 1) := by decide +kernel
theorem dX5_digitAt_0 : decode cX5_digitAt 0 = .ok (.aload_n 0, 1) := by decide +kernel
theorem dX5_digitAt_1 : decode cX5_digitAt 1 = .ok (.getfield 9, 3) := by decide +kernel
theorem dX5_digitAt_4 : decode cX5_digitAt 4 = .ok (.iload_n 1, 1) := by decide +kernel
theorem dX5_digitAt_5 : decode cX5_digitAt 5 = .ok (.invokestatic 33, 3) := by decide +kernel
theorem dX5_digitAt_8 : decode cX5_digitAt 8 = .ok (.bipush 48, 2) := by decide +kernel
theorem dX5_digitAt_10 : decode cX5_digitAt 10 = .ok (.isub, 1) := by decide +kernel
theorem dX5_digitAt_11 : decode cX5_digitAt 11 = .ok (.ireturn, 1) := by decide +kernel
theorem dX5_firstFault_0 : decode cX5_firstFault 0 = .ok (.iconst 0, 1) := by decide +kernel
theorem dX5_firstFault_1 : decode cX5_firstFault 1 = .ok (.istore_n 1, 1) := by decide +kernel
theorem dX5_firstFault_2 : decode cX5_firstFault 2 = .ok (.iload_n 1, 1) := by decide +kernel
theorem dX5_firstFault_3 : decode cX5_firstFault 3 = .ok (.aload_n 0, 1) := by decide +kernel
theorem dX5_firstFault_4 : decode cX5_firstFault 4 = .ok (.getfield 15, 3) := by decide +kernel
theorem dX5_firstFault_7 : decode cX5_firstFault 7 = .ok (.if_icmp .ge 19, 3) := by decide +kernel
theorem dX5_firstFault_10 : decode cX5_firstFault 10 = .ok (.aload_n 0, 1) := by decide +kernel
theorem dX5_firstFault_11 : decode cX5_firstFault 11 = .ok (.iload_n 1, 1) := by decide +kernel
theorem dX5_firstFault_12 : decode cX5_firstFault 12 = .ok (.invokevirtual 43, 3) := by decide +kernel
theorem dX5_firstFault_15 : decode cX5_firstFault 15 = .ok (.ifCond .ne 5, 3) := by decide +kernel
theorem dX5_firstFault_18 : decode cX5_firstFault 18 = .ok (.iload_n 1, 1) := by decide +kernel
theorem dX5_firstFault_19 : decode cX5_firstFault 19 = .ok (.ireturn, 1) := by decide +kernel
theorem dX5_firstFault_20 : decode cX5_firstFault 20 = .ok (.iinc 1 1, 3) := by decide +kernel
theorem dX5_firstFault_23 : decode cX5_firstFault 23 = .ok (.goto (-21), 3) := by decide +kernel
theorem dX5_firstFault_26 : decode cX5_firstFault 26 = .ok (.aload_n 0, 1) := by decide +kernel
theorem dX5_firstFault_27 : decode cX5_firstFault 27 = .ok (.invokevirtual 23, 3) := by decide +kernel
theorem dX5_firstFault_30 : decode cX5_firstFault 30 = .ok (.ifCond .eq 10, 3) := by decide +kernel
theorem dX5_firstFault_33 : decode cX5_firstFault 33 = .ok (.aload_n 0, 1) := by decide +kernel
theorem dX5_firstFault_34 : decode cX5_firstFault 34 = .ok (.invokevirtual 47, 3) := by decide +kernel
theorem dX5_firstFault_37 : decode cX5_firstFault 37 = .ok (.goto 7, 3) := by decide +kernel
theorem dX5_firstFault_40 : decode cX5_firstFault 40 = .ok (.aload_n 0, 1) := by decide +kernel
theorem dX5_firstFault_41 : decode cX5_firstFault 41 = .ok (.getfield 15, 3) := by decide +kernel
theorem dX5_firstFault_44 : decode cX5_firstFault 44 = .ok (.ireturn, 1) := by decide +kernel
theorem dX5_isWhole_0 : decode cX5_isWhole 0 = .ok (.aload_n 0, 1) := by decide +kernel
theorem dX5_isWhole_1 : decode cX5_isWhole 1 = .ok (.getfield 15, 3) := by decide +kernel
theorem dX5_isWhole_4 : decode cX5_isWhole 4 = .ok (.bipush 7, 2) := by decide +kernel
theorem dX5_isWhole_6 : decode cX5_isWhole 6 = .ok (.if_icmp .lt 26, 3) := by decide +kernel
theorem dX5_isWhole_9 : decode cX5_isWhole 9 = .ok (.aload_n 0, 1) := by decide +kernel
theorem dX5_isWhole_10 : decode cX5_isWhole 10 = .ok (.getfield 15, 3) := by decide +kernel
theorem dX5_isWhole_13 : decode cX5_isWhole 13 = .ok (.bipush 19, 2) := by decide +kernel
theorem dX5_isWhole_15 : decode cX5_isWhole 15 = .ok (.if_icmp .gt 17, 3) := by decide +kernel
theorem dX5_isWhole_18 : decode cX5_isWhole 18 = .ok (.aload_n 0, 1) := by decide +kernel
theorem dX5_isWhole_19 : decode cX5_isWhole 19 = .ok (.getfield 15, 3) := by decide +kernel
theorem dX5_isWhole_22 : decode cX5_isWhole 22 = .ok (.iconst 3, 1) := by decide +kernel
theorem dX5_isWhole_23 : decode cX5_isWhole 23 = .ok (.iand, 1) := by decide +kernel
theorem dX5_isWhole_24 : decode cX5_isWhole 24 = .ok (.iconst 3, 1) := by decide +kernel
theorem dX5_isWhole_25 : decode cX5_isWhole 25 = .ok (.if_icmp .ne 7, 3) := by decide +kernel
theorem dX5_isWhole_28 : decode cX5_isWhole 28 = .ok (.iconst 1, 1) := by decide +kernel
theorem dX5_isWhole_29 : decode cX5_isWhole 29 = .ok (.goto 4, 3) := by decide +kernel
theorem dX5_isWhole_32 : decode cX5_isWhole 32 = .ok (.iconst 0, 1) := by decide +kernel
theorem dX5_isWhole_33 : decode cX5_isWhole 33 = .ok (.ireturn, 1) := by decide +kernel
theorem dX5_fits_0 : decode cX5_fits 0 = .ok (.iload_n 1, 1) := by decide +kernel
theorem dX5_fits_1 : decode cX5_fits 1 = .ok (.bipush 19, 2) := by decide +kernel
theorem dX5_fits_3 : decode cX5_fits 3 = .ok (.if_icmp .lt 5, 3) := by decide +kernel
theorem dX5_fits_6 : decode cX5_fits 6 = .ok (.iconst 0, 1) := by decide +kernel
theorem dX5_fits_7 : decode cX5_fits 7 = .ok (.ireturn, 1) := by decide +kernel
theorem dX5_fits_8 : decode cX5_fits 8 = .ok (.iload_n 1, 1) := by decide +kernel
theorem dX5_fits_9 : decode cX5_fits 9 = .ok (.iconst 3, 1) := by decide +kernel
theorem dX5_fits_10 : decode cX5_fits 10 = .ok (.iand, 1) := by decide +kernel
theorem dX5_fits_11 : decode cX5_fits 11 = .ok (.lookupswitch 60 #[(0, 25), (3, 41)], 25) := by decide +kernel
theorem dX5_fits_36 : decode cX5_fits 36 = .ok (.aload_n 0, 1) := by decide +kernel
theorem dX5_fits_37 : decode cX5_fits 37 = .ok (.iload_n 1, 1) := by decide +kernel
theorem dX5_fits_38 : decode cX5_fits 38 = .ok (.iconst 4, 1) := by decide +kernel
theorem dX5_fits_39 : decode cX5_fits 39 = .ok (.idiv, 1) := by decide +kernel
theorem dX5_fits_40 : decode cX5_fits 40 = .ok (.invokevirtual 50, 3) := by decide +kernel
theorem dX5_fits_43 : decode cX5_fits 43 = .ok (.ifCond .lt 7, 3) := by decide +kernel
theorem dX5_fits_46 : decode cX5_fits 46 = .ok (.iconst 1, 1) := by decide +kernel
theorem dX5_fits_47 : decode cX5_fits 47 = .ok (.goto 4, 3) := by decide +kernel
theorem dX5_fits_50 : decode cX5_fits 50 = .ok (.iconst 0, 1) := by decide +kernel
theorem dX5_fits_51 : decode cX5_fits 51 = .ok (.ireturn, 1) := by decide +kernel
theorem dX5_fits_52 : decode cX5_fits 52 = .ok (.aload_n 0, 1) := by decide +kernel
theorem dX5_fits_53 : decode cX5_fits 53 = .ok (.getfield 9, 3) := by decide +kernel
theorem dX5_fits_56 : decode cX5_fits 56 = .ok (.iload_n 1, 1) := by decide +kernel
theorem dX5_fits_57 : decode cX5_fits 57 = .ok (.invokestatic 33, 3) := by decide +kernel
theorem dX5_fits_60 : decode cX5_fits 60 = .ok (.bipush 44, 2) := by decide +kernel
theorem dX5_fits_62 : decode cX5_fits 62 = .ok (.if_icmp .ne 7, 3) := by decide +kernel
theorem dX5_fits_65 : decode cX5_fits 65 = .ok (.iconst 1, 1) := by decide +kernel
theorem dX5_fits_66 : decode cX5_fits 66 = .ok (.goto 4, 3) := by decide +kernel
theorem dX5_fits_69 : decode cX5_fits 69 = .ok (.iconst 0, 1) := by decide +kernel
theorem dX5_fits_70 : decode cX5_fits 70 = .ok (.ireturn, 1) := by decide +kernel
theorem dX5_fits_71 : decode cX5_fits 71 = .ok (.aload_n 0, 1) := by decide +kernel
theorem dX5_fits_72 : decode cX5_fits 72 = .ok (.iload_n 1, 1) := by decide +kernel
theorem dX5_fits_73 : decode cX5_fits 73 = .ok (.invokevirtual 53, 3) := by decide +kernel
theorem dX5_fits_76 : decode cX5_fits 76 = .ok (.ifCond .lt 16, 3) := by decide +kernel
theorem dX5_fits_79 : decode cX5_fits 79 = .ok (.aload_n 0, 1) := by decide +kernel
theorem dX5_fits_80 : decode cX5_fits 80 = .ok (.iload_n 1, 1) := by decide +kernel
theorem dX5_fits_81 : decode cX5_fits 81 = .ok (.invokevirtual 53, 3) := by decide +kernel
theorem dX5_fits_84 : decode cX5_fits 84 = .ok (.iconst 5, 1) := by decide +kernel
theorem dX5_fits_85 : decode cX5_fits 85 = .ok (.if_icmp .ge 7, 3) := by decide +kernel
theorem dX5_fits_88 : decode cX5_fits 88 = .ok (.iconst 1, 1) := by decide +kernel
theorem dX5_fits_89 : decode cX5_fits 89 = .ok (.goto 4, 3) := by decide +kernel
theorem dX5_fits_92 : decode cX5_fits 92 = .ok (.iconst 0, 1) := by decide +kernel
theorem dX5_fits_93 : decode cX5_fits 93 = .ok (.ireturn, 1) := by decide +kernel
theorem dX5_firstNobody_0 : decode cX5_firstNobody 0 = .ok (.aload_n 0, 1) := by decide +kernel
theorem dX5_firstNobody_1 : decode cX5_firstNobody 1 = .ok (.invokevirtual 56, 3) := by decide +kernel
theorem dX5_firstNobody_4 : decode cX5_firstNobody 4 = .ok (.istore_n 1, 1) := by decide +kernel
theorem dX5_firstNobody_5 : decode cX5_firstNobody 5 = .ok (.iconst 0, 1) := by decide +kernel
theorem dX5_firstNobody_6 : decode cX5_firstNobody 6 = .ok (.istore_n 2, 1) := by decide +kernel
theorem dX5_firstNobody_7 : decode cX5_firstNobody 7 = .ok (.iload_n 2, 1) := by decide +kernel
theorem dX5_firstNobody_8 : decode cX5_firstNobody 8 = .ok (.aload_n 0, 1) := by decide +kernel
theorem dX5_firstNobody_9 : decode cX5_firstNobody 9 = .ok (.getfield 15, 3) := by decide +kernel
theorem dX5_firstNobody_12 : decode cX5_firstNobody 12 = .ok (.if_icmp .ge 44, 3) := by decide +kernel
theorem dX5_firstNobody_15 : decode cX5_firstNobody 15 = .ok (.iload_n 2, 1) := by decide +kernel
theorem dX5_firstNobody_16 : decode cX5_firstNobody 16 = .ok (.iconst 3, 1) := by decide +kernel
theorem dX5_firstNobody_17 : decode cX5_firstNobody 17 = .ok (.iand, 1) := by decide +kernel
theorem dX5_firstNobody_18 : decode cX5_firstNobody 18 = .ok (.iconst 1, 1) := by decide +kernel
theorem dX5_firstNobody_19 : decode cX5_firstNobody 19 = .ok (.if_icmp .eq 10, 3) := by decide +kernel
theorem dX5_firstNobody_22 : decode cX5_firstNobody 22 = .ok (.iload_n 2, 1) := by decide +kernel
theorem dX5_firstNobody_23 : decode cX5_firstNobody 23 = .ok (.iconst 3, 1) := by decide +kernel
theorem dX5_firstNobody_24 : decode cX5_firstNobody 24 = .ok (.iand, 1) := by decide +kernel
theorem dX5_firstNobody_25 : decode cX5_firstNobody 25 = .ok (.iconst 2, 1) := by decide +kernel
theorem dX5_firstNobody_26 : decode cX5_firstNobody 26 = .ok (.if_icmp .ne 7, 3) := by decide +kernel
theorem dX5_firstNobody_29 : decode cX5_firstNobody 29 = .ok (.iconst 1, 1) := by decide +kernel
theorem dX5_firstNobody_30 : decode cX5_firstNobody 30 = .ok (.goto 4, 3) := by decide +kernel
theorem dX5_firstNobody_33 : decode cX5_firstNobody 33 = .ok (.iconst 0, 1) := by decide +kernel
theorem dX5_firstNobody_34 : decode cX5_firstNobody 34 = .ok (.istore_n 3, 1) := by decide +kernel
theorem dX5_firstNobody_35 : decode cX5_firstNobody 35 = .ok (.iload_n 3, 1) := by decide +kernel
theorem dX5_firstNobody_36 : decode cX5_firstNobody 36 = .ok (.ifCond .eq 14, 3) := by decide +kernel
theorem dX5_firstNobody_39 : decode cX5_firstNobody 39 = .ok (.aload_n 0, 1) := by decide +kernel
theorem dX5_firstNobody_40 : decode cX5_firstNobody 40 = .ok (.iload_n 2, 1) := by decide +kernel
theorem dX5_firstNobody_41 : decode cX5_firstNobody 41 = .ok (.invokevirtual 53, 3) := by decide +kernel
theorem dX5_firstNobody_44 : decode cX5_firstNobody 44 = .ok (.iload_n 1, 1) := by decide +kernel
theorem dX5_firstNobody_45 : decode cX5_firstNobody 45 = .ok (.if_icmp .lt 5, 3) := by decide +kernel
theorem dX5_firstNobody_48 : decode cX5_firstNobody 48 = .ok (.iload_n 2, 1) := by decide +kernel
theorem dX5_firstNobody_49 : decode cX5_firstNobody 49 = .ok (.ireturn, 1) := by decide +kernel
theorem dX5_firstNobody_50 : decode cX5_firstNobody 50 = .ok (.iinc 2 1, 3) := by decide +kernel
theorem dX5_firstNobody_53 : decode cX5_firstNobody 53 = .ok (.goto (-46), 3) := by decide +kernel
theorem dX5_firstNobody_56 : decode cX5_firstNobody 56 = .ok (.aload_n 0, 1) := by decide +kernel
theorem dX5_firstNobody_57 : decode cX5_firstNobody 57 = .ok (.getfield 15, 3) := by decide +kernel
theorem dX5_firstNobody_60 : decode cX5_firstNobody 60 = .ok (.ireturn, 1) := by decide +kernel
theorem dX6_init_0 : decode cX6_init 0 = .ok (.aload_n 0, 1) := by decide +kernel
theorem dX6_init_1 : decode cX6_init 1 = .ok (.invokespecial 1, 3) := by decide +kernel
theorem dX6_init_4 : decode cX6_init 4 = .ok (.aload_n 0, 1) := by decide +kernel
theorem dX6_init_5 : decode cX6_init 5 = .ok (.iload_n 1, 1) := by decide +kernel
theorem dX6_init_6 : decode cX6_init 6 = .ok (.putfield 7, 3) := by decide +kernel
theorem dX6_init_9 : decode cX6_init 9 = .ok (.return_, 1) := by decide +kernel
theorem dX6_isSpelt_0 : decode cX6_isSpelt 0 = .ok (.iload_n 1, 1) := by decide +kernel
theorem dX6_isSpelt_1 : decode cX6_isSpelt 1 = .ok (.ifCond .eq 11, 3) := by decide +kernel
theorem dX6_isSpelt_4 : decode cX6_isSpelt 4 = .ok (.iload_n 2, 1) := by decide +kernel
theorem dX6_isSpelt_5 : decode cX6_isSpelt 5 = .ok (.ifCond .eq 7, 3) := by decide +kernel
theorem dX6_isSpelt_8 : decode cX6_isSpelt 8 = .ok (.iconst 1, 1) := by decide +kernel
theorem dX6_isSpelt_9 : decode cX6_isSpelt 9 = .ok (.goto 4, 3) := by decide +kernel
theorem dX6_isSpelt_12 : decode cX6_isSpelt 12 = .ok (.iconst 0, 1) := by decide +kernel
theorem dX6_isSpelt_13 : decode cX6_isSpelt 13 = .ok (.ireturn, 1) := by decide +kernel
theorem dX7_init_0 : decode cX7_init 0 = .ok (.aload_n 0, 1) := by decide +kernel
theorem dX7_init_1 : decode cX7_init 1 = .ok (.invokespecial 3, 3) := by decide +kernel
theorem dX7_init_4 : decode cX7_init 4 = .ok (.aload_n 0, 1) := by decide +kernel
theorem dX7_init_5 : decode cX7_init 5 = .ok (.bipush 32, 2) := by decide +kernel
theorem dX7_init_7 : decode cX7_init 7 = .ok (.newarray .int, 2) := by decide +kernel
theorem dX7_init_9 : decode cX7_init 9 = .ok (.putfield 9, 3) := by decide +kernel
theorem dX7_init_12 : decode cX7_init 12 = .ok (.aload_n 0, 1) := by decide +kernel
theorem dX7_init_13 : decode cX7_init 13 = .ok (.iconst 3, 1) := by decide +kernel
theorem dX7_init_14 : decode cX7_init 14 = .ok (.newarray .int, 2) := by decide +kernel
theorem dX7_init_16 : decode cX7_init 16 = .ok (.putfield 15, 3) := by decide +kernel
theorem dX7_init_19 : decode cX7_init 19 = .ok (.return_, 1) := by decide +kernel
theorem dX7_planMoves_0 : decode cX7_planMoves 0 = .ok (.iconst 2, 1) := by decide +kernel
theorem dX7_planMoves_1 : decode cX7_planMoves 1 = .ok (.iconst 5, 1) := by decide +kernel
theorem dX7_planMoves_2 : decode cX7_planMoves 2 = .ok (.aload_n 1, 1) := by decide +kernel
theorem dX7_planMoves_3 : decode cX7_planMoves 3 = .ok (.getfield 18, 3) := by decide +kernel
theorem dX7_planMoves_6 : decode cX7_planMoves 6 = .ok (.isub, 1) := by decide +kernel
theorem dX7_planMoves_7 : decode cX7_planMoves 7 = .ok (.imul, 1) := by decide +kernel
theorem dX7_planMoves_8 : decode cX7_planMoves 8 = .ok (.istore_n 3, 1) := by decide +kernel
theorem dX7_planMoves_9 : decode cX7_planMoves 9 = .ok (.bipush 6, 2) := by decide +kernel
theorem dX7_planMoves_11 : decode cX7_planMoves 11 = .ok (.istore 4, 2) := by decide +kernel
theorem dX7_planMoves_13 : decode cX7_planMoves 13 = .ok (.iconst 0, 1) := by decide +kernel
theorem dX7_planMoves_14 : decode cX7_planMoves 14 = .ok (.istore 5, 2) := by decide +kernel
theorem dX7_planMoves_16 : decode cX7_planMoves 16 = .ok (.iload 5, 2) := by decide +kernel
theorem dX7_planMoves_18 : decode cX7_planMoves 18 = .ok (.iconst 1, 1) := by decide +kernel
theorem dX7_planMoves_19 : decode cX7_planMoves 19 = .ok (.iconst 2, 1) := by decide +kernel
theorem dX7_planMoves_20 : decode cX7_planMoves 20 = .ok (.aload_n 1, 1) := by decide +kernel
theorem dX7_planMoves_21 : decode cX7_planMoves 21 = .ok (.getfield 18, 3) := by decide +kernel
theorem dX7_planMoves_24 : decode cX7_planMoves 24 = .ok (.imul, 1) := by decide +kernel
theorem dX7_planMoves_25 : decode cX7_planMoves 25 = .ok (.ishl, 1) := by decide +kernel
theorem dX7_planMoves_26 : decode cX7_planMoves 26 = .ok (.if_icmp .ge 61, 3) := by decide +kernel
theorem dX7_planMoves_29 : decode cX7_planMoves 29 = .ok (.iload 5, 2) := by decide +kernel
theorem dX7_planMoves_31 : decode cX7_planMoves 31 = .ok (.iload_n 3, 1) := by decide +kernel
theorem dX7_planMoves_32 : decode cX7_planMoves 32 = .ok (.ishl, 1) := by decide +kernel
theorem dX7_planMoves_33 : decode cX7_planMoves 33 = .ok (.istore 6, 2) := by decide +kernel
theorem dX7_planMoves_35 : decode cX7_planMoves 35 = .ok (.iload 6, 2) := by decide +kernel
theorem dX7_planMoves_37 : decode cX7_planMoves 37 = .ok (.aload_n 1, 1) := by decide +kernel
theorem dX7_planMoves_38 : decode cX7_planMoves 38 = .ok (.getfield 24, 3) := by decide +kernel
theorem dX7_planMoves_41 : decode cX7_planMoves 41 = .ok (.getfield 28, 3) := by decide +kernel
theorem dX7_planMoves_44 : decode cX7_planMoves 44 = .ok (.invokestatic 33, 3) := by decide +kernel
theorem dX7_planMoves_47 : decode cX7_planMoves 47 = .ok (.istore 7, 2) := by decide +kernel
theorem dX7_planMoves_49 : decode cX7_planMoves 49 = .ok (.iload 7, 2) := by decide +kernel
theorem dX7_planMoves_51 : decode cX7_planMoves 51 = .ok (.iload 4, 2) := by decide +kernel
theorem dX7_planMoves_53 : decode cX7_planMoves 53 = .ok (.if_icmp .ge 28, 3) := by decide +kernel
theorem dX7_planMoves_56 : decode cX7_planMoves 56 = .ok (.aload_n 1, 1) := by decide +kernel
theorem dX7_planMoves_57 : decode cX7_planMoves 57 = .ok (.iload_n 2, 1) := by decide +kernel
theorem dX7_planMoves_58 : decode cX7_planMoves 58 = .ok (.aload_n 1, 1) := by decide +kernel
theorem dX7_planMoves_59 : decode cX7_planMoves 59 = .ok (.iload 6, 2) := by decide +kernel
theorem dX7_planMoves_61 : decode cX7_planMoves 61 = .ok (.iload_n 2, 1) := by decide +kernel
theorem dX7_planMoves_62 : decode cX7_planMoves 62 = .ok (.invokevirtual 37, 3) := by decide +kernel
theorem dX7_planMoves_65 : decode cX7_planMoves 65 = .ok (.invokevirtual 40, 3) := by decide +kernel
theorem dX7_planMoves_68 : decode cX7_planMoves 68 = .ok (.ifCond .eq 13, 3) := by decide +kernel
theorem dX7_planMoves_71 : decode cX7_planMoves 71 = .ok (.iload 7, 2) := by decide +kernel
theorem dX7_planMoves_73 : decode cX7_planMoves 73 = .ok (.istore 4, 2) := by decide +kernel
theorem dX7_planMoves_75 : decode cX7_planMoves 75 = .ok (.aload_n 0, 1) := by decide +kernel
theorem dX7_planMoves_76 : decode cX7_planMoves 76 = .ok (.iload 6, 2) := by decide +kernel
theorem dX7_planMoves_78 : decode cX7_planMoves 78 = .ok (.putfield 44, 3) := by decide +kernel
theorem dX7_planMoves_81 : decode cX7_planMoves 81 = .ok (.iinc 5 1, 3) := by decide +kernel
theorem dX7_planMoves_84 : decode cX7_planMoves 84 = .ok (.goto (-68), 3) := by decide +kernel
theorem dX7_planMoves_87 : decode cX7_planMoves 87 = .ok (.iload 4, 2) := by decide +kernel
theorem dX7_planMoves_89 : decode cX7_planMoves 89 = .ok (.iconst 5, 1) := by decide +kernel
theorem dX7_planMoves_90 : decode cX7_planMoves 90 = .ok (.if_icmp .le 7, 3) := by decide +kernel
theorem dX7_planMoves_93 : decode cX7_planMoves 93 = .ok (.iconst (-1), 1) := by decide +kernel
theorem dX7_planMoves_94 : decode cX7_planMoves 94 = .ok (.goto 5, 3) := by decide +kernel
theorem dX7_planMoves_97 : decode cX7_planMoves 97 = .ok (.iload 4, 2) := by decide +kernel
theorem dX7_planMoves_99 : decode cX7_planMoves 99 = .ok (.ireturn, 1) := by decide +kernel
theorem dX7_howManyDiffer_0 : decode cX7_howManyDiffer 0 = .ok (.iload_n 0, 1) := by decide +kernel
theorem dX7_howManyDiffer_1 : decode cX7_howManyDiffer 1 = .ok (.iload_n 1, 1) := by decide +kernel
theorem dX7_howManyDiffer_2 : decode cX7_howManyDiffer 2 = .ok (.ixor, 1) := by decide +kernel
theorem dX7_howManyDiffer_3 : decode cX7_howManyDiffer 3 = .ok (.istore_n 2, 1) := by decide +kernel
theorem dX7_howManyDiffer_4 : decode cX7_howManyDiffer 4 = .ok (.iload_n 2, 1) := by decide +kernel
theorem dX7_howManyDiffer_5 : decode cX7_howManyDiffer 5 = .ok (.iload_n 2, 1) := by decide +kernel
theorem dX7_howManyDiffer_6 : decode cX7_howManyDiffer 6 = .ok (.iconst 1, 1) := by decide +kernel
theorem dX7_howManyDiffer_7 : decode cX7_howManyDiffer 7 = .ok (.ishr, 1) := by decide +kernel
theorem dX7_howManyDiffer_8 : decode cX7_howManyDiffer 8 = .ok (.ior, 1) := by decide +kernel
theorem dX7_howManyDiffer_9 : decode cX7_howManyDiffer 9 = .ok (.sipush 341, 3) := by decide +kernel
theorem dX7_howManyDiffer_12 : decode cX7_howManyDiffer 12 = .ok (.iand, 1) := by decide +kernel
theorem dX7_howManyDiffer_13 : decode cX7_howManyDiffer 13 = .ok (.invokestatic 47, 3) := by decide +kernel
theorem dX7_howManyDiffer_16 : decode cX7_howManyDiffer 16 = .ok (.ireturn, 1) := by decide +kernel
theorem dX7_planDays_0 : decode cX7_planDays 0 = .ok (.iload_n 2, 1) := by decide +kernel
theorem dX7_planDays_1 : decode cX7_planDays 1 = .ok (.ifCond .ne 5, 3) := by decide +kernel
theorem dX7_planDays_4 : decode cX7_planDays 4 = .ok (.iconst 0, 1) := by decide +kernel
theorem dX7_planDays_5 : decode cX7_planDays 5 = .ok (.ireturn, 1) := by decide +kernel
theorem dX7_planDays_6 : decode cX7_planDays 6 = .ok (.aload_n 0, 1) := by decide +kernel
theorem dX7_planDays_7 : decode cX7_planDays 7 = .ok (.iconst 1, 1) := by decide +kernel
theorem dX7_planDays_8 : decode cX7_planDays 8 = .ok (.aload_n 1, 1) := by decide +kernel
theorem dX7_planDays_9 : decode cX7_planDays 9 = .ok (.getfield 18, 3) := by decide +kernel
theorem dX7_planDays_12 : decode cX7_planDays 12 = .ok (.ishl, 1) := by decide +kernel
theorem dX7_planDays_13 : decode cX7_planDays 13 = .ok (.putfield 53, 3) := by decide +kernel
theorem dX7_planDays_16 : decode cX7_planDays 16 = .ok (.iconst 0, 1) := by decide +kernel
theorem dX7_planDays_17 : decode cX7_planDays 17 = .ok (.istore_n 3, 1) := by decide +kernel
theorem dX7_planDays_18 : decode cX7_planDays 18 = .ok (.iload_n 3, 1) := by decide +kernel
theorem dX7_planDays_19 : decode cX7_planDays 19 = .ok (.aload_n 0, 1) := by decide +kernel
theorem dX7_planDays_20 : decode cX7_planDays 20 = .ok (.getfield 53, 3) := by decide +kernel
theorem dX7_planDays_23 : decode cX7_planDays 23 = .ok (.if_icmp .ge 23, 3) := by decide +kernel
theorem dX7_planDays_26 : decode cX7_planDays 26 = .ok (.aload_n 0, 1) := by decide +kernel
theorem dX7_planDays_27 : decode cX7_planDays 27 = .ok (.getfield 9, 3) := by decide +kernel
theorem dX7_planDays_30 : decode cX7_planDays 30 = .ok (.iload_n 3, 1) := by decide +kernel
theorem dX7_planDays_31 : decode cX7_planDays 31 = .ok (.aload_n 0, 1) := by decide +kernel
theorem dX7_planDays_32 : decode cX7_planDays 32 = .ok (.aload_n 1, 1) := by decide +kernel
theorem dX7_planDays_33 : decode cX7_planDays 33 = .ok (.iload_n 3, 1) := by decide +kernel
theorem dX7_planDays_34 : decode cX7_planDays 34 = .ok (.invokevirtual 56, 3) := by decide +kernel
theorem dX7_planDays_37 : decode cX7_planDays 37 = .ok (.invokestatic 60, 3) := by decide +kernel
theorem dX7_planDays_40 : decode cX7_planDays 40 = .ok (.iinc 3 1, 3) := by decide +kernel
theorem dX7_planDays_43 : decode cX7_planDays 43 = .ok (.goto (-25), 3) := by decide +kernel
theorem dX7_planDays_46 : decode cX7_planDays 46 = .ok (.iconst 1, 1) := by decide +kernel
theorem dX7_planDays_47 : decode cX7_planDays 47 = .ok (.istore_n 3, 1) := by decide +kernel
theorem dX7_planDays_48 : decode cX7_planDays 48 = .ok (.iload_n 3, 1) := by decide +kernel
theorem dX7_planDays_49 : decode cX7_planDays 49 = .ok (.iconst 3, 1) := by decide +kernel
theorem dX7_planDays_50 : decode cX7_planDays 50 = .ok (.if_icmp .gt 22, 3) := by decide +kernel
theorem dX7_planDays_53 : decode cX7_planDays 53 = .ok (.aload_n 0, 1) := by decide +kernel
theorem dX7_planDays_54 : decode cX7_planDays 54 = .ok (.iload_n 2, 1) := by decide +kernel
theorem dX7_planDays_55 : decode cX7_planDays 55 = .ok (.iconst 1, 1) := by decide +kernel
theorem dX7_planDays_56 : decode cX7_planDays 56 = .ok (.iconst 0, 1) := by decide +kernel
theorem dX7_planDays_57 : decode cX7_planDays 57 = .ok (.iload_n 3, 1) := by decide +kernel
theorem dX7_planDays_58 : decode cX7_planDays 58 = .ok (.invokevirtual 64, 3) := by decide +kernel
theorem dX7_planDays_61 : decode cX7_planDays 61 = .ok (.ifCond .eq 5, 3) := by decide +kernel
theorem dX7_planDays_64 : decode cX7_planDays 64 = .ok (.iload_n 3, 1) := by decide +kernel
theorem dX7_planDays_65 : decode cX7_planDays 65 = .ok (.ireturn, 1) := by decide +kernel
theorem dX7_planDays_66 : decode cX7_planDays 66 = .ok (.iinc 3 1, 3) := by decide +kernel
theorem dX7_planDays_69 : decode cX7_planDays 69 = .ok (.goto (-21), 3) := by decide +kernel
theorem dX7_planDays_72 : decode cX7_planDays 72 = .ok (.iconst (-1), 1) := by decide +kernel
theorem dX7_planDays_73 : decode cX7_planDays 73 = .ok (.ireturn, 1) := by decide +kernel
theorem dX7_whoIsWritten_0 : decode cX7_whoIsWritten 0 = .ok (.iconst 0, 1) := by decide +kernel
theorem dX7_whoIsWritten_1 : decode cX7_whoIsWritten 1 = .ok (.istore_n 3, 1) := by decide +kernel
theorem dX7_whoIsWritten_2 : decode cX7_whoIsWritten 2 = .ok (.iconst 0, 1) := by decide +kernel
theorem dX7_whoIsWritten_3 : decode cX7_whoIsWritten 3 = .ok (.istore 4, 2) := by decide +kernel
theorem dX7_whoIsWritten_5 : decode cX7_whoIsWritten 5 = .ok (.iload 4, 2) := by decide +kernel
theorem dX7_whoIsWritten_7 : decode cX7_whoIsWritten 7 = .ok (.aload_n 1, 1) := by decide +kernel
theorem dX7_whoIsWritten_8 : decode cX7_whoIsWritten 8 = .ok (.getfield 18, 3) := by decide +kernel
theorem dX7_whoIsWritten_11 : decode cX7_whoIsWritten 11 = .ok (.if_icmp .ge 26, 3) := by decide +kernel
theorem dX7_whoIsWritten_14 : decode cX7_whoIsWritten 14 = .ok (.aload_n 1, 1) := by decide +kernel
theorem dX7_whoIsWritten_15 : decode cX7_whoIsWritten 15 = .ok (.iload 4, 2) := by decide +kernel
theorem dX7_whoIsWritten_17 : decode cX7_whoIsWritten 17 = .ok (.iload_n 2, 1) := by decide +kernel
theorem dX7_whoIsWritten_18 : decode cX7_whoIsWritten 18 = .ok (.invokevirtual 40, 3) := by decide +kernel
theorem dX7_whoIsWritten_21 : decode cX7_whoIsWritten 21 = .ok (.ifCond .eq 10, 3) := by decide +kernel
theorem dX7_whoIsWritten_24 : decode cX7_whoIsWritten 24 = .ok (.iload_n 3, 1) := by decide +kernel
theorem dX7_whoIsWritten_25 : decode cX7_whoIsWritten 25 = .ok (.iconst 1, 1) := by decide +kernel
theorem dX7_whoIsWritten_26 : decode cX7_whoIsWritten 26 = .ok (.iload 4, 2) := by decide +kernel
theorem dX7_whoIsWritten_28 : decode cX7_whoIsWritten 28 = .ok (.ishl, 1) := by decide +kernel
theorem dX7_whoIsWritten_29 : decode cX7_whoIsWritten 29 = .ok (.ior, 1) := by decide +kernel
theorem dX7_whoIsWritten_30 : decode cX7_whoIsWritten 30 = .ok (.istore_n 3, 1) := by decide +kernel
theorem dX7_whoIsWritten_31 : decode cX7_whoIsWritten 31 = .ok (.iinc 4 1, 3) := by decide +kernel
theorem dX7_whoIsWritten_34 : decode cX7_whoIsWritten 34 = .ok (.goto (-29), 3) := by decide +kernel
theorem dX7_whoIsWritten_37 : decode cX7_whoIsWritten 37 = .ok (.iload_n 3, 1) := by decide +kernel
theorem dX7_whoIsWritten_38 : decode cX7_whoIsWritten 38 = .ok (.ireturn, 1) := by decide +kernel
theorem dX7_cover_0 : decode cX7_cover 0 = .ok (.iload_n 3, 1) := by decide +kernel
theorem dX7_cover_1 : decode cX7_cover 1 = .ok (.iload 4, 2) := by decide +kernel
theorem dX7_cover_3 : decode cX7_cover 3 = .ok (.if_icmp .ge 8, 3) := by decide +kernel
theorem dX7_cover_6 : decode cX7_cover 6 = .ok (.iload_n 3, 1) := by decide +kernel
theorem dX7_cover_7 : decode cX7_cover 7 = .ok (.iconst 3, 1) := by decide +kernel
theorem dX7_cover_8 : decode cX7_cover 8 = .ok (.if_icmp .lt 13, 3) := by decide +kernel
theorem dX7_cover_11 : decode cX7_cover 11 = .ok (.iload_n 1, 1) := by decide +kernel
theorem dX7_cover_12 : decode cX7_cover 12 = .ok (.ifCond .ne 7, 3) := by decide +kernel
theorem dX7_cover_15 : decode cX7_cover 15 = .ok (.iconst 1, 1) := by decide +kernel
theorem dX7_cover_16 : decode cX7_cover 16 = .ok (.goto 4, 3) := by decide +kernel
theorem dX7_cover_19 : decode cX7_cover 19 = .ok (.iconst 0, 1) := by decide +kernel
theorem dX7_cover_20 : decode cX7_cover 20 = .ok (.ireturn, 1) := by decide +kernel
theorem dX7_cover_21 : decode cX7_cover 21 = .ok (.iload_n 2, 1) := by decide +kernel
theorem dX7_cover_22 : decode cX7_cover 22 = .ok (.istore 5, 2) := by decide +kernel
theorem dX7_cover_24 : decode cX7_cover 24 = .ok (.iload 5, 2) := by decide +kernel
theorem dX7_cover_26 : decode cX7_cover 26 = .ok (.aload_n 0, 1) := by decide +kernel
theorem dX7_cover_27 : decode cX7_cover 27 = .ok (.getfield 53, 3) := by decide +kernel
theorem dX7_cover_30 : decode cX7_cover 30 = .ok (.if_icmp .ge 50, 3) := by decide +kernel
theorem dX7_cover_33 : decode cX7_cover 33 = .ok (.aload_n 0, 1) := by decide +kernel
theorem dX7_cover_34 : decode cX7_cover 34 = .ok (.iload_n 1, 1) := by decide +kernel
theorem dX7_cover_35 : decode cX7_cover 35 = .ok (.aload_n 0, 1) := by decide +kernel
theorem dX7_cover_36 : decode cX7_cover 36 = .ok (.getfield 9, 3) := by decide +kernel
theorem dX7_cover_39 : decode cX7_cover 39 = .ok (.iload 5, 2) := by decide +kernel
theorem dX7_cover_41 : decode cX7_cover 41 = .ok (.invokestatic 68, 3) := by decide +kernel
theorem dX7_cover_44 : decode cX7_cover 44 = .ok (.iconst (-1), 1) := by decide +kernel
theorem dX7_cover_45 : decode cX7_cover 45 = .ok (.ixor, 1) := by decide +kernel
theorem dX7_cover_46 : decode cX7_cover 46 = .ok (.iand, 1) := by decide +kernel
theorem dX7_cover_47 : decode cX7_cover 47 = .ok (.iload 5, 2) := by decide +kernel
theorem dX7_cover_49 : decode cX7_cover 49 = .ok (.iconst 1, 1) := by decide +kernel
theorem dX7_cover_50 : decode cX7_cover 50 = .ok (.iadd, 1) := by decide +kernel
theorem dX7_cover_51 : decode cX7_cover 51 = .ok (.iload_n 3, 1) := by decide +kernel
theorem dX7_cover_52 : decode cX7_cover 52 = .ok (.iconst 1, 1) := by decide +kernel
theorem dX7_cover_53 : decode cX7_cover 53 = .ok (.iadd, 1) := by decide +kernel
theorem dX7_cover_54 : decode cX7_cover 54 = .ok (.iload 4, 2) := by decide +kernel
theorem dX7_cover_56 : decode cX7_cover 56 = .ok (.invokevirtual 64, 3) := by decide +kernel
theorem dX7_cover_59 : decode cX7_cover 59 = .ok (.ifCond .eq 15, 3) := by decide +kernel
theorem dX7_cover_62 : decode cX7_cover 62 = .ok (.aload_n 0, 1) := by decide +kernel
theorem dX7_cover_63 : decode cX7_cover 63 = .ok (.getfield 15, 3) := by decide +kernel
theorem dX7_cover_66 : decode cX7_cover 66 = .ok (.iload_n 3, 1) := by decide +kernel
theorem dX7_cover_67 : decode cX7_cover 67 = .ok (.iload 5, 2) := by decide +kernel
theorem dX7_cover_69 : decode cX7_cover 69 = .ok (.invokestatic 60, 3) := by decide +kernel
theorem dX7_cover_72 : decode cX7_cover 72 = .ok (.iconst 1, 1) := by decide +kernel
theorem dX7_cover_73 : decode cX7_cover 73 = .ok (.ireturn, 1) := by decide +kernel
theorem dX7_cover_74 : decode cX7_cover 74 = .ok (.iinc 5 1, 3) := by decide +kernel
theorem dX7_cover_77 : decode cX7_cover 77 = .ok (.goto (-53), 3) := by decide +kernel
theorem dX7_cover_80 : decode cX7_cover 80 = .ok (.iconst 0, 1) := by decide +kernel
theorem dX7_cover_81 : decode cX7_cover 81 = .ok (.ireturn, 1) := by decide +kernel
theorem dX8_init_0 : decode cX8_init 0 = .ok (.aload_n 0, 1) := by decide +kernel
theorem dX8_init_1 : decode cX8_init 1 = .ok (.iconst 3, 1) := by decide +kernel
theorem dX8_init_2 : decode cX8_init 2 = .ok (.invokespecial 1, 3) := by decide +kernel
theorem dX8_init_5 : decode cX8_init 5 = .ok (.return_, 1) := by decide +kernel
theorem dX8_isSpelt_0 : decode cX8_isSpelt 0 = .ok (.iload_n 1, 1) := by decide +kernel
theorem dX8_isSpelt_1 : decode cX8_isSpelt 1 = .ok (.ifCond .eq 16, 3) := by decide +kernel
theorem dX8_isSpelt_4 : decode cX8_isSpelt 4 = .ok (.iload_n 2, 1) := by decide +kernel
theorem dX8_isSpelt_5 : decode cX8_isSpelt 5 = .ok (.ifCond .eq 12, 3) := by decide +kernel
theorem dX8_isSpelt_8 : decode cX8_isSpelt 8 = .ok (.iload 4, 2) := by decide +kernel
theorem dX8_isSpelt_10 : decode cX8_isSpelt 10 = .ok (.ifCond .ne 7, 3) := by decide +kernel
theorem dX8_isSpelt_13 : decode cX8_isSpelt 13 = .ok (.iconst 1, 1) := by decide +kernel
theorem dX8_isSpelt_14 : decode cX8_isSpelt 14 = .ok (.goto 4, 3) := by decide +kernel
theorem dX8_isSpelt_17 : decode cX8_isSpelt 17 = .ok (.iconst 0, 1) := by decide +kernel
theorem dX8_isSpelt_18 : decode cX8_isSpelt 18 = .ok (.ireturn, 1) := by decide +kernel
theorem dX9_init_0 : decode cX9_init 0 = .ok (.aload_n 0, 1) := by decide +kernel
theorem dX9_init_1 : decode cX9_init 1 = .ok (.invokespecial 3, 3) := by decide +kernel
theorem dX9_init_4 : decode cX9_init 4 = .ok (.aload_n 0, 1) := by decide +kernel
theorem dX9_init_5 : decode cX9_init 5 = .ok (.new 9, 3) := by decide +kernel
theorem dX9_init_8 : decode cX9_init 8 = .ok (.dup, 1) := by decide +kernel
theorem dX9_init_9 : decode cX9_init 9 = .ok (.invokespecial 11, 3) := by decide +kernel
theorem dX9_init_12 : decode cX9_init 12 = .ok (.putfield 12, 3) := by decide +kernel
theorem dX9_init_15 : decode cX9_init 15 = .ok (.aload_n 0, 1) := by decide +kernel
theorem dX9_init_16 : decode cX9_init 16 = .ok (.iconst 5, 1) := by decide +kernel
theorem dX9_init_17 : decode cX9_init 17 = .ok (.anewarray 18, 3) := by decide +kernel
theorem dX9_init_20 : decode cX9_init 20 = .ok (.dup, 1) := by decide +kernel
theorem dX9_init_21 : decode cX9_init 21 = .ok (.iconst 0, 1) := by decide +kernel
theorem dX9_init_22 : decode cX9_init 22 = .ok (.new 18, 3) := by decide +kernel
theorem dX9_init_25 : decode cX9_init 25 = .ok (.dup, 1) := by decide +kernel
theorem dX9_init_26 : decode cX9_init 26 = .ok (.iconst 0, 1) := by decide +kernel
theorem dX9_init_27 : decode cX9_init 27 = .ok (.invokespecial 20, 3) := by decide +kernel
theorem dX9_init_30 : decode cX9_init 30 = .ok (.aastore, 1) := by decide +kernel
theorem dX9_init_31 : decode cX9_init 31 = .ok (.dup, 1) := by decide +kernel
theorem dX9_init_32 : decode cX9_init 32 = .ok (.iconst 1, 1) := by decide +kernel
theorem dX9_init_33 : decode cX9_init 33 = .ok (.new 23, 3) := by decide +kernel
theorem dX9_init_36 : decode cX9_init 36 = .ok (.dup, 1) := by decide +kernel
theorem dX9_init_37 : decode cX9_init 37 = .ok (.invokespecial 25, 3) := by decide +kernel
theorem dX9_init_40 : decode cX9_init 40 = .ok (.aastore, 1) := by decide +kernel
theorem dX9_init_41 : decode cX9_init 41 = .ok (.dup, 1) := by decide +kernel
theorem dX9_init_42 : decode cX9_init 42 = .ok (.iconst 2, 1) := by decide +kernel
theorem dX9_init_43 : decode cX9_init 43 = .ok (.new 26, 3) := by decide +kernel
theorem dX9_init_46 : decode cX9_init 46 = .ok (.dup, 1) := by decide +kernel
theorem dX9_init_47 : decode cX9_init 47 = .ok (.iconst 2, 1) := by decide +kernel
theorem dX9_init_48 : decode cX9_init 48 = .ok (.invokespecial 28, 3) := by decide +kernel
theorem dX9_init_51 : decode cX9_init 51 = .ok (.aastore, 1) := by decide +kernel
theorem dX9_init_52 : decode cX9_init 52 = .ok (.dup, 1) := by decide +kernel
theorem dX9_init_53 : decode cX9_init 53 = .ok (.iconst 3, 1) := by decide +kernel
theorem dX9_init_54 : decode cX9_init 54 = .ok (.new 29, 3) := by decide +kernel
theorem dX9_init_57 : decode cX9_init 57 = .ok (.dup, 1) := by decide +kernel
theorem dX9_init_58 : decode cX9_init 58 = .ok (.invokespecial 31, 3) := by decide +kernel
theorem dX9_init_61 : decode cX9_init 61 = .ok (.aastore, 1) := by decide +kernel
theorem dX9_init_62 : decode cX9_init 62 = .ok (.dup, 1) := by decide +kernel
theorem dX9_init_63 : decode cX9_init 63 = .ok (.iconst 4, 1) := by decide +kernel
theorem dX9_init_64 : decode cX9_init 64 = .ok (.new 32, 3) := by decide +kernel
theorem dX9_init_67 : decode cX9_init 67 = .ok (.dup, 1) := by decide +kernel
theorem dX9_init_68 : decode cX9_init 68 = .ok (.invokespecial 34, 3) := by decide +kernel
theorem dX9_init_71 : decode cX9_init 71 = .ok (.aastore, 1) := by decide +kernel
theorem dX9_init_72 : decode cX9_init 72 = .ok (.putfield 35, 3) := by decide +kernel
theorem dX9_init_75 : decode cX9_init 75 = .ok (.aload_n 0, 1) := by decide +kernel
theorem dX9_init_76 : decode cX9_init 76 = .ok (.iconst 5, 1) := by decide +kernel
theorem dX9_init_77 : decode cX9_init 77 = .ok (.anewarray 18, 3) := by decide +kernel
theorem dX9_init_80 : decode cX9_init 80 = .ok (.putfield 39, 3) := by decide +kernel
theorem dX9_init_83 : decode cX9_init 83 = .ok (.return_, 1) := by decide +kernel
theorem dX9_settle_0 : decode cX9_settle 0 = .ok (.aload_n 0, 1) := by decide +kernel
theorem dX9_settle_1 : decode cX9_settle 1 = .ok (.getfield 12, 3) := by decide +kernel
theorem dX9_settle_4 : decode cX9_settle 4 = .ok (.invokevirtual 42, 3) := by decide +kernel
theorem dX9_settle_7 : decode cX9_settle 7 = .ok (.aload_n 0, 1) := by decide +kernel
theorem dX9_settle_8 : decode cX9_settle 8 = .ok (.aload_n 1, 1) := by decide +kernel
theorem dX9_settle_9 : decode cX9_settle 9 = .ok (.invokevirtual 45, 3) := by decide +kernel
theorem dX9_settle_12 : decode cX9_settle 12 = .ok (.iconst 5, 1) := by decide +kernel
theorem dX9_settle_13 : decode cX9_settle 13 = .ok (.invokestatic 50, 3) := by decide +kernel
theorem dX9_settle_16 : decode cX9_settle 16 = .ok (.putfield 56, 3) := by decide +kernel
theorem dX9_settle_19 : decode cX9_settle 19 = .ok (.iconst 0, 1) := by decide +kernel
theorem dX9_settle_20 : decode cX9_settle 20 = .ok (.istore_n 2, 1) := by decide +kernel
theorem dX9_settle_21 : decode cX9_settle 21 = .ok (.iload_n 2, 1) := by decide +kernel
theorem dX9_settle_22 : decode cX9_settle 22 = .ok (.aload_n 0, 1) := by decide +kernel
theorem dX9_settle_23 : decode cX9_settle 23 = .ok (.getfield 56, 3) := by decide +kernel
theorem dX9_settle_26 : decode cX9_settle 26 = .ok (.if_icmp .ge 93, 3) := by decide +kernel
theorem dX9_settle_29 : decode cX9_settle 29 = .ok (.iload_n 2, 1) := by decide +kernel
theorem dX9_settle_30 : decode cX9_settle 30 = .ok (.aload_n 0, 1) := by decide +kernel
theorem dX9_settle_31 : decode cX9_settle 31 = .ok (.getfield 39, 3) := by decide +kernel
theorem dX9_settle_34 : decode cX9_settle 34 = .ok (.arraylength, 1) := by decide +kernel
theorem dX9_settle_35 : decode cX9_settle 35 = .ok (.if_icmp .ge 84, 3) := by decide +kernel
theorem dX9_settle_38 : decode cX9_settle 38 = .ok (.aload_n 1, 1) := by decide +kernel
theorem dX9_settle_39 : decode cX9_settle 39 = .ok (.iload_n 2, 1) := by decide +kernel
theorem dX9_settle_40 : decode cX9_settle 40 = .ok (.invokevirtual 60, 3) := by decide +kernel
theorem dX9_settle_43 : decode cX9_settle 43 = .ok (.istore_n 3, 1) := by decide +kernel
theorem dX9_settle_44 : decode cX9_settle 44 = .ok (.aload_n 0, 1) := by decide +kernel
theorem dX9_settle_45 : decode cX9_settle 45 = .ok (.getfield 39, 3) := by decide +kernel
theorem dX9_settle_48 : decode cX9_settle 48 = .ok (.iload_n 2, 1) := by decide +kernel
theorem dX9_settle_49 : decode cX9_settle 49 = .ok (.iload_n 3, 1) := by decide +kernel
theorem dX9_settle_50 : decode cX9_settle 50 = .ok (.ifCond .lt 21, 3) := by decide +kernel
theorem dX9_settle_53 : decode cX9_settle 53 = .ok (.iload_n 3, 1) := by decide +kernel
theorem dX9_settle_54 : decode cX9_settle 54 = .ok (.aload_n 0, 1) := by decide +kernel
theorem dX9_settle_55 : decode cX9_settle 55 = .ok (.getfield 35, 3) := by decide +kernel
theorem dX9_settle_58 : decode cX9_settle 58 = .ok (.arraylength, 1) := by decide +kernel
theorem dX9_settle_59 : decode cX9_settle 59 = .ok (.if_icmp .ge 12, 3) := by decide +kernel
theorem dX9_settle_62 : decode cX9_settle 62 = .ok (.aload_n 0, 1) := by decide +kernel
theorem dX9_settle_63 : decode cX9_settle 63 = .ok (.getfield 35, 3) := by decide +kernel
theorem dX9_settle_66 : decode cX9_settle 66 = .ok (.iload_n 3, 1) := by decide +kernel
theorem dX9_settle_67 : decode cX9_settle 67 = .ok (.aaload, 1) := by decide +kernel
theorem dX9_settle_68 : decode cX9_settle 68 = .ok (.goto 4, 3) := by decide +kernel
theorem dX9_settle_71 : decode cX9_settle 71 = .ok (.aconst_null, 1) := by decide +kernel
theorem dX9_settle_72 : decode cX9_settle 72 = .ok (.aastore, 1) := by decide +kernel
theorem dX9_settle_73 : decode cX9_settle 73 = .ok (.aload_n 0, 1) := by decide +kernel
theorem dX9_settle_74 : decode cX9_settle 74 = .ok (.getfield 12, 3) := by decide +kernel
theorem dX9_settle_77 : decode cX9_settle 77 = .ok (.getfield 64, 3) := by decide +kernel
theorem dX9_settle_80 : decode cX9_settle 80 = .ok (.iload_n 2, 1) := by decide +kernel
theorem dX9_settle_81 : decode cX9_settle 81 = .ok (.aload_n 1, 1) := by decide +kernel
theorem dX9_settle_82 : decode cX9_settle 82 = .ok (.iconst 4, 1) := by decide +kernel
theorem dX9_settle_83 : decode cX9_settle 83 = .ok (.iload_n 2, 1) := by decide +kernel
theorem dX9_settle_84 : decode cX9_settle 84 = .ok (.imul, 1) := by decide +kernel
theorem dX9_settle_85 : decode cX9_settle 85 = .ok (.iconst 1, 1) := by decide +kernel
theorem dX9_settle_86 : decode cX9_settle 86 = .ok (.iadd, 1) := by decide +kernel
theorem dX9_settle_87 : decode cX9_settle 87 = .ok (.invokevirtual 68, 3) := by decide +kernel
theorem dX9_settle_90 : decode cX9_settle 90 = .ok (.invokestatic 71, 3) := by decide +kernel
theorem dX9_settle_93 : decode cX9_settle 93 = .ok (.aload_n 0, 1) := by decide +kernel
theorem dX9_settle_94 : decode cX9_settle 94 = .ok (.getfield 12, 3) := by decide +kernel
theorem dX9_settle_97 : decode cX9_settle 97 = .ok (.getfield 75, 3) := by decide +kernel
theorem dX9_settle_100 : decode cX9_settle 100 = .ok (.iload_n 2, 1) := by decide +kernel
theorem dX9_settle_101 : decode cX9_settle 101 = .ok (.aload_n 1, 1) := by decide +kernel
theorem dX9_settle_102 : decode cX9_settle 102 = .ok (.iconst 4, 1) := by decide +kernel
theorem dX9_settle_103 : decode cX9_settle 103 = .ok (.iload_n 2, 1) := by decide +kernel
theorem dX9_settle_104 : decode cX9_settle 104 = .ok (.imul, 1) := by decide +kernel
theorem dX9_settle_105 : decode cX9_settle 105 = .ok (.iconst 2, 1) := by decide +kernel
theorem dX9_settle_106 : decode cX9_settle 106 = .ok (.iadd, 1) := by decide +kernel
theorem dX9_settle_107 : decode cX9_settle 107 = .ok (.invokevirtual 68, 3) := by decide +kernel
theorem dX9_settle_110 : decode cX9_settle 110 = .ok (.invokestatic 71, 3) := by decide +kernel
theorem dX9_settle_113 : decode cX9_settle 113 = .ok (.iinc 2 1, 3) := by decide +kernel
theorem dX9_settle_116 : decode cX9_settle 116 = .ok (.goto (-95), 3) := by decide +kernel
theorem dX9_settle_119 : decode cX9_settle 119 = .ok (.return_, 1) := by decide +kernel
theorem dX9_has_0 : decode cX9_has 0 = .ok (.iload_n 1, 1) := by decide +kernel
theorem dX9_has_1 : decode cX9_has 1 = .ok (.ifCond .lt 15, 3) := by decide +kernel
theorem dX9_has_4 : decode cX9_has 4 = .ok (.iload_n 1, 1) := by decide +kernel
theorem dX9_has_5 : decode cX9_has 5 = .ok (.aload_n 0, 1) := by decide +kernel
theorem dX9_has_6 : decode cX9_has 6 = .ok (.getfield 56, 3) := by decide +kernel
theorem dX9_has_9 : decode cX9_has 9 = .ok (.if_icmp .ge 7, 3) := by decide +kernel
theorem dX9_has_12 : decode cX9_has 12 = .ok (.iconst 1, 1) := by decide +kernel
theorem dX9_has_13 : decode cX9_has 13 = .ok (.goto 4, 3) := by decide +kernel
theorem dX9_has_16 : decode cX9_has 16 = .ok (.iconst 0, 1) := by decide +kernel
theorem dX9_has_17 : decode cX9_has 17 = .ok (.ireturn, 1) := by decide +kernel
theorem dX9_isSetOfPeople_0 : decode cX9_isSetOfPeople 0 = .ok (.iload_n 1, 1) := by decide +kernel
theorem dX9_isSetOfPeople_1 : decode cX9_isSetOfPeople 1 = .ok (.ifCond .lt 17, 3) := by decide +kernel
theorem dX9_isSetOfPeople_4 : decode cX9_isSetOfPeople 4 = .ok (.iload_n 1, 1) := by decide +kernel
theorem dX9_isSetOfPeople_5 : decode cX9_isSetOfPeople 5 = .ok (.iconst 1, 1) := by decide +kernel
theorem dX9_isSetOfPeople_6 : decode cX9_isSetOfPeople 6 = .ok (.aload_n 0, 1) := by decide +kernel
theorem dX9_isSetOfPeople_7 : decode cX9_isSetOfPeople 7 = .ok (.getfield 56, 3) := by decide +kernel
theorem dX9_isSetOfPeople_10 : decode cX9_isSetOfPeople 10 = .ok (.ishl, 1) := by decide +kernel
theorem dX9_isSetOfPeople_11 : decode cX9_isSetOfPeople 11 = .ok (.if_icmp .ge 7, 3) := by decide +kernel
theorem dX9_isSetOfPeople_14 : decode cX9_isSetOfPeople 14 = .ok (.iconst 1, 1) := by decide +kernel
theorem dX9_isSetOfPeople_15 : decode cX9_isSetOfPeople 15 = .ok (.goto 4, 3) := by decide +kernel
theorem dX9_isSetOfPeople_18 : decode cX9_isSetOfPeople 18 = .ok (.iconst 0, 1) := by decide +kernel
theorem dX9_isSetOfPeople_19 : decode cX9_isSetOfPeople 19 = .ok (.ireturn, 1) := by decide +kernel
theorem dX9_isCompanyOf_0 : decode cX9_isCompanyOf 0 = .ok (.aload_n 0, 1) := by decide +kernel
theorem dX9_isCompanyOf_1 : decode cX9_isCompanyOf 1 = .ok (.iload_n 2, 1) := by decide +kernel
theorem dX9_isCompanyOf_2 : decode cX9_isCompanyOf 2 = .ok (.invokevirtual 78, 3) := by decide +kernel
theorem dX9_isCompanyOf_5 : decode cX9_isCompanyOf 5 = .ok (.ifCond .eq 16, 3) := by decide +kernel
theorem dX9_isCompanyOf_8 : decode cX9_isCompanyOf 8 = .ok (.iload_n 2, 1) := by decide +kernel
theorem dX9_isCompanyOf_9 : decode cX9_isCompanyOf 9 = .ok (.iload_n 1, 1) := by decide +kernel
theorem dX9_isCompanyOf_10 : decode cX9_isCompanyOf 10 = .ok (.ishr, 1) := by decide +kernel
theorem dX9_isCompanyOf_11 : decode cX9_isCompanyOf 11 = .ok (.iconst 1, 1) := by decide +kernel
theorem dX9_isCompanyOf_12 : decode cX9_isCompanyOf 12 = .ok (.iand, 1) := by decide +kernel
theorem dX9_isCompanyOf_13 : decode cX9_isCompanyOf 13 = .ok (.iconst 1, 1) := by decide +kernel
theorem dX9_isCompanyOf_14 : decode cX9_isCompanyOf 14 = .ok (.if_icmp .ne 7, 3) := by decide +kernel
theorem dX9_isCompanyOf_17 : decode cX9_isCompanyOf 17 = .ok (.iconst 1, 1) := by decide +kernel
theorem dX9_isCompanyOf_18 : decode cX9_isCompanyOf 18 = .ok (.goto 4, 3) := by decide +kernel
theorem dX9_isCompanyOf_21 : decode cX9_isCompanyOf 21 = .ok (.iconst 0, 1) := by decide +kernel
theorem dX9_isCompanyOf_22 : decode cX9_isCompanyOf 22 = .ok (.ireturn, 1) := by decide +kernel
theorem dX9_personAt_0 : decode cX9_personAt 0 = .ok (.aload_n 0, 1) := by decide +kernel
theorem dX9_personAt_1 : decode cX9_personAt 1 = .ok (.iload_n 1, 1) := by decide +kernel
theorem dX9_personAt_2 : decode cX9_personAt 2 = .ok (.invokevirtual 82, 3) := by decide +kernel
theorem dX9_personAt_5 : decode cX9_personAt 5 = .ok (.ifCond .eq 21, 3) := by decide +kernel
theorem dX9_personAt_8 : decode cX9_personAt 8 = .ok (.iload_n 1, 1) := by decide +kernel
theorem dX9_personAt_9 : decode cX9_personAt 9 = .ok (.aload_n 0, 1) := by decide +kernel
theorem dX9_personAt_10 : decode cX9_personAt 10 = .ok (.getfield 39, 3) := by decide +kernel
theorem dX9_personAt_13 : decode cX9_personAt 13 = .ok (.arraylength, 1) := by decide +kernel
theorem dX9_personAt_14 : decode cX9_personAt 14 = .ok (.if_icmp .ge 12, 3) := by decide +kernel
theorem dX9_personAt_17 : decode cX9_personAt 17 = .ok (.aload_n 0, 1) := by decide +kernel
theorem dX9_personAt_18 : decode cX9_personAt 18 = .ok (.getfield 39, 3) := by decide +kernel
theorem dX9_personAt_21 : decode cX9_personAt 21 = .ok (.iload_n 1, 1) := by decide +kernel
theorem dX9_personAt_22 : decode cX9_personAt 22 = .ok (.aaload, 1) := by decide +kernel
theorem dX9_personAt_23 : decode cX9_personAt 23 = .ok (.goto 4, 3) := by decide +kernel
theorem dX9_personAt_26 : decode cX9_personAt 26 = .ok (.aconst_null, 1) := by decide +kernel
theorem dX9_personAt_27 : decode cX9_personAt 27 = .ok (.areturn, 1) := by decide +kernel
theorem dX9_kindOf_0 : decode cX9_kindOf 0 = .ok (.aload_n 0, 1) := by decide +kernel
theorem dX9_kindOf_1 : decode cX9_kindOf 1 = .ok (.iload_n 1, 1) := by decide +kernel
theorem dX9_kindOf_2 : decode cX9_kindOf 2 = .ok (.invokevirtual 85, 3) := by decide +kernel
theorem dX9_kindOf_5 : decode cX9_kindOf 5 = .ok (.astore_n 2, 1) := by decide +kernel
theorem dX9_kindOf_6 : decode cX9_kindOf 6 = .ok (.aload_n 2, 1) := by decide +kernel
theorem dX9_kindOf_7 : decode cX9_kindOf 7 = .ok (.ifnonnull 7, 3) := by decide +kernel
theorem dX9_kindOf_10 : decode cX9_kindOf 10 = .ok (.iconst (-1), 1) := by decide +kernel
theorem dX9_kindOf_11 : decode cX9_kindOf 11 = .ok (.goto 7, 3) := by decide +kernel
theorem dX9_kindOf_14 : decode cX9_kindOf 14 = .ok (.aload_n 2, 1) := by decide +kernel
theorem dX9_kindOf_15 : decode cX9_kindOf 15 = .ok (.getfield 89, 3) := by decide +kernel
theorem dX9_kindOf_18 : decode cX9_kindOf 18 = .ok (.ireturn, 1) := by decide +kernel
theorem dX9_companyIn_0 : decode cX9_companyIn 0 = .ok (.iload_n 1, 1) := by decide +kernel
theorem dX9_companyIn_1 : decode cX9_companyIn 1 = .ok (.iload_n 2, 1) := by decide +kernel
theorem dX9_companyIn_2 : decode cX9_companyIn 2 = .ok (.invokestatic 92, 3) := by decide +kernel
theorem dX9_companyIn_5 : decode cX9_companyIn 5 = .ok (.istore_n 3, 1) := by decide +kernel
theorem dX9_companyIn_6 : decode cX9_companyIn 6 = .ok (.iconst 0, 1) := by decide +kernel
theorem dX9_companyIn_7 : decode cX9_companyIn 7 = .ok (.istore 4, 2) := by decide +kernel
theorem dX9_companyIn_9 : decode cX9_companyIn 9 = .ok (.iconst 0, 1) := by decide +kernel
theorem dX9_companyIn_10 : decode cX9_companyIn 10 = .ok (.istore 5, 2) := by decide +kernel
theorem dX9_companyIn_12 : decode cX9_companyIn 12 = .ok (.iload 5, 2) := by decide +kernel
theorem dX9_companyIn_14 : decode cX9_companyIn 14 = .ok (.aload_n 0, 1) := by decide +kernel
theorem dX9_companyIn_15 : decode cX9_companyIn 15 = .ok (.getfield 56, 3) := by decide +kernel
theorem dX9_companyIn_18 : decode cX9_companyIn 18 = .ok (.if_icmp .ge 28, 3) := by decide +kernel
theorem dX9_companyIn_21 : decode cX9_companyIn 21 = .ok (.iload_n 1, 1) := by decide +kernel
theorem dX9_companyIn_22 : decode cX9_companyIn 22 = .ok (.iload 5, 2) := by decide +kernel
theorem dX9_companyIn_24 : decode cX9_companyIn 24 = .ok (.invokestatic 92, 3) := by decide +kernel
theorem dX9_companyIn_27 : decode cX9_companyIn 27 = .ok (.iload_n 3, 1) := by decide +kernel
theorem dX9_companyIn_28 : decode cX9_companyIn 28 = .ok (.if_icmp .ne 12, 3) := by decide +kernel
theorem dX9_companyIn_31 : decode cX9_companyIn 31 = .ok (.iload 4, 2) := by decide +kernel
theorem dX9_companyIn_33 : decode cX9_companyIn 33 = .ok (.iconst 1, 1) := by decide +kernel
theorem dX9_companyIn_34 : decode cX9_companyIn 34 = .ok (.iload 5, 2) := by decide +kernel
theorem dX9_companyIn_36 : decode cX9_companyIn 36 = .ok (.ishl, 1) := by decide +kernel
theorem dX9_companyIn_37 : decode cX9_companyIn 37 = .ok (.ior, 1) := by decide +kernel
theorem dX9_companyIn_38 : decode cX9_companyIn 38 = .ok (.istore 4, 2) := by decide +kernel
theorem dX9_companyIn_40 : decode cX9_companyIn 40 = .ok (.iinc 5 1, 3) := by decide +kernel
theorem dX9_companyIn_43 : decode cX9_companyIn 43 = .ok (.goto (-31), 3) := by decide +kernel
theorem dX9_companyIn_46 : decode cX9_companyIn 46 = .ok (.iload 4, 2) := by decide +kernel
theorem dX9_companyIn_48 : decode cX9_companyIn 48 = .ok (.ireturn, 1) := by decide +kernel
theorem dX9_canWrite_0 : decode cX9_canWrite 0 = .ok (.aload_n 0, 1) := by decide +kernel
theorem dX9_canWrite_1 : decode cX9_canWrite 1 = .ok (.iload_n 1, 1) := by decide +kernel
theorem dX9_canWrite_2 : decode cX9_canWrite 2 = .ok (.iload_n 2, 1) := by decide +kernel
theorem dX9_canWrite_3 : decode cX9_canWrite 3 = .ok (.aload_n 0, 1) := by decide +kernel
theorem dX9_canWrite_4 : decode cX9_canWrite 4 = .ok (.getfield 12, 3) := by decide +kernel
theorem dX9_canWrite_7 : decode cX9_canWrite 7 = .ok (.getfield 64, 3) := by decide +kernel
theorem dX9_canWrite_10 : decode cX9_canWrite 10 = .ok (.iload_n 1, 1) := by decide +kernel
theorem dX9_canWrite_11 : decode cX9_canWrite 11 = .ok (.invokestatic 95, 3) := by decide +kernel
theorem dX9_canWrite_14 : decode cX9_canWrite 14 = .ok (.aload_n 0, 1) := by decide +kernel
theorem dX9_canWrite_15 : decode cX9_canWrite 15 = .ok (.getfield 12, 3) := by decide +kernel
theorem dX9_canWrite_18 : decode cX9_canWrite 18 = .ok (.getfield 75, 3) := by decide +kernel
theorem dX9_canWrite_21 : decode cX9_canWrite 21 = .ok (.iload_n 1, 1) := by decide +kernel
theorem dX9_canWrite_22 : decode cX9_canWrite 22 = .ok (.invokestatic 95, 3) := by decide +kernel
theorem dX9_canWrite_25 : decode cX9_canWrite 25 = .ok (.invokevirtual 99, 3) := by decide +kernel
theorem dX9_canWrite_28 : decode cX9_canWrite 28 = .ok (.ireturn, 1) := by decide +kernel
theorem dX9_couldWrite_0 : decode cX9_couldWrite 0 = .ok (.aload_n 0, 1) := by decide +kernel
theorem dX9_couldWrite_1 : decode cX9_couldWrite 1 = .ok (.iload_n 1, 1) := by decide +kernel
theorem dX9_couldWrite_2 : decode cX9_couldWrite 2 = .ok (.invokevirtual 85, 3) := by decide +kernel
theorem dX9_couldWrite_5 : decode cX9_couldWrite 5 = .ok (.astore 5, 2) := by decide +kernel
theorem dX9_couldWrite_7 : decode cX9_couldWrite 7 = .ok (.aload 5, 2) := by decide +kernel
theorem dX9_couldWrite_9 : decode cX9_couldWrite 9 = .ok (.ifnull 11, 3) := by decide +kernel
theorem dX9_couldWrite_12 : decode cX9_couldWrite 12 = .ok (.iload_n 2, 1) := by decide +kernel
theorem dX9_couldWrite_13 : decode cX9_couldWrite 13 = .ok (.iload_n 1, 1) := by decide +kernel
theorem dX9_couldWrite_14 : decode cX9_couldWrite 14 = .ok (.ishr, 1) := by decide +kernel
theorem dX9_couldWrite_15 : decode cX9_couldWrite 15 = .ok (.iconst 1, 1) := by decide +kernel
theorem dX9_couldWrite_16 : decode cX9_couldWrite 16 = .ok (.iand, 1) := by decide +kernel
theorem dX9_couldWrite_17 : decode cX9_couldWrite 17 = .ok (.ifCond .ne 5, 3) := by decide +kernel
theorem dX9_couldWrite_20 : decode cX9_couldWrite 20 = .ok (.iconst 0, 1) := by decide +kernel
theorem dX9_couldWrite_21 : decode cX9_couldWrite 21 = .ok (.ireturn, 1) := by decide +kernel
theorem dX9_couldWrite_22 : decode cX9_couldWrite 22 = .ok (.iconst 1, 1) := by decide +kernel
theorem dX9_couldWrite_23 : decode cX9_couldWrite 23 = .ok (.iload_n 1, 1) := by decide +kernel
theorem dX9_couldWrite_24 : decode cX9_couldWrite 24 = .ok (.ishl, 1) := by decide +kernel
theorem dX9_couldWrite_25 : decode cX9_couldWrite 25 = .ok (.istore 6, 2) := by decide +kernel
theorem dX9_couldWrite_27 : decode cX9_couldWrite 27 = .ok (.iload_n 2, 1) := by decide +kernel
theorem dX9_couldWrite_28 : decode cX9_couldWrite 28 = .ok (.aload_n 0, 1) := by decide +kernel
theorem dX9_couldWrite_29 : decode cX9_couldWrite 29 = .ok (.getfield 12, 3) := by decide +kernel
theorem dX9_couldWrite_32 : decode cX9_couldWrite 32 = .ok (.getfield 103, 3) := by decide +kernel
theorem dX9_couldWrite_35 : decode cX9_couldWrite 35 = .ok (.iload_n 1, 1) := by decide +kernel
theorem dX9_couldWrite_36 : decode cX9_couldWrite 36 = .ok (.invokestatic 95, 3) := by decide +kernel
theorem dX9_couldWrite_39 : decode cX9_couldWrite 39 = .ok (.iconst (-1), 1) := by decide +kernel
theorem dX9_couldWrite_40 : decode cX9_couldWrite 40 = .ok (.ixor, 1) := by decide +kernel
theorem dX9_couldWrite_41 : decode cX9_couldWrite 41 = .ok (.iand, 1) := by decide +kernel
theorem dX9_couldWrite_42 : decode cX9_couldWrite 42 = .ok (.iload 6, 2) := by decide +kernel
theorem dX9_couldWrite_44 : decode cX9_couldWrite 44 = .ok (.ior, 1) := by decide +kernel
theorem dX9_couldWrite_45 : decode cX9_couldWrite 45 = .ok (.istore 7, 2) := by decide +kernel
theorem dX9_couldWrite_47 : decode cX9_couldWrite 47 = .ok (.iload 7, 2) := by decide +kernel
theorem dX9_couldWrite_49 : decode cX9_couldWrite 49 = .ok (.iload_n 3, 1) := by decide +kernel
theorem dX9_couldWrite_50 : decode cX9_couldWrite 50 = .ok (.ishr, 1) := by decide +kernel
theorem dX9_couldWrite_51 : decode cX9_couldWrite 51 = .ok (.iconst 1, 1) := by decide +kernel
theorem dX9_couldWrite_52 : decode cX9_couldWrite 52 = .ok (.iand, 1) := by decide +kernel
theorem dX9_couldWrite_53 : decode cX9_couldWrite 53 = .ok (.iconst 1, 1) := by decide +kernel
theorem dX9_couldWrite_54 : decode cX9_couldWrite 54 = .ok (.if_icmp .ne 7, 3) := by decide +kernel
theorem dX9_couldWrite_57 : decode cX9_couldWrite 57 = .ok (.iconst 1, 1) := by decide +kernel
theorem dX9_couldWrite_58 : decode cX9_couldWrite 58 = .ok (.goto 4, 3) := by decide +kernel
theorem dX9_couldWrite_61 : decode cX9_couldWrite 61 = .ok (.iconst 0, 1) := by decide +kernel
theorem dX9_couldWrite_62 : decode cX9_couldWrite 62 = .ok (.istore 8, 2) := by decide +kernel
theorem dX9_couldWrite_64 : decode cX9_couldWrite 64 = .ok (.iload 7, 2) := by decide +kernel
theorem dX9_couldWrite_66 : decode cX9_couldWrite 66 = .ok (.iload 4, 2) := by decide +kernel
theorem dX9_couldWrite_68 : decode cX9_couldWrite 68 = .ok (.ishr, 1) := by decide +kernel
theorem dX9_couldWrite_69 : decode cX9_couldWrite 69 = .ok (.iconst 1, 1) := by decide +kernel
theorem dX9_couldWrite_70 : decode cX9_couldWrite 70 = .ok (.iand, 1) := by decide +kernel
theorem dX9_couldWrite_71 : decode cX9_couldWrite 71 = .ok (.iconst 1, 1) := by decide +kernel
theorem dX9_couldWrite_72 : decode cX9_couldWrite 72 = .ok (.if_icmp .ne 7, 3) := by decide +kernel
theorem dX9_couldWrite_75 : decode cX9_couldWrite 75 = .ok (.iconst 1, 1) := by decide +kernel
theorem dX9_couldWrite_76 : decode cX9_couldWrite 76 = .ok (.goto 4, 3) := by decide +kernel
theorem dX9_couldWrite_79 : decode cX9_couldWrite 79 = .ok (.iconst 0, 1) := by decide +kernel
theorem dX9_couldWrite_80 : decode cX9_couldWrite 80 = .ok (.istore 9, 2) := by decide +kernel
theorem dX9_couldWrite_82 : decode cX9_couldWrite 82 = .ok (.iload_n 2, 1) := by decide +kernel
theorem dX9_couldWrite_83 : decode cX9_couldWrite 83 = .ok (.iload 6, 2) := by decide +kernel
theorem dX9_couldWrite_85 : decode cX9_couldWrite 85 = .ok (.iconst (-1), 1) := by decide +kernel
theorem dX9_couldWrite_86 : decode cX9_couldWrite 86 = .ok (.ixor, 1) := by decide +kernel
theorem dX9_couldWrite_87 : decode cX9_couldWrite 87 = .ok (.iand, 1) := by decide +kernel
theorem dX9_couldWrite_88 : decode cX9_couldWrite 88 = .ok (.istore 10, 2) := by decide +kernel
theorem dX9_couldWrite_90 : decode cX9_couldWrite 90 = .ok (.aload 5, 2) := by decide +kernel
theorem dX9_couldWrite_92 : decode cX9_couldWrite 92 = .ok (.iload 8, 2) := by decide +kernel
theorem dX9_couldWrite_94 : decode cX9_couldWrite 94 = .ok (.iload 9, 2) := by decide +kernel
theorem dX9_couldWrite_96 : decode cX9_couldWrite 96 = .ok (.iload 10, 2) := by decide +kernel
theorem dX9_couldWrite_98 : decode cX9_couldWrite 98 = .ok (.iload 10, 2) := by decide +kernel
theorem dX9_couldWrite_100 : decode cX9_couldWrite 100 = .ok (.iconst 1, 1) := by decide +kernel
theorem dX9_couldWrite_101 : decode cX9_couldWrite 101 = .ok (.iload_n 3, 1) := by decide +kernel
theorem dX9_couldWrite_102 : decode cX9_couldWrite 102 = .ok (.ishl, 1) := by decide +kernel
theorem dX9_couldWrite_103 : decode cX9_couldWrite 103 = .ok (.iconst 1, 1) := by decide +kernel
theorem dX9_couldWrite_104 : decode cX9_couldWrite 104 = .ok (.iload 4, 2) := by decide +kernel
theorem dX9_couldWrite_106 : decode cX9_couldWrite 106 = .ok (.ishl, 1) := by decide +kernel
theorem dX9_couldWrite_107 : decode cX9_couldWrite 107 = .ok (.ior, 1) := by decide +kernel
theorem dX9_couldWrite_108 : decode cX9_couldWrite 108 = .ok (.iconst (-1), 1) := by decide +kernel
theorem dX9_couldWrite_109 : decode cX9_couldWrite 109 = .ok (.ixor, 1) := by decide +kernel
theorem dX9_couldWrite_110 : decode cX9_couldWrite 110 = .ok (.iand, 1) := by decide +kernel
theorem dX9_couldWrite_111 : decode cX9_couldWrite 111 = .ok (.invokevirtual 106, 3) := by decide +kernel
theorem dX9_couldWrite_114 : decode cX9_couldWrite 114 = .ok (.ireturn, 1) := by decide +kernel
theorem dX9_howManyWritten_0 : decode cX9_howManyWritten 0 = .ok (.iconst 0, 1) := by decide +kernel
theorem dX9_howManyWritten_1 : decode cX9_howManyWritten 1 = .ok (.istore_n 2, 1) := by decide +kernel
theorem dX9_howManyWritten_2 : decode cX9_howManyWritten 2 = .ok (.iconst 0, 1) := by decide +kernel
theorem dX9_howManyWritten_3 : decode cX9_howManyWritten 3 = .ok (.istore_n 3, 1) := by decide +kernel
theorem dX9_howManyWritten_4 : decode cX9_howManyWritten 4 = .ok (.iload_n 3, 1) := by decide +kernel
theorem dX9_howManyWritten_5 : decode cX9_howManyWritten 5 = .ok (.aload_n 0, 1) := by decide +kernel
theorem dX9_howManyWritten_6 : decode cX9_howManyWritten 6 = .ok (.getfield 56, 3) := by decide +kernel
theorem dX9_howManyWritten_9 : decode cX9_howManyWritten 9 = .ok (.if_icmp .ge 26, 3) := by decide +kernel
theorem dX9_howManyWritten_12 : decode cX9_howManyWritten 12 = .ok (.aload_n 0, 1) := by decide +kernel
theorem dX9_howManyWritten_13 : decode cX9_howManyWritten 13 = .ok (.iload_n 3, 1) := by decide +kernel
theorem dX9_howManyWritten_14 : decode cX9_howManyWritten 14 = .ok (.aload_n 0, 1) := by decide +kernel
theorem dX9_howManyWritten_15 : decode cX9_howManyWritten 15 = .ok (.iload_n 1, 1) := by decide +kernel
theorem dX9_howManyWritten_16 : decode cX9_howManyWritten 16 = .ok (.iload_n 3, 1) := by decide +kernel
theorem dX9_howManyWritten_17 : decode cX9_howManyWritten 17 = .ok (.invokevirtual 110, 3) := by decide +kernel
theorem dX9_howManyWritten_20 : decode cX9_howManyWritten 20 = .ok (.invokevirtual 113, 3) := by decide +kernel
theorem dX9_howManyWritten_23 : decode cX9_howManyWritten 23 = .ok (.ifCond .eq 6, 3) := by decide +kernel
theorem dX9_howManyWritten_26 : decode cX9_howManyWritten 26 = .ok (.iinc 2 1, 3) := by decide +kernel
theorem dX9_howManyWritten_29 : decode cX9_howManyWritten 29 = .ok (.iinc 3 1, 3) := by decide +kernel
theorem dX9_howManyWritten_32 : decode cX9_howManyWritten 32 = .ok (.goto (-28), 3) := by decide +kernel
theorem dX9_howManyWritten_35 : decode cX9_howManyWritten 35 = .ok (.iload_n 2, 1) := by decide +kernel
theorem dX9_howManyWritten_36 : decode cX9_howManyWritten 36 = .ok (.ireturn, 1) := by decide +kernel
theorem dX9_quarrellingPairs_0 : decode cX9_quarrellingPairs 0 = .ok (.iconst 0, 1) := by decide +kernel
theorem dX9_quarrellingPairs_1 : decode cX9_quarrellingPairs 1 = .ok (.istore_n 1, 1) := by decide +kernel
theorem dX9_quarrellingPairs_2 : decode cX9_quarrellingPairs 2 = .ok (.iconst 0, 1) := by decide +kernel
theorem dX9_quarrellingPairs_3 : decode cX9_quarrellingPairs 3 = .ok (.istore_n 2, 1) := by decide +kernel
theorem dX9_quarrellingPairs_4 : decode cX9_quarrellingPairs 4 = .ok (.iload_n 2, 1) := by decide +kernel
theorem dX9_quarrellingPairs_5 : decode cX9_quarrellingPairs 5 = .ok (.aload_n 0, 1) := by decide +kernel
theorem dX9_quarrellingPairs_6 : decode cX9_quarrellingPairs 6 = .ok (.getfield 56, 3) := by decide +kernel
theorem dX9_quarrellingPairs_9 : decode cX9_quarrellingPairs 9 = .ok (.if_icmp .ge 26, 3) := by decide +kernel
theorem dX9_quarrellingPairs_12 : decode cX9_quarrellingPairs 12 = .ok (.iload_n 1, 1) := by decide +kernel
theorem dX9_quarrellingPairs_13 : decode cX9_quarrellingPairs 13 = .ok (.aload_n 0, 1) := by decide +kernel
theorem dX9_quarrellingPairs_14 : decode cX9_quarrellingPairs 14 = .ok (.getfield 12, 3) := by decide +kernel
theorem dX9_quarrellingPairs_17 : decode cX9_quarrellingPairs 17 = .ok (.getfield 103, 3) := by decide +kernel
theorem dX9_quarrellingPairs_20 : decode cX9_quarrellingPairs 20 = .ok (.iload_n 2, 1) := by decide +kernel
theorem dX9_quarrellingPairs_21 : decode cX9_quarrellingPairs 21 = .ok (.invokestatic 95, 3) := by decide +kernel
theorem dX9_quarrellingPairs_24 : decode cX9_quarrellingPairs 24 = .ok (.invokestatic 117, 3) := by decide +kernel
theorem dX9_quarrellingPairs_27 : decode cX9_quarrellingPairs 27 = .ok (.iadd, 1) := by decide +kernel
theorem dX9_quarrellingPairs_28 : decode cX9_quarrellingPairs 28 = .ok (.istore_n 1, 1) := by decide +kernel
theorem dX9_quarrellingPairs_29 : decode cX9_quarrellingPairs 29 = .ok (.iinc 2 1, 3) := by decide +kernel
theorem dX9_quarrellingPairs_32 : decode cX9_quarrellingPairs 32 = .ok (.goto (-28), 3) := by decide +kernel
theorem dX9_quarrellingPairs_35 : decode cX9_quarrellingPairs 35 = .ok (.iload_n 1, 1) := by decide +kernel
theorem dX9_quarrellingPairs_36 : decode cX9_quarrellingPairs 36 = .ok (.iconst 2, 1) := by decide +kernel
theorem dX9_quarrellingPairs_37 : decode cX9_quarrellingPairs 37 = .ok (.idiv, 1) := by decide +kernel
theorem dX9_quarrellingPairs_38 : decode cX9_quarrellingPairs 38 = .ok (.ireturn, 1) := by decide +kernel
theorem dX9_lettersOfOthers_0 : decode cX9_lettersOfOthers 0 = .ok (.iconst 0, 1) := by decide +kernel
theorem dX9_lettersOfOthers_1 : decode cX9_lettersOfOthers 1 = .ok (.istore_n 2, 1) := by decide +kernel
theorem dX9_lettersOfOthers_2 : decode cX9_lettersOfOthers 2 = .ok (.iconst 0, 1) := by decide +kernel
theorem dX9_lettersOfOthers_3 : decode cX9_lettersOfOthers 3 = .ok (.istore_n 3, 1) := by decide +kernel
theorem dX9_lettersOfOthers_4 : decode cX9_lettersOfOthers 4 = .ok (.iload_n 3, 1) := by decide +kernel
theorem dX9_lettersOfOthers_5 : decode cX9_lettersOfOthers 5 = .ok (.aload_n 0, 1) := by decide +kernel
theorem dX9_lettersOfOthers_6 : decode cX9_lettersOfOthers 6 = .ok (.getfield 56, 3) := by decide +kernel
theorem dX9_lettersOfOthers_9 : decode cX9_lettersOfOthers 9 = .ok (.if_icmp .ge 60, 3) := by decide +kernel
theorem dX9_lettersOfOthers_12 : decode cX9_lettersOfOthers 12 = .ok (.iload_n 3, 1) := by decide +kernel
theorem dX9_lettersOfOthers_13 : decode cX9_lettersOfOthers 13 = .ok (.iload_n 1, 1) := by decide +kernel
theorem dX9_lettersOfOthers_14 : decode cX9_lettersOfOthers 14 = .ok (.if_icmp .eq 49, 3) := by decide +kernel
theorem dX9_lettersOfOthers_17 : decode cX9_lettersOfOthers 17 = .ok (.iload_n 2, 1) := by decide +kernel
theorem dX9_lettersOfOthers_18 : decode cX9_lettersOfOthers 18 = .ok (.aload_n 0, 1) := by decide +kernel
theorem dX9_lettersOfOthers_19 : decode cX9_lettersOfOthers 19 = .ok (.getfield 12, 3) := by decide +kernel
theorem dX9_lettersOfOthers_22 : decode cX9_lettersOfOthers 22 = .ok (.getfield 64, 3) := by decide +kernel
theorem dX9_lettersOfOthers_25 : decode cX9_lettersOfOthers 25 = .ok (.iload_n 3, 1) := by decide +kernel
theorem dX9_lettersOfOthers_26 : decode cX9_lettersOfOthers 26 = .ok (.invokestatic 95, 3) := by decide +kernel
theorem dX9_lettersOfOthers_29 : decode cX9_lettersOfOthers 29 = .ok (.iload_n 1, 1) := by decide +kernel
theorem dX9_lettersOfOthers_30 : decode cX9_lettersOfOthers 30 = .ok (.if_icmp .ne 7, 3) := by decide +kernel
theorem dX9_lettersOfOthers_33 : decode cX9_lettersOfOthers 33 = .ok (.iconst 1, 1) := by decide +kernel
theorem dX9_lettersOfOthers_34 : decode cX9_lettersOfOthers 34 = .ok (.goto 4, 3) := by decide +kernel
