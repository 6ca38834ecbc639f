theorem dX12_town_75 : decode cX12_town 75 = .ok (.iadd, 1) := by decide +kernel
theorem dX12_town_76 : decode cX12_town 76 = .ok (.baload, 1) := by decide +kernel
theorem dX12_town_77 : decode cX12_town 77 = .ok (.bipush 48, 2) := by decide +kernel
theorem dX12_town_79 : decode cX12_town 79 = .ok (.isub, 1) := by decide +kernel
theorem dX12_town_80 : decode cX12_town 80 = .ok (.iastore, 1) := by decide +kernel
theorem dX12_town_81 : decode cX12_town 81 = .ok (.aload_n 0, 1) := by decide +kernel
theorem dX12_town_82 : decode cX12_town 82 = .ok (.getfield 13, 3) := by decide +kernel
theorem dX12_town_85 : decode cX12_town 85 = .ok (.iconst 2, 1) := by decide +kernel
theorem dX12_town_86 : decode cX12_town 86 = .ok (.iload_n 1, 1) := by decide +kernel
theorem dX12_town_87 : decode cX12_town 87 = .ok (.imul, 1) := by decide +kernel
theorem dX12_town_88 : decode cX12_town 88 = .ok (.iconst 1, 1) := by decide +kernel
theorem dX12_town_89 : decode cX12_town 89 = .ok (.iadd, 1) := by decide +kernel
theorem dX12_town_90 : decode cX12_town 90 = .ok (.aload_n 0, 1) := by decide +kernel
theorem dX12_town_91 : decode cX12_town 91 = .ok (.getfield 31, 3) := by decide +kernel
theorem dX12_town_94 : decode cX12_town 94 = .ok (.iconst 4, 1) := by decide +kernel
theorem dX12_town_95 : decode cX12_town 95 = .ok (.iload_n 1, 1) := by decide +kernel
theorem dX12_town_96 : decode cX12_town 96 = .ok (.imul, 1) := by decide +kernel
theorem dX12_town_97 : decode cX12_town 97 = .ok (.iconst 2, 1) := by decide +kernel
theorem dX12_town_98 : decode cX12_town 98 = .ok (.iadd, 1) := by decide +kernel
theorem dX12_town_99 : decode cX12_town 99 = .ok (.baload, 1) := by decide +kernel
theorem dX12_town_100 : decode cX12_town 100 = .ok (.bipush 48, 2) := by decide +kernel
theorem dX12_town_102 : decode cX12_town 102 = .ok (.isub, 1) := by decide +kernel
theorem dX12_town_103 : decode cX12_town 103 = .ok (.iastore, 1) := by decide +kernel
theorem dX12_town_104 : decode cX12_town 104 = .ok (.aload_n 0, 1) := by decide +kernel
theorem dX12_town_105 : decode cX12_town 105 = .ok (.getfield 16, 3) := by decide +kernel
theorem dX12_town_108 : decode cX12_town 108 = .ok (.iload_n 1, 1) := by decide +kernel
theorem dX12_town_109 : decode cX12_town 109 = .ok (.iconst 0, 1) := by decide +kernel
theorem dX12_town_110 : decode cX12_town 110 = .ok (.iastore, 1) := by decide +kernel
theorem dX12_town_111 : decode cX12_town 111 = .ok (.aload_n 0, 1) := by decide +kernel
theorem dX12_town_112 : decode cX12_town 112 = .ok (.getfield 19, 3) := by decide +kernel
theorem dX12_town_115 : decode cX12_town 115 = .ok (.iload_n 1, 1) := by decide +kernel
theorem dX12_town_116 : decode cX12_town 116 = .ok (.iconst 0, 1) := by decide +kernel
theorem dX12_town_117 : decode cX12_town 117 = .ok (.iastore, 1) := by decide +kernel
theorem dX12_town_118 : decode cX12_town 118 = .ok (.iinc 1 1, 3) := by decide +kernel
theorem dX12_town_121 : decode cX12_town 121 = .ok (.goto (-86), 3) := by decide +kernel
theorem dX12_town_124 : decode cX12_town 124 = .ok (.aload_n 0, 1) := by decide +kernel
theorem dX12_town_125 : decode cX12_town 125 = .ok (.dup, 1) := by decide +kernel
theorem dX12_town_126 : decode cX12_town 126 = .ok (.getfield 86, 3) := by decide +kernel
theorem dX12_town_129 : decode cX12_town 129 = .ok (.iconst 1, 1) := by decide +kernel
theorem dX12_town_130 : decode cX12_town 130 = .ok (.iadd, 1) := by decide +kernel
theorem dX12_town_131 : decode cX12_town 131 = .ok (.putfield 86, 3) := by decide +kernel
theorem dX12_town_134 : decode cX12_town 134 = .ok (.aload_n 0, 1) := by decide +kernel
theorem dX12_town_135 : decode cX12_town 135 = .ok (.iconst 0, 1) := by decide +kernel
theorem dX12_town_136 : decode cX12_town 136 = .ok (.putfield 89, 3) := by decide +kernel
theorem dX12_town_139 : decode cX12_town 139 = .ok (.aload_n 0, 1) := by decide +kernel
theorem dX12_town_140 : decode cX12_town 140 = .ok (.iconst 0, 1) := by decide +kernel
theorem dX12_town_141 : decode cX12_town 141 = .ok (.putfield 92, 3) := by decide +kernel
theorem dX12_town_144 : decode cX12_town 144 = .ok (.aload_n 0, 1) := by decide +kernel
theorem dX12_town_145 : decode cX12_town 145 = .ok (.iconst 0, 1) := by decide +kernel
theorem dX12_town_146 : decode cX12_town 146 = .ok (.putfield 95, 3) := by decide +kernel
theorem dX12_town_149 : decode cX12_town 149 = .ok (.aload_n 0, 1) := by decide +kernel
theorem dX12_town_150 : decode cX12_town 150 = .ok (.iconst 0, 1) := by decide +kernel
theorem dX12_town_151 : decode cX12_town 151 = .ok (.putfield 63, 3) := by decide +kernel
theorem dX12_town_154 : decode cX12_town 154 = .ok (.aload_n 0, 1) := by decide +kernel
theorem dX12_town_155 : decode cX12_town 155 = .ok (.getfield 83, 3) := by decide +kernel
theorem dX12_town_158 : decode cX12_town 158 = .ok (.ireturn, 1) := by decide +kernel
theorem dX12_isOne_0 : decode cX12_isOne 0 = .ok (.iload_n 1, 1) := by decide +kernel
theorem dX12_isOne_1 : decode cX12_isOne 1 = .ok (.iconst 0, 1) := by decide +kernel
theorem dX12_isOne_2 : decode cX12_isOne 2 = .ok (.aload_n 0, 1) := by decide +kernel
theorem dX12_isOne_3 : decode cX12_isOne 3 = .ok (.getfield 83, 3) := by decide +kernel
theorem dX12_isOne_6 : decode cX12_isOne 6 = .ok (.iconst 1, 1) := by decide +kernel
theorem dX12_isOne_7 : decode cX12_isOne 7 = .ok (.isub, 1) := by decide +kernel
theorem dX12_isOne_8 : decode cX12_isOne 8 = .ok (.invokestatic 59, 3) := by decide +kernel
theorem dX12_isOne_11 : decode cX12_isOne 11 = .ok (.ireturn, 1) := by decide +kernel
theorem dX12_isCompany_0 : decode cX12_isCompany 0 = .ok (.iload_n 1, 1) := by decide +kernel
theorem dX12_isCompany_1 : decode cX12_isCompany 1 = .ok (.iconst 0, 1) := by decide +kernel
theorem dX12_isCompany_2 : decode cX12_isCompany 2 = .ok (.iconst 1, 1) := by decide +kernel
theorem dX12_isCompany_3 : decode cX12_isCompany 3 = .ok (.aload_n 0, 1) := by decide +kernel
theorem dX12_isCompany_4 : decode cX12_isCompany 4 = .ok (.getfield 83, 3) := by decide +kernel
theorem dX12_isCompany_7 : decode cX12_isCompany 7 = .ok (.ishl, 1) := by decide +kernel
theorem dX12_isCompany_8 : decode cX12_isCompany 8 = .ok (.iconst 1, 1) := by decide +kernel
theorem dX12_isCompany_9 : decode cX12_isCompany 9 = .ok (.isub, 1) := by decide +kernel
theorem dX12_isCompany_10 : decode cX12_isCompany 10 = .ok (.invokestatic 59, 3) := by decide +kernel
theorem dX12_isCompany_13 : decode cX12_isCompany 13 = .ok (.ireturn, 1) := by decide +kernel
theorem dX12_isThere_0 : decode cX12_isThere 0 = .ok (.iload_n 2, 1) := by decide +kernel
theorem dX12_isThere_1 : decode cX12_isThere 1 = .ok (.iload_n 1, 1) := by decide +kernel
theorem dX12_isThere_2 : decode cX12_isThere 2 = .ok (.if_icmp .eq 24, 3) := by decide +kernel
theorem dX12_isThere_5 : decode cX12_isThere 5 = .ok (.iload_n 3, 1) := by decide +kernel
theorem dX12_isThere_6 : decode cX12_isThere 6 = .ok (.iload_n 2, 1) := by decide +kernel
theorem dX12_isThere_7 : decode cX12_isThere 7 = .ok (.invokestatic 98, 3) := by decide +kernel
theorem dX12_isThere_10 : decode cX12_isThere 10 = .ok (.ifCond .eq 20, 3) := by decide +kernel
theorem dX12_isThere_13 : decode cX12_isThere 13 = .ok (.aload_n 0, 1) := by decide +kernel
theorem dX12_isThere_14 : decode cX12_isThere 14 = .ok (.getfield 19, 3) := by decide +kernel
theorem dX12_isThere_17 : decode cX12_isThere 17 = .ok (.iload_n 1, 1) := by decide +kernel
theorem dX12_isThere_18 : decode cX12_isThere 18 = .ok (.iaload, 1) := by decide +kernel
theorem dX12_isThere_19 : decode cX12_isThere 19 = .ok (.iload_n 2, 1) := by decide +kernel
theorem dX12_isThere_20 : decode cX12_isThere 20 = .ok (.invokestatic 98, 3) := by decide +kernel
theorem dX12_isThere_23 : decode cX12_isThere 23 = .ok (.ifCond .ne 7, 3) := by decide +kernel
theorem dX12_isThere_26 : decode cX12_isThere 26 = .ok (.iconst 1, 1) := by decide +kernel
theorem dX12_isThere_27 : decode cX12_isThere 27 = .ok (.goto 4, 3) := by decide +kernel
theorem dX12_isThere_30 : decode cX12_isThere 30 = .ok (.iconst 0, 1) := by decide +kernel
theorem dX12_isThere_31 : decode cX12_isThere 31 = .ok (.ireturn, 1) := by decide +kernel
theorem dX12_isWrittenBy_0 : decode cX12_isWrittenBy 0 = .ok (.aload_n 0, 1) := by decide +kernel
theorem dX12_isWrittenBy_1 : decode cX12_isWrittenBy 1 = .ok (.iload_n 1, 1) := by decide +kernel
theorem dX12_isWrittenBy_2 : decode cX12_isWrittenBy 2 = .ok (.iload_n 2, 1) := by decide +kernel
theorem dX12_isWrittenBy_3 : decode cX12_isWrittenBy 3 = .ok (.iload 4, 2) := by decide +kernel
theorem dX12_isWrittenBy_5 : decode cX12_isWrittenBy 5 = .ok (.invokevirtual 102, 3) := by decide +kernel
theorem dX12_isWrittenBy_8 : decode cX12_isWrittenBy 8 = .ok (.istore 5, 2) := by decide +kernel
theorem dX12_isWrittenBy_10 : decode cX12_isWrittenBy 10 = .ok (.aload_n 0, 1) := by decide +kernel
theorem dX12_isWrittenBy_11 : decode cX12_isWrittenBy 11 = .ok (.iload_n 1, 1) := by decide +kernel
theorem dX12_isWrittenBy_12 : decode cX12_isWrittenBy 12 = .ok (.iload_n 3, 1) := by decide +kernel
theorem dX12_isWrittenBy_13 : decode cX12_isWrittenBy 13 = .ok (.iload 4, 2) := by decide +kernel
theorem dX12_isWrittenBy_15 : decode cX12_isWrittenBy 15 = .ok (.invokevirtual 102, 3) := by decide +kernel
theorem dX12_isWrittenBy_18 : decode cX12_isWrittenBy 18 = .ok (.istore 6, 2) := by decide +kernel
theorem dX12_isWrittenBy_20 : decode cX12_isWrittenBy 20 = .ok (.aload_n 0, 1) := by decide +kernel
theorem dX12_isWrittenBy_21 : decode cX12_isWrittenBy 21 = .ok (.getfield 7, 3) := by decide +kernel
theorem dX12_isWrittenBy_24 : decode cX12_isWrittenBy 24 = .ok (.iload_n 1, 1) := by decide +kernel
theorem dX12_isWrittenBy_25 : decode cX12_isWrittenBy 25 = .ok (.iaload, 1) := by decide +kernel
theorem dX12_isWrittenBy_26 : decode cX12_isWrittenBy 26 = .ok (.tableswitch 108 1 4 #[30, 54, 70, 105], 30) := by decide +kernel
theorem dX12_isWrittenBy_56 : decode cX12_isWrittenBy 56 = .ok (.iload 5, 2) := by decide +kernel
theorem dX12_isWrittenBy_58 : decode cX12_isWrittenBy 58 = .ok (.ifCond .eq 8, 3) := by decide +kernel
theorem dX12_isWrittenBy_61 : decode cX12_isWrittenBy 61 = .ok (.iload 6, 2) := by decide +kernel
theorem dX12_isWrittenBy_63 : decode cX12_isWrittenBy 63 = .ok (.ifCond .ne 11, 3) := by decide +kernel
theorem dX12_isWrittenBy_66 : decode cX12_isWrittenBy 66 = .ok (.iload 4, 2) := by decide +kernel
theorem dX12_isWrittenBy_68 : decode cX12_isWrittenBy 68 = .ok (.iconst 1, 1) := by decide +kernel
theorem dX12_isWrittenBy_69 : decode cX12_isWrittenBy 69 = .ok (.iload_n 1, 1) := by decide +kernel
theorem dX12_isWrittenBy_70 : decode cX12_isWrittenBy 70 = .ok (.ishl, 1) := by decide +kernel
theorem dX12_isWrittenBy_71 : decode cX12_isWrittenBy 71 = .ok (.if_icmp .ne 7, 3) := by decide +kernel
theorem dX12_isWrittenBy_74 : decode cX12_isWrittenBy 74 = .ok (.iconst 1, 1) := by decide +kernel
theorem dX12_isWrittenBy_75 : decode cX12_isWrittenBy 75 = .ok (.goto 4, 3) := by decide +kernel
theorem dX12_isWrittenBy_78 : decode cX12_isWrittenBy 78 = .ok (.iconst 0, 1) := by decide +kernel
theorem dX12_isWrittenBy_79 : decode cX12_isWrittenBy 79 = .ok (.ireturn, 1) := by decide +kernel
theorem dX12_isWrittenBy_80 : decode cX12_isWrittenBy 80 = .ok (.iload 5, 2) := by decide +kernel
theorem dX12_isWrittenBy_82 : decode cX12_isWrittenBy 82 = .ok (.ifCond .ne 8, 3) := by decide +kernel
theorem dX12_isWrittenBy_85 : decode cX12_isWrittenBy 85 = .ok (.iload 6, 2) := by decide +kernel
theorem dX12_isWrittenBy_87 : decode cX12_isWrittenBy 87 = .ok (.ifCond .eq 7, 3) := by decide +kernel
theorem dX12_isWrittenBy_90 : decode cX12_isWrittenBy 90 = .ok (.iconst 1, 1) := by decide +kernel
theorem dX12_isWrittenBy_91 : decode cX12_isWrittenBy 91 = .ok (.goto 4, 3) := by decide +kernel
theorem dX12_isWrittenBy_94 : decode cX12_isWrittenBy 94 = .ok (.iconst 0, 1) := by decide +kernel
theorem dX12_isWrittenBy_95 : decode cX12_isWrittenBy 95 = .ok (.ireturn, 1) := by decide +kernel
theorem dX12_isWrittenBy_96 : decode cX12_isWrittenBy 96 = .ok (.iload 5, 2) := by decide +kernel
theorem dX12_isWrittenBy_98 : decode cX12_isWrittenBy 98 = .ok (.ifCond .eq 31, 3) := by decide +kernel
theorem dX12_isWrittenBy_101 : decode cX12_isWrittenBy 101 = .ok (.iload 6, 2) := by decide +kernel
theorem dX12_isWrittenBy_103 : decode cX12_isWrittenBy 103 = .ok (.ifCond .eq 26, 3) := by decide +kernel
theorem dX12_isWrittenBy_106 : decode cX12_isWrittenBy 106 = .ok (.iload 4, 2) := by decide +kernel
theorem dX12_isWrittenBy_108 : decode cX12_isWrittenBy 108 = .ok (.iconst 1, 1) := by decide +kernel
theorem dX12_isWrittenBy_109 : decode cX12_isWrittenBy 109 = .ok (.iload_n 1, 1) := by decide +kernel
theorem dX12_isWrittenBy_110 : decode cX12_isWrittenBy 110 = .ok (.ishl, 1) := by decide +kernel
theorem dX12_isWrittenBy_111 : decode cX12_isWrittenBy 111 = .ok (.iconst 1, 1) := by decide +kernel
theorem dX12_isWrittenBy_112 : decode cX12_isWrittenBy 112 = .ok (.iload_n 2, 1) := by decide +kernel
theorem dX12_isWrittenBy_113 : decode cX12_isWrittenBy 113 = .ok (.ishl, 1) := by decide +kernel
theorem dX12_isWrittenBy_114 : decode cX12_isWrittenBy 114 = .ok (.ior, 1) := by decide +kernel
theorem dX12_isWrittenBy_115 : decode cX12_isWrittenBy 115 = .ok (.iconst 1, 1) := by decide +kernel
theorem dX12_isWrittenBy_116 : decode cX12_isWrittenBy 116 = .ok (.iload_n 3, 1) := by decide +kernel
theorem dX12_isWrittenBy_117 : decode cX12_isWrittenBy 117 = .ok (.ishl, 1) := by decide +kernel
theorem dX12_isWrittenBy_118 : decode cX12_isWrittenBy 118 = .ok (.ior, 1) := by decide +kernel
theorem dX12_isWrittenBy_119 : decode cX12_isWrittenBy 119 = .ok (.iconst (-1), 1) := by decide +kernel
theorem dX12_isWrittenBy_120 : decode cX12_isWrittenBy 120 = .ok (.ixor, 1) := by decide +kernel
theorem dX12_isWrittenBy_121 : decode cX12_isWrittenBy 121 = .ok (.iand, 1) := by decide +kernel
theorem dX12_isWrittenBy_122 : decode cX12_isWrittenBy 122 = .ok (.ifCond .ne 7, 3) := by decide +kernel
theorem dX12_isWrittenBy_125 : decode cX12_isWrittenBy 125 = .ok (.iconst 1, 1) := by decide +kernel
theorem dX12_isWrittenBy_126 : decode cX12_isWrittenBy 126 = .ok (.goto 4, 3) := by decide +kernel
theorem dX12_isWrittenBy_129 : decode cX12_isWrittenBy 129 = .ok (.iconst 0, 1) := by decide +kernel
theorem dX12_isWrittenBy_130 : decode cX12_isWrittenBy 130 = .ok (.ireturn, 1) := by decide +kernel
theorem dX12_isWrittenBy_131 : decode cX12_isWrittenBy 131 = .ok (.iload 5, 2) := by decide +kernel
theorem dX12_isWrittenBy_133 : decode cX12_isWrittenBy 133 = .ok (.ireturn, 1) := by decide +kernel
theorem dX12_isWrittenBy_134 : decode cX12_isWrittenBy 134 = .ok (.iload 5, 2) := by decide +kernel
theorem dX12_isWrittenBy_136 : decode cX12_isWrittenBy 136 = .ok (.ifCond .eq 12, 3) := by decide +kernel
theorem dX12_isWrittenBy_139 : decode cX12_isWrittenBy 139 = .ok (.iload 6, 2) := by decide +kernel
theorem dX12_isWrittenBy_141 : decode cX12_isWrittenBy 141 = .ok (.ifCond .eq 7, 3) := by decide +kernel
theorem dX12_isWrittenBy_144 : decode cX12_isWrittenBy 144 = .ok (.iconst 1, 1) := by decide +kernel
theorem dX12_isWrittenBy_145 : decode cX12_isWrittenBy 145 = .ok (.goto 4, 3) := by decide +kernel
theorem dX12_isWrittenBy_148 : decode cX12_isWrittenBy 148 = .ok (.iconst 0, 1) := by decide +kernel
theorem dX12_isWrittenBy_149 : decode cX12_isWrittenBy 149 = .ok (.ireturn, 1) := by decide +kernel
theorem dX12_isWritten_0 : decode cX12_isWritten 0 = .ok (.aload_n 0, 1) := by decide +kernel
theorem dX12_isWritten_1 : decode cX12_isWritten 1 = .ok (.iload_n 1, 1) := by decide +kernel
theorem dX12_isWritten_2 : decode cX12_isWritten 2 = .ok (.aload_n 0, 1) := by decide +kernel
theorem dX12_isWritten_3 : decode cX12_isWritten 3 = .ok (.getfield 13, 3) := by decide +kernel
theorem dX12_isWritten_6 : decode cX12_isWritten 6 = .ok (.iconst 2, 1) := by decide +kernel
theorem dX12_isWritten_7 : decode cX12_isWritten 7 = .ok (.iload_n 1, 1) := by decide +kernel
theorem dX12_isWritten_8 : decode cX12_isWritten 8 = .ok (.imul, 1) := by decide +kernel
theorem dX12_isWritten_9 : decode cX12_isWritten 9 = .ok (.iaload, 1) := by decide +kernel
theorem dX12_isWritten_10 : decode cX12_isWritten 10 = .ok (.aload_n 0, 1) := by decide +kernel
theorem dX12_isWritten_11 : decode cX12_isWritten 11 = .ok (.getfield 13, 3) := by decide +kernel
theorem dX12_isWritten_14 : decode cX12_isWritten 14 = .ok (.iconst 2, 1) := by decide +kernel
theorem dX12_isWritten_15 : decode cX12_isWritten 15 = .ok (.iload_n 1, 1) := by decide +kernel
theorem dX12_isWritten_16 : decode cX12_isWritten 16 = .ok (.imul, 1) := by decide +kernel
theorem dX12_isWritten_17 : decode cX12_isWritten 17 = .ok (.iconst 1, 1) := by decide +kernel
theorem dX12_isWritten_18 : decode cX12_isWritten 18 = .ok (.iadd, 1) := by decide +kernel
theorem dX12_isWritten_19 : decode cX12_isWritten 19 = .ok (.iaload, 1) := by decide +kernel
theorem dX12_isWritten_20 : decode cX12_isWritten 20 = .ok (.iload_n 2, 1) := by decide +kernel
theorem dX12_isWritten_21 : decode cX12_isWritten 21 = .ok (.invokevirtual 105, 3) := by decide +kernel
theorem dX12_isWritten_24 : decode cX12_isWritten 24 = .ok (.ireturn, 1) := by decide +kernel
theorem dX12_companyOf_0 : decode cX12_companyOf 0 = .ok (.iconst 0, 1) := by decide +kernel
theorem dX12_companyOf_1 : decode cX12_companyOf 1 = .ok (.istore_n 2, 1) := by decide +kernel
theorem dX12_companyOf_2 : decode cX12_companyOf 2 = .ok (.iconst 0, 1) := by decide +kernel
theorem dX12_companyOf_3 : decode cX12_companyOf 3 = .ok (.istore_n 3, 1) := by decide +kernel
theorem dX12_companyOf_4 : decode cX12_companyOf 4 = .ok (.iload_n 3, 1) := by decide +kernel
theorem dX12_companyOf_5 : decode cX12_companyOf 5 = .ok (.aload_n 0, 1) := by decide +kernel
theorem dX12_companyOf_6 : decode cX12_companyOf 6 = .ok (.getfield 83, 3) := by decide +kernel
theorem dX12_companyOf_9 : decode cX12_companyOf 9 = .ok (.if_icmp .ge 34, 3) := by decide +kernel
theorem dX12_companyOf_12 : decode cX12_companyOf 12 = .ok (.iload_n 2, 1) := by decide +kernel
theorem dX12_companyOf_13 : decode cX12_companyOf 13 = .ok (.aload_n 0, 1) := by decide +kernel
theorem dX12_companyOf_14 : decode cX12_companyOf 14 = .ok (.getfield 16, 3) := by decide +kernel
theorem dX12_companyOf_17 : decode cX12_companyOf 17 = .ok (.iload_n 3, 1) := by decide +kernel
theorem dX12_companyOf_18 : decode cX12_companyOf 18 = .ok (.iaload, 1) := by decide +kernel
theorem dX12_companyOf_19 : decode cX12_companyOf 19 = .ok (.aload_n 0, 1) := by decide +kernel
theorem dX12_companyOf_20 : decode cX12_companyOf 20 = .ok (.getfield 16, 3) := by decide +kernel
theorem dX12_companyOf_23 : decode cX12_companyOf 23 = .ok (.iload_n 1, 1) := by decide +kernel
theorem dX12_companyOf_24 : decode cX12_companyOf 24 = .ok (.iaload, 1) := by decide +kernel
theorem dX12_companyOf_25 : decode cX12_companyOf 25 = .ok (.if_icmp .ne 9, 3) := by decide +kernel
theorem dX12_companyOf_28 : decode cX12_companyOf 28 = .ok (.iconst 1, 1) := by decide +kernel
theorem dX12_companyOf_29 : decode cX12_companyOf 29 = .ok (.iload_n 3, 1) := by decide +kernel
theorem dX12_companyOf_30 : decode cX12_companyOf 30 = .ok (.ishl, 1) := by decide +kernel
theorem dX12_companyOf_31 : decode cX12_companyOf 31 = .ok (.goto 4, 3) := by decide +kernel
theorem dX12_companyOf_34 : decode cX12_companyOf 34 = .ok (.iconst 0, 1) := by decide +kernel
theorem dX12_companyOf_35 : decode cX12_companyOf 35 = .ok (.ior, 1) := by decide +kernel
theorem dX12_companyOf_36 : decode cX12_companyOf 36 = .ok (.istore_n 2, 1) := by decide +kernel
theorem dX12_companyOf_37 : decode cX12_companyOf 37 = .ok (.iinc 3 1, 3) := by decide +kernel
theorem dX12_companyOf_40 : decode cX12_companyOf 40 = .ok (.goto (-36), 3) := by decide +kernel
theorem dX12_companyOf_43 : decode cX12_companyOf 43 = .ok (.iload_n 2, 1) := by decide +kernel
theorem dX12_companyOf_44 : decode cX12_companyOf 44 = .ok (.ireturn, 1) := by decide +kernel
theorem dX12_isWrittenNow_0 : decode cX12_isWrittenNow 0 = .ok (.aload_n 0, 1) := by decide +kernel
theorem dX12_isWrittenNow_1 : decode cX12_isWrittenNow 1 = .ok (.iload_n 1, 1) := by decide +kernel
theorem dX12_isWrittenNow_2 : decode cX12_isWrittenNow 2 = .ok (.aload_n 0, 1) := by decide +kernel
theorem dX12_isWrittenNow_3 : decode cX12_isWrittenNow 3 = .ok (.iload_n 1, 1) := by decide +kernel
theorem dX12_isWrittenNow_4 : decode cX12_isWrittenNow 4 = .ok (.invokevirtual 109, 3) := by decide +kernel
theorem dX12_isWrittenNow_7 : decode cX12_isWrittenNow 7 = .ok (.invokevirtual 112, 3) := by decide +kernel
theorem dX12_isWrittenNow_10 : decode cX12_isWrittenNow 10 = .ok (.ireturn, 1) := by decide +kernel
theorem dX12_lettersOf_0 : decode cX12_lettersOf 0 = .ok (.iconst 0, 1) := by decide +kernel
theorem dX12_lettersOf_1 : decode cX12_lettersOf 1 = .ok (.istore_n 2, 1) := by decide +kernel
theorem dX12_lettersOf_2 : decode cX12_lettersOf 2 = .ok (.iconst 0, 1) := by decide +kernel
theorem dX12_lettersOf_3 : decode cX12_lettersOf 3 = .ok (.istore_n 3, 1) := by decide +kernel
theorem dX12_lettersOf_4 : decode cX12_lettersOf 4 = .ok (.iload_n 3, 1) := by decide +kernel
theorem dX12_lettersOf_5 : decode cX12_lettersOf 5 = .ok (.iconst 2, 1) := by decide +kernel
theorem dX12_lettersOf_6 : decode cX12_lettersOf 6 = .ok (.aload_n 0, 1) := by decide +kernel
theorem dX12_lettersOf_7 : decode cX12_lettersOf 7 = .ok (.getfield 83, 3) := by decide +kernel
theorem dX12_lettersOf_10 : decode cX12_lettersOf 10 = .ok (.imul, 1) := by decide +kernel
theorem dX12_lettersOf_11 : decode cX12_lettersOf 11 = .ok (.if_icmp .ge 34, 3) := by decide +kernel
theorem dX12_lettersOf_14 : decode cX12_lettersOf 14 = .ok (.iload_n 2, 1) := by decide +kernel
theorem dX12_lettersOf_15 : decode cX12_lettersOf 15 = .ok (.aload_n 0, 1) := by decide +kernel
theorem dX12_lettersOf_16 : decode cX12_lettersOf 16 = .ok (.getfield 13, 3) := by decide +kernel
theorem dX12_lettersOf_19 : decode cX12_lettersOf 19 = .ok (.iload_n 3, 1) := by decide +kernel
theorem dX12_lettersOf_20 : decode cX12_lettersOf 20 = .ok (.iaload, 1) := by decide +kernel
theorem dX12_lettersOf_21 : decode cX12_lettersOf 21 = .ok (.iload_n 1, 1) := by decide +kernel
theorem dX12_lettersOf_22 : decode cX12_lettersOf 22 = .ok (.if_icmp .ne 14, 3) := by decide +kernel
theorem dX12_lettersOf_25 : decode cX12_lettersOf 25 = .ok (.iload_n 3, 1) := by decide +kernel
theorem dX12_lettersOf_26 : decode cX12_lettersOf 26 = .ok (.iconst 2, 1) := by decide +kernel
theorem dX12_lettersOf_27 : decode cX12_lettersOf 27 = .ok (.idiv, 1) := by decide +kernel
theorem dX12_lettersOf_28 : decode cX12_lettersOf 28 = .ok (.iload_n 1, 1) := by decide +kernel
theorem dX12_lettersOf_29 : decode cX12_lettersOf 29 = .ok (.if_icmp .eq 7, 3) := by decide +kernel
theorem dX12_lettersOf_32 : decode cX12_lettersOf 32 = .ok (.iconst 1, 1) := by decide +kernel
theorem dX12_lettersOf_33 : decode cX12_lettersOf 33 = .ok (.goto 4, 3) := by decide +kernel
theorem dX12_lettersOf_36 : decode cX12_lettersOf 36 = .ok (.iconst 0, 1) := by decide +kernel
theorem dX12_lettersOf_37 : decode cX12_lettersOf 37 = .ok (.iadd, 1) := by decide +kernel
theorem dX12_lettersOf_38 : decode cX12_lettersOf 38 = .ok (.istore_n 2, 1) := by decide +kernel
theorem dX12_lettersOf_39 : decode cX12_lettersOf 39 = .ok (.iinc 3 1, 3) := by decide +kernel
theorem dX12_lettersOf_42 : decode cX12_lettersOf 42 = .ok (.goto (-38), 3) := by decide +kernel
theorem dX12_lettersOf_45 : decode cX12_lettersOf 45 = .ok (.iload_n 2, 1) := by decide +kernel
theorem dX12_lettersOf_46 : decode cX12_lettersOf 46 = .ok (.ireturn, 1) := by decide +kernel
theorem dX12_wantsOf_0 : decode cX12_wantsOf 0 = .ok (.iconst 1, 1) := by decide +kernel
theorem dX12_wantsOf_1 : decode cX12_wantsOf 1 = .ok (.aload_n 0, 1) := by decide +kernel
theorem dX12_wantsOf_2 : decode cX12_wantsOf 2 = .ok (.getfield 83, 3) := by decide +kernel
theorem dX12_wantsOf_5 : decode cX12_wantsOf 5 = .ok (.ishl, 1) := by decide +kernel
theorem dX12_wantsOf_6 : decode cX12_wantsOf 6 = .ok (.iconst 1, 1) := by decide +kernel
theorem dX12_wantsOf_7 : decode cX12_wantsOf 7 = .ok (.isub, 1) := by decide +kernel
theorem dX12_wantsOf_8 : decode cX12_wantsOf 8 = .ok (.iconst 1, 1) := by decide +kernel
theorem dX12_wantsOf_9 : decode cX12_wantsOf 9 = .ok (.iload_n 1, 1) := by decide +kernel
theorem dX12_wantsOf_10 : decode cX12_wantsOf 10 = .ok (.ishl, 1) := by decide +kernel
theorem dX12_wantsOf_11 : decode cX12_wantsOf 11 = .ok (.iconst (-1), 1) := by decide +kernel
theorem dX12_wantsOf_12 : decode cX12_wantsOf 12 = .ok (.ixor, 1) := by decide +kernel
theorem dX12_wantsOf_13 : decode cX12_wantsOf 13 = .ok (.iand, 1) := by decide +kernel
theorem dX12_wantsOf_14 : decode cX12_wantsOf 14 = .ok (.istore_n 2, 1) := by decide +kernel
theorem dX12_wantsOf_15 : decode cX12_wantsOf 15 = .ok (.iconst 0, 1) := by decide +kernel
theorem dX12_wantsOf_16 : decode cX12_wantsOf 16 = .ok (.istore_n 3, 1) := by decide +kernel
theorem dX12_wantsOf_17 : decode cX12_wantsOf 17 = .ok (.iload_n 3, 1) := by decide +kernel
theorem dX12_wantsOf_18 : decode cX12_wantsOf 18 = .ok (.iconst 1, 1) := by decide +kernel
theorem dX12_wantsOf_19 : decode cX12_wantsOf 19 = .ok (.aload_n 0, 1) := by decide +kernel
theorem dX12_wantsOf_20 : decode cX12_wantsOf 20 = .ok (.getfield 83, 3) := by decide +kernel
theorem dX12_wantsOf_23 : decode cX12_wantsOf 23 = .ok (.ishl, 1) := by decide +kernel
theorem dX12_wantsOf_24 : decode cX12_wantsOf 24 = .ok (.if_icmp .ge 34, 3) := by decide +kernel
theorem dX12_wantsOf_27 : decode cX12_wantsOf 27 = .ok (.iload_n 3, 1) := by decide +kernel
theorem dX12_wantsOf_28 : decode cX12_wantsOf 28 = .ok (.iload_n 1, 1) := by decide +kernel
theorem dX12_wantsOf_29 : decode cX12_wantsOf 29 = .ok (.invokestatic 98, 3) := by decide +kernel
theorem dX12_wantsOf_32 : decode cX12_wantsOf 32 = .ok (.ifCond .eq 18, 3) := by decide +kernel
theorem dX12_wantsOf_35 : decode cX12_wantsOf 35 = .ok (.aload_n 0, 1) := by decide +kernel
theorem dX12_wantsOf_36 : decode cX12_wantsOf 36 = .ok (.iload_n 1, 1) := by decide +kernel
theorem dX12_wantsOf_37 : decode cX12_wantsOf 37 = .ok (.iload_n 3, 1) := by decide +kernel
theorem dX12_wantsOf_38 : decode cX12_wantsOf 38 = .ok (.invokevirtual 112, 3) := by decide +kernel
theorem dX12_wantsOf_41 : decode cX12_wantsOf 41 = .ok (.ifCond .eq 9, 3) := by decide +kernel
theorem dX12_wantsOf_44 : decode cX12_wantsOf 44 = .ok (.iload_n 2, 1) := by decide +kernel
theorem dX12_wantsOf_45 : decode cX12_wantsOf 45 = .ok (.iload_n 3, 1) := by decide +kernel
theorem dX12_wantsOf_46 : decode cX12_wantsOf 46 = .ok (.iand, 1) := by decide +kernel
theorem dX12_wantsOf_47 : decode cX12_wantsOf 47 = .ok (.goto 4, 3) := by decide +kernel
theorem dX12_wantsOf_50 : decode cX12_wantsOf 50 = .ok (.iload_n 2, 1) := by decide +kernel
theorem dX12_wantsOf_51 : decode cX12_wantsOf 51 = .ok (.istore_n 2, 1) := by decide +kernel
theorem dX12_wantsOf_52 : decode cX12_wantsOf 52 = .ok (.iinc 3 1, 3) := by decide +kernel
theorem dX12_wantsOf_55 : decode cX12_wantsOf 55 = .ok (.goto (-38), 3) := by decide +kernel
theorem dX12_wantsOf_58 : decode cX12_wantsOf 58 = .ok (.iload_n 2, 1) := by decide +kernel
theorem dX12_wantsOf_59 : decode cX12_wantsOf 59 = .ok (.ireturn, 1) := by decide +kernel
theorem dX12_oneNow_0 : decode cX12_oneNow 0 = .ok (.iload_n 2, 1) := by decide +kernel
theorem dX12_oneNow_1 : decode cX12_oneNow 1 = .ok (.tableswitch 107 0 7 #[47, 54, 54, 67, 74, 81, 95, 101], 47) := by decide +kernel
theorem dX12_oneNow_48 : decode cX12_oneNow 48 = .ok (.aload_n 0, 1) := by decide +kernel
theorem dX12_oneNow_49 : decode cX12_oneNow 49 = .ok (.getfield 7, 3) := by decide +kernel
theorem dX12_oneNow_52 : decode cX12_oneNow 52 = .ok (.iload_n 1, 1) := by decide +kernel
theorem dX12_oneNow_53 : decode cX12_oneNow 53 = .ok (.iaload, 1) := by decide +kernel
theorem dX12_oneNow_54 : decode cX12_oneNow 54 = .ok (.ireturn, 1) := by decide +kernel
theorem dX12_oneNow_55 : decode cX12_oneNow 55 = .ok (.aload_n 0, 1) := by decide +kernel
theorem dX12_oneNow_56 : decode cX12_oneNow 56 = .ok (.getfield 13, 3) := by decide +kernel
theorem dX12_oneNow_59 : decode cX12_oneNow 59 = .ok (.iconst 2, 1) := by decide +kernel
theorem dX12_oneNow_60 : decode cX12_oneNow 60 = .ok (.iload_n 1, 1) := by decide +kernel
theorem dX12_oneNow_61 : decode cX12_oneNow 61 = .ok (.imul, 1) := by decide +kernel
theorem dX12_oneNow_62 : decode cX12_oneNow 62 = .ok (.iload_n 2, 1) := by decide +kernel
theorem dX12_oneNow_63 : decode cX12_oneNow 63 = .ok (.iadd, 1) := by decide +kernel
theorem dX12_oneNow_64 : decode cX12_oneNow 64 = .ok (.iconst 1, 1) := by decide +kernel
theorem dX12_oneNow_65 : decode cX12_oneNow 65 = .ok (.isub, 1) := by decide +kernel
theorem dX12_oneNow_66 : decode cX12_oneNow 66 = .ok (.iaload, 1) := by decide +kernel
theorem dX12_oneNow_67 : decode cX12_oneNow 67 = .ok (.ireturn, 1) := by decide +kernel
theorem dX12_oneNow_68 : decode cX12_oneNow 68 = .ok (.aload_n 0, 1) := by decide +kernel
theorem dX12_oneNow_69 : decode cX12_oneNow 69 = .ok (.getfield 16, 3) := by decide +kernel
theorem dX12_oneNow_72 : decode cX12_oneNow 72 = .ok (.iload_n 1, 1) := by decide +kernel
theorem dX12_oneNow_73 : decode cX12_oneNow 73 = .ok (.iaload, 1) := by decide +kernel
theorem dX12_oneNow_74 : decode cX12_oneNow 74 = .ok (.ireturn, 1) := by decide +kernel
theorem dX12_oneNow_75 : decode cX12_oneNow 75 = .ok (.aload_n 0, 1) := by decide +kernel
theorem dX12_oneNow_76 : decode cX12_oneNow 76 = .ok (.getfield 19, 3) := by decide +kernel
theorem dX12_oneNow_79 : decode cX12_oneNow 79 = .ok (.iload_n 1, 1) := by decide +kernel
theorem dX12_oneNow_80 : decode cX12_oneNow 80 = .ok (.iaload, 1) := by decide +kernel
theorem dX12_oneNow_81 : decode cX12_oneNow 81 = .ok (.ireturn, 1) := by decide +kernel
theorem dX12_oneNow_82 : decode cX12_oneNow 82 = .ok (.aload_n 0, 1) := by decide +kernel
theorem dX12_oneNow_83 : decode cX12_oneNow 83 = .ok (.iload_n 1, 1) := by decide +kernel
theorem dX12_oneNow_84 : decode cX12_oneNow 84 = .ok (.invokevirtual 115, 3) := by decide +kernel
theorem dX12_oneNow_87 : decode cX12_oneNow 87 = .ok (.ifCond .eq 7, 3) := by decide +kernel
theorem dX12_oneNow_90 : decode cX12_oneNow 90 = .ok (.iconst 1, 1) := by decide +kernel
theorem dX12_oneNow_91 : decode cX12_oneNow 91 = .ok (.goto 4, 3) := by decide +kernel
theorem dX12_oneNow_94 : decode cX12_oneNow 94 = .ok (.iconst 0, 1) := by decide +kernel
theorem dX12_oneNow_95 : decode cX12_oneNow 95 = .ok (.ireturn, 1) := by decide +kernel
theorem dX12_oneNow_96 : decode cX12_oneNow 96 = .ok (.aload_n 0, 1) := by decide +kernel
theorem dX12_oneNow_97 : decode cX12_oneNow 97 = .ok (.iload_n 1, 1) := by decide +kernel
theorem dX12_oneNow_98 : decode cX12_oneNow 98 = .ok (.invokevirtual 109, 3) := by decide +kernel
theorem dX12_oneNow_101 : decode cX12_oneNow 101 = .ok (.ireturn, 1) := by decide +kernel
theorem dX12_oneNow_102 : decode cX12_oneNow 102 = .ok (.aload_n 0, 1) := by decide +kernel
theorem dX12_oneNow_103 : decode cX12_oneNow 103 = .ok (.iload_n 1, 1) := by decide +kernel
theorem dX12_oneNow_104 : decode cX12_oneNow 104 = .ok (.invokevirtual 118, 3) := by decide +kernel
theorem dX12_oneNow_107 : decode cX12_oneNow 107 = .ok (.ireturn, 1) := by decide +kernel
theorem dX12_oneNow_108 : decode cX12_oneNow 108 = .ok (.aload_n 0, 1) := by decide +kernel
theorem dX12_oneNow_109 : decode cX12_oneNow 109 = .ok (.iload_n 1, 1) := by decide +kernel
theorem dX12_oneNow_110 : decode cX12_oneNow 110 = .ok (.invokevirtual 121, 3) := by decide +kernel
theorem dX12_oneNow_113 : decode cX12_oneNow 113 = .ok (.ireturn, 1) := by decide +kernel
theorem dX12_about_0 : decode cX12_about 0 = .ok (.aload_n 0, 1) := by decide +kernel
theorem dX12_about_1 : decode cX12_about 1 = .ok (.iload_n 1, 1) := by decide +kernel
theorem dX12_about_2 : decode cX12_about 2 = .ok (.invokevirtual 124, 3) := by decide +kernel
theorem dX12_about_5 : decode cX12_about 5 = .ok (.ifCond .ne 8, 3) := by decide +kernel
theorem dX12_about_8 : decode cX12_about 8 = .ok (.bipush (-101), 2) := by decide +kernel
theorem dX12_about_10 : decode cX12_about 10 = .ok (.goto 24, 3) := by decide +kernel
theorem dX12_about_13 : decode cX12_about 13 = .ok (.iload_n 2, 1) := by decide +kernel
theorem dX12_about_14 : decode cX12_about 14 = .ok (.iconst 0, 1) := by decide +kernel
theorem dX12_about_15 : decode cX12_about 15 = .ok (.bipush 8, 2) := by decide +kernel
theorem dX12_about_17 : decode cX12_about 17 = .ok (.invokestatic 59, 3) := by decide +kernel
theorem dX12_about_20 : decode cX12_about 20 = .ok (.ifCond .eq 12, 3) := by decide +kernel
theorem dX12_about_23 : decode cX12_about 23 = .ok (.aload_n 0, 1) := by decide +kernel
theorem dX12_about_24 : decode cX12_about 24 = .ok (.iload_n 1, 1) := by decide +kernel
theorem dX12_about_25 : decode cX12_about 25 = .ok (.iload_n 2, 1) := by decide +kernel
theorem dX12_about_26 : decode cX12_about 26 = .ok (.invokevirtual 127, 3) := by decide +kernel
theorem dX12_about_29 : decode cX12_about 29 = .ok (.goto 5, 3) := by decide +kernel
theorem dX12_about_32 : decode cX12_about 32 = .ok (.bipush (-102), 2) := by decide +kernel
theorem dX12_about_34 : decode cX12_about 34 = .ok (.ireturn, 1) := by decide +kernel
theorem dX12_as_0 : decode cX12_as 0 = .ok (.aload_n 0, 1) := by decide +kernel
theorem dX12_as_1 : decode cX12_as 1 = .ok (.iload_n 1, 1) := by decide +kernel
theorem dX12_as_2 : decode cX12_as 2 = .ok (.invokevirtual 124, 3) := by decide +kernel
theorem dX12_as_5 : decode cX12_as 5 = .ok (.ifCond .ne 6, 3) := by decide +kernel
theorem dX12_as_8 : decode cX12_as 8 = .ok (.bipush (-101), 2) := by decide +kernel
theorem dX12_as_10 : decode cX12_as 10 = .ok (.ireturn, 1) := by decide +kernel
theorem dX12_as_11 : decode cX12_as 11 = .ok (.iload_n 2, 1) := by decide +kernel
theorem dX12_as_12 : decode cX12_as 12 = .ok (.iconst 0, 1) := by decide +kernel
theorem dX12_as_13 : decode cX12_as 13 = .ok (.iconst 4, 1) := by decide +kernel
theorem dX12_as_14 : decode cX12_as 14 = .ok (.invokestatic 59, 3) := by decide +kernel
theorem dX12_as_17 : decode cX12_as 17 = .ok (.ifCond .ne 6, 3) := by decide +kernel
theorem dX12_as_20 : decode cX12_as 20 = .ok (.bipush (-102), 2) := by decide +kernel
theorem dX12_as_22 : decode cX12_as 22 = .ok (.ireturn, 1) := by decide +kernel
theorem dX12_as_23 : decode cX12_as 23 = .ok (.aload_n 0, 1) := by decide +kernel
theorem dX12_as_24 : decode cX12_as 24 = .ok (.getfield 7, 3) := by decide +kernel
theorem dX12_as_27 : decode cX12_as 27 = .ok (.iload_n 1, 1) := by decide +kernel
theorem dX12_as_28 : decode cX12_as 28 = .ok (.iaload, 1) := by decide +kernel
theorem dX12_as_29 : decode cX12_as 29 = .ok (.istore_n 3, 1) := by decide +kernel
theorem dX12_as_30 : decode cX12_as 30 = .ok (.iload_n 2, 1) := by decide +kernel
theorem dX12_as_31 : decode cX12_as 31 = .ok (.ifCond .eq 18, 3) := by decide +kernel
theorem dX12_as_34 : decode cX12_as 34 = .ok (.iload_n 3, 1) := by decide +kernel
theorem dX12_as_35 : decode cX12_as 35 = .ok (.iload_n 2, 1) := by decide +kernel
theorem dX12_as_36 : decode cX12_as 36 = .ok (.if_icmp .eq 13, 3) := by decide +kernel
theorem dX12_as_39 : decode cX12_as 39 = .ok (.iload_n 2, 1) := by decide +kernel
theorem dX12_as_40 : decode cX12_as 40 = .ok (.iconst 2, 1) := by decide +kernel
theorem dX12_as_41 : decode cX12_as 41 = .ok (.if_icmp .ne 12, 3) := by decide +kernel
theorem dX12_as_44 : decode cX12_as 44 = .ok (.iload_n 3, 1) := by decide +kernel
theorem dX12_as_45 : decode cX12_as 45 = .ok (.iconst 4, 1) := by decide +kernel
theorem dX12_as_46 : decode cX12_as 46 = .ok (.if_icmp .ne 7, 3) := by decide +kernel
theorem dX12_as_49 : decode cX12_as 49 = .ok (.iload_n 1, 1) := by decide +kernel
theorem dX12_as_50 : decode cX12_as 50 = .ok (.goto 4, 3) := by decide +kernel
theorem dX12_as_53 : decode cX12_as 53 = .ok (.iconst (-1), 1) := by decide +kernel
theorem dX12_as_54 : decode cX12_as 54 = .ok (.ireturn, 1) := by decide +kernel
theorem dX12_go_0 : decode cX12_go 0 = .ok (.aload_n 0, 1) := by decide +kernel
theorem dX12_go_1 : decode cX12_go 1 = .ok (.iload_n 1, 1) := by decide +kernel
theorem dX12_go_2 : decode cX12_go 2 = .ok (.invokevirtual 124, 3) := by decide +kernel
theorem dX12_go_5 : decode cX12_go 5 = .ok (.ifCond .ne 6, 3) := by decide +kernel
theorem dX12_go_8 : decode cX12_go 8 = .ok (.bipush (-101), 2) := by decide +kernel
theorem dX12_go_10 : decode cX12_go 10 = .ok (.ireturn, 1) := by decide +kernel
theorem dX12_go_11 : decode cX12_go 11 = .ok (.iload_n 2, 1) := by decide +kernel
theorem dX12_go_12 : decode cX12_go 12 = .ok (.iconst 0, 1) := by decide +kernel
theorem dX12_go_13 : decode cX12_go 13 = .ok (.iconst 3, 1) := by decide +kernel
theorem dX12_go_14 : decode cX12_go 14 = .ok (.invokestatic 59, 3) := by decide +kernel
theorem dX12_go_17 : decode cX12_go 17 = .ok (.ifCond .ne 6, 3) := by decide +kernel
theorem dX12_go_20 : decode cX12_go 20 = .ok (.bipush (-102), 2) := by decide +kernel
theorem dX12_go_22 : decode cX12_go 22 = .ok (.ireturn, 1) := by decide +kernel
theorem dX12_go_23 : decode cX12_go 23 = .ok (.aload_n 0, 1) := by decide +kernel
theorem dX12_go_24 : decode cX12_go 24 = .ok (.getfield 16, 3) := by decide +kernel
theorem dX12_go_27 : decode cX12_go 27 = .ok (.iload_n 1, 1) := by decide +kernel
theorem dX12_go_28 : decode cX12_go 28 = .ok (.iaload, 1) := by decide +kernel
theorem dX12_go_29 : decode cX12_go 29 = .ok (.istore_n 3, 1) := by decide +kernel
theorem dX12_go_30 : decode cX12_go 30 = .ok (.aload_n 0, 1) := by decide +kernel
theorem dX12_go_31 : decode cX12_go 31 = .ok (.getfield 16, 3) := by decide +kernel
theorem dX12_go_34 : decode cX12_go 34 = .ok (.iload_n 1, 1) := by decide +kernel
theorem dX12_go_35 : decode cX12_go 35 = .ok (.iload_n 2, 1) := by decide +kernel
theorem dX12_go_36 : decode cX12_go 36 = .ok (.iastore, 1) := by decide +kernel
theorem dX12_go_37 : decode cX12_go 37 = .ok (.aload_n 0, 1) := by decide +kernel
theorem dX12_go_38 : decode cX12_go 38 = .ok (.dup, 1) := by decide +kernel
theorem dX12_go_39 : decode cX12_go 39 = .ok (.getfield 89, 3) := by decide +kernel
theorem dX12_go_42 : decode cX12_go 42 = .ok (.iconst 1, 1) := by decide +kernel
theorem dX12_go_43 : decode cX12_go 43 = .ok (.iadd, 1) := by decide +kernel
theorem dX12_go_44 : decode cX12_go 44 = .ok (.putfield 89, 3) := by decide +kernel
theorem dX12_go_47 : decode cX12_go 47 = .ok (.iload_n 3, 1) := by decide +kernel
theorem dX12_go_48 : decode cX12_go 48 = .ok (.ireturn, 1) := by decide +kernel
theorem dX12_sell_0 : decode cX12_sell 0 = .ok (.aload_n 0, 1) := by decide +kernel
theorem dX12_sell_1 : decode cX12_sell 1 = .ok (.iload_n 1, 1) := by decide +kernel
theorem dX12_sell_2 : decode cX12_sell 2 = .ok (.invokevirtual 124, 3) := by decide +kernel
theorem dX12_sell_5 : decode cX12_sell 5 = .ok (.ifCond .eq 11, 3) := by decide +kernel
theorem dX12_sell_8 : decode cX12_sell 8 = .ok (.aload_n 0, 1) := by decide +kernel
theorem dX12_sell_9 : decode cX12_sell 9 = .ok (.iload_n 3, 1) := by decide +kernel
theorem dX12_sell_10 : decode cX12_sell 10 = .ok (.invokevirtual 124, 3) := by decide +kernel
theorem dX12_sell_13 : decode cX12_sell 13 = .ok (.ifCond .ne 6, 3) := by decide +kernel
theorem dX12_sell_16 : decode cX12_sell 16 = .ok (.bipush (-101), 2) := by decide +kernel
theorem dX12_sell_18 : decode cX12_sell 18 = .ok (.ireturn, 1) := by decide +kernel
theorem dX12_sell_19 : decode cX12_sell 19 = .ok (.iload_n 2, 1) := by decide +kernel
theorem dX12_sell_20 : decode cX12_sell 20 = .ok (.iconst 0, 1) := by decide +kernel
theorem dX12_sell_21 : decode cX12_sell 21 = .ok (.iconst 1, 1) := by decide +kernel
theorem dX12_sell_22 : decode cX12_sell 22 = .ok (.invokestatic 59, 3) := by decide +kernel
theorem dX12_sell_25 : decode cX12_sell 25 = .ok (.ifCond .ne 6, 3) := by decide +kernel
theorem dX12_sell_28 : decode cX12_sell 28 = .ok (.bipush (-102), 2) := by decide +kernel
theorem dX12_sell_30 : decode cX12_sell 30 = .ok (.ireturn, 1) := by decide +kernel
theorem dX12_sell_31 : decode cX12_sell 31 = .ok (.aload_n 0, 1) := by decide +kernel
theorem dX12_sell_32 : decode cX12_sell 32 = .ok (.getfield 13, 3) := by decide +kernel
theorem dX12_sell_35 : decode cX12_sell 35 = .ok (.iconst 2, 1) := by decide +kernel
theorem dX12_sell_36 : decode cX12_sell 36 = .ok (.iload_n 1, 1) := by decide +kernel
theorem dX12_sell_37 : decode cX12_sell 37 = .ok (.imul, 1) := by decide +kernel
theorem dX12_sell_38 : decode cX12_sell 38 = .ok (.iload_n 2, 1) := by decide +kernel
theorem dX12_sell_39 : decode cX12_sell 39 = .ok (.iadd, 1) := by decide +kernel
theorem dX12_sell_40 : decode cX12_sell 40 = .ok (.iaload, 1) := by decide +kernel
theorem dX12_sell_41 : decode cX12_sell 41 = .ok (.istore 4, 2) := by decide +kernel
theorem dX12_sell_43 : decode cX12_sell 43 = .ok (.aload_n 0, 1) := by decide +kernel
theorem dX12_sell_44 : decode cX12_sell 44 = .ok (.getfield 13, 3) := by decide +kernel
theorem dX12_sell_47 : decode cX12_sell 47 = .ok (.iconst 2, 1) := by decide +kernel
theorem dX12_sell_48 : decode cX12_sell 48 = .ok (.iload_n 1, 1) := by decide +kernel
theorem dX12_sell_49 : decode cX12_sell 49 = .ok (.imul, 1) := by decide +kernel
theorem dX12_sell_50 : decode cX12_sell 50 = .ok (.iload_n 2, 1) := by decide +kernel
theorem dX12_sell_51 : decode cX12_sell 51 = .ok (.iadd, 1) := by decide +kernel
theorem dX12_sell_52 : decode cX12_sell 52 = .ok (.iload_n 3, 1) := by decide +kernel
theorem dX12_sell_53 : decode cX12_sell 53 = .ok (.iastore, 1) := by decide +kernel
theorem dX12_sell_54 : decode cX12_sell 54 = .ok (.aload_n 0, 1) := by decide +kernel
theorem dX12_sell_55 : decode cX12_sell 55 = .ok (.dup, 1) := by decide +kernel
theorem dX12_sell_56 : decode cX12_sell 56 = .ok (.getfield 92, 3) := by decide +kernel
theorem dX12_sell_59 : decode cX12_sell 59 = .ok (.iconst 1, 1) := by decide +kernel
theorem dX12_sell_60 : decode cX12_sell 60 = .ok (.iadd, 1) := by decide +kernel
theorem dX12_sell_61 : decode cX12_sell 61 = .ok (.putfield 92, 3) := by decide +kernel
theorem dX12_sell_64 : decode cX12_sell 64 = .ok (.iload 4, 2) := by decide +kernel
theorem dX12_sell_66 : decode cX12_sell 66 = .ok (.ireturn, 1) := by decide +kernel
theorem dX12_with_0 : decode cX12_with 0 = .ok (.iload_n 2, 1) := by decide +kernel
theorem dX12_with_1 : decode cX12_with 1 = .ok (.ifCond .eq 11, 3) := by decide +kernel
theorem dX12_with_4 : decode cX12_with 4 = .ok (.iload_n 0, 1) := by decide +kernel
theorem dX12_with_5 : decode cX12_with 5 = .ok (.iconst 1, 1) := by decide +kernel
theorem dX12_with_6 : decode cX12_with 6 = .ok (.iload_n 1, 1) := by decide +kernel
theorem dX12_with_7 : decode cX12_with 7 = .ok (.ishl, 1) := by decide +kernel
theorem dX12_with_8 : decode cX12_with 8 = .ok (.ior, 1) := by decide +kernel
theorem dX12_with_9 : decode cX12_with 9 = .ok (.goto 10, 3) := by decide +kernel
theorem dX12_with_12 : decode cX12_with 12 = .ok (.iload_n 0, 1) := by decide +kernel
theorem dX12_with_13 : decode cX12_with 13 = .ok (.iconst 1, 1) := by decide +kernel
theorem dX12_with_14 : decode cX12_with 14 = .ok (.iload_n 1, 1) := by decide +kernel
theorem dX12_with_15 : decode cX12_with 15 = .ok (.ishl, 1) := by decide +kernel
theorem dX12_with_16 : decode cX12_with 16 = .ok (.iconst (-1), 1) := by decide +kernel
theorem dX12_with_17 : decode cX12_with 17 = .ok (.ixor, 1) := by decide +kernel
theorem dX12_with_18 : decode cX12_with 18 = .ok (.iand, 1) := by decide +kernel
theorem dX12_with_19 : decode cX12_with 19 = .ok (.ireturn, 1) := by decide +kernel
theorem dX12_quarrel_0 : decode cX12_quarrel 0 = .ok (.aload_n 0, 1) := by decide +kernel
theorem dX12_quarrel_1 : decode cX12_quarrel 1 = .ok (.iload_n 1, 1) := by decide +kernel
theorem dX12_quarrel_2 : decode cX12_quarrel 2 = .ok (.invokevirtual 124, 3) := by decide +kernel
theorem dX12_quarrel_5 : decode cX12_quarrel 5 = .ok (.ifCond .eq 16, 3) := by decide +kernel
theorem dX12_quarrel_8 : decode cX12_quarrel 8 = .ok (.aload_n 0, 1) := by decide +kernel
theorem dX12_quarrel_9 : decode cX12_quarrel 9 = .ok (.iload_n 2, 1) := by decide +kernel
theorem dX12_quarrel_10 : decode cX12_quarrel 10 = .ok (.invokevirtual 124, 3) := by decide +kernel
theorem dX12_quarrel_13 : decode cX12_quarrel 13 = .ok (.ifCond .eq 8, 3) := by decide +kernel
theorem dX12_quarrel_16 : decode cX12_quarrel 16 = .ok (.iload_n 1, 1) := by decide +kernel
theorem dX12_quarrel_17 : decode cX12_quarrel 17 = .ok (.iload_n 2, 1) := by decide +kernel
theorem dX12_quarrel_18 : decode cX12_quarrel 18 = .ok (.if_icmp .ne 6, 3) := by decide +kernel
theorem dX12_quarrel_21 : decode cX12_quarrel 21 = .ok (.bipush (-101), 2) := by decide +kernel
theorem dX12_quarrel_23 : decode cX12_quarrel 23 = .ok (.ireturn, 1) := by decide +kernel
theorem dX12_quarrel_24 : decode cX12_quarrel 24 = .ok (.aload_n 0, 1) := by decide +kernel
theorem dX12_quarrel_25 : decode cX12_quarrel 25 = .ok (.getfield 19, 3) := by decide +kernel
theorem dX12_quarrel_28 : decode cX12_quarrel 28 = .ok (.iload_n 1, 1) := by decide +kernel
theorem dX12_quarrel_29 : decode cX12_quarrel 29 = .ok (.iaload, 1) := by decide +kernel
theorem dX12_quarrel_30 : decode cX12_quarrel 30 = .ok (.iload_n 2, 1) := by decide +kernel
theorem dX12_quarrel_31 : decode cX12_quarrel 31 = .ok (.ishr, 1) := by decide +kernel
theorem dX12_quarrel_32 : decode cX12_quarrel 32 = .ok (.iconst 1, 1) := by decide +kernel
theorem dX12_quarrel_33 : decode cX12_quarrel 33 = .ok (.iand, 1) := by decide +kernel
theorem dX12_quarrel_34 : decode cX12_quarrel 34 = .ok (.istore 4, 2) := by decide +kernel
theorem dX12_quarrel_36 : decode cX12_quarrel 36 = .ok (.aload_n 0, 1) := by decide +kernel
theorem dX12_quarrel_37 : decode cX12_quarrel 37 = .ok (.getfield 19, 3) := by decide +kernel
theorem dX12_quarrel_40 : decode cX12_quarrel 40 = .ok (.iload_n 1, 1) := by decide +kernel
theorem dX12_quarrel_41 : decode cX12_quarrel 41 = .ok (.aload_n 0, 1) := by decide +kernel
theorem dX12_quarrel_42 : decode cX12_quarrel 42 = .ok (.getfield 19, 3) := by decide +kernel
theorem dX12_quarrel_45 : decode cX12_quarrel 45 = .ok (.iload_n 1, 1) := by decide +kernel
theorem dX12_quarrel_46 : decode cX12_quarrel 46 = .ok (.iaload, 1) := by decide +kernel
theorem dX12_quarrel_47 : decode cX12_quarrel 47 = .ok (.iload_n 2, 1) := by decide +kernel
theorem dX12_quarrel_48 : decode cX12_quarrel 48 = .ok (.iload_n 3, 1) := by decide +kernel
theorem dX12_quarrel_49 : decode cX12_quarrel 49 = .ok (.invokestatic 131, 3) := by decide +kernel
theorem dX12_quarrel_52 : decode cX12_quarrel 52 = .ok (.iastore, 1) := by decide +kernel
theorem dX12_quarrel_53 : decode cX12_quarrel 53 = .ok (.aload_n 0, 1) := by decide +kernel
theorem dX12_quarrel_54 : decode cX12_quarrel 54 = .ok (.getfield 19, 3) := by decide +kernel
theorem dX12_quarrel_57 : decode cX12_quarrel 57 = .ok (.iload_n 2, 1) := by decide +kernel
theorem dX12_quarrel_58 : decode cX12_quarrel 58 = .ok (.aload_n 0, 1) := by decide +kernel
theorem dX12_quarrel_59 : decode cX12_quarrel 59 = .ok (.getfield 19, 3) := by decide +kernel
theorem dX12_quarrel_62 : decode cX12_quarrel 62 = .ok (.iload_n 2, 1) := by decide +kernel
theorem dX12_quarrel_63 : decode cX12_quarrel 63 = .ok (.iaload, 1) := by decide +kernel
theorem dX12_quarrel_64 : decode cX12_quarrel 64 = .ok (.iload_n 1, 1) := by decide +kernel
theorem dX12_quarrel_65 : decode cX12_quarrel 65 = .ok (.iload_n 3, 1) := by decide +kernel
theorem dX12_quarrel_66 : decode cX12_quarrel 66 = .ok (.invokestatic 131, 3) := by decide +kernel
theorem dX12_quarrel_69 : decode cX12_quarrel 69 = .ok (.iastore, 1) := by decide +kernel
theorem dX12_quarrel_70 : decode cX12_quarrel 70 = .ok (.iload 4, 2) := by decide +kernel
theorem dX12_quarrel_72 : decode cX12_quarrel 72 = .ok (.ireturn, 1) := by decide +kernel
theorem dX12_written_0 : decode cX12_written 0 = .ok (.aload_n 0, 1) := by decide +kernel
theorem dX12_written_1 : decode cX12_written 1 = .ok (.iload_n 1, 1) := by decide +kernel
theorem dX12_written_2 : decode cX12_written 2 = .ok (.invokevirtual 124, 3) := by decide +kernel
theorem dX12_written_5 : decode cX12_written 5 = .ok (.ifCond .ne 6, 3) := by decide +kernel
theorem dX12_written_8 : decode cX12_written 8 = .ok (.bipush (-101), 2) := by decide +kernel
theorem dX12_written_10 : decode cX12_written 10 = .ok (.ireturn, 1) := by decide +kernel
theorem dX12_written_11 : decode cX12_written 11 = .ok (.aload_n 0, 1) := by decide +kernel
theorem dX12_written_12 : decode cX12_written 12 = .ok (.iload_n 2, 1) := by decide +kernel
theorem dX12_written_13 : decode cX12_written 13 = .ok (.invokevirtual 135, 3) := by decide +kernel
theorem dX12_written_16 : decode cX12_written 16 = .ok (.ifCond .eq 11, 3) := by decide +kernel
theorem dX12_written_19 : decode cX12_written 19 = .ok (.iload_n 2, 1) := by decide +kernel
theorem dX12_written_20 : decode cX12_written 20 = .ok (.iload_n 1, 1) := by decide +kernel
theorem dX12_written_21 : decode cX12_written 21 = .ok (.invokestatic 98, 3) := by decide +kernel
theorem dX12_written_24 : decode cX12_written 24 = .ok (.ifCond .ne 6, 3) := by decide +kernel
theorem dX12_written_27 : decode cX12_written 27 = .ok (.bipush (-102), 2) := by decide +kernel
theorem dX12_written_29 : decode cX12_written 29 = .ok (.ireturn, 1) := by decide +kernel
theorem dX12_written_30 : decode cX12_written 30 = .ok (.aload_n 0, 1) := by decide +kernel
theorem dX12_written_31 : decode cX12_written 31 = .ok (.iload_n 1, 1) := by decide +kernel
theorem dX12_written_32 : decode cX12_written 32 = .ok (.iload_n 2, 1) := by decide +kernel
theorem dX12_written_33 : decode cX12_written 33 = .ok (.invokevirtual 112, 3) := by decide +kernel
theorem dX12_written_36 : decode cX12_written 36 = .ok (.ifCond .eq 7, 3) := by decide +kernel
theorem dX12_written_39 : decode cX12_written 39 = .ok (.iconst 1, 1) := by decide +kernel
theorem dX12_written_40 : decode cX12_written 40 = .ok (.goto 4, 3) := by decide +kernel
theorem dX12_written_43 : decode cX12_written 43 = .ok (.iconst 0, 1) := by decide +kernel
theorem dX12_written_44 : decode cX12_written 44 = .ok (.ireturn, 1) := by decide +kernel
theorem dX12_roomBy_0 : decode cX12_roomBy 0 = .ok (.iload_n 1, 1) := by decide +kernel
theorem dX12_roomBy_1 : decode cX12_roomBy 1 = .ok (.iconst 2, 1) := by decide +kernel
theorem dX12_roomBy_2 : decode cX12_roomBy 2 = .ok (.aload_n 0, 1) := by decide +kernel
theorem dX12_roomBy_3 : decode cX12_roomBy 3 = .ok (.getfield 83, 3) := by decide +kernel
theorem dX12_roomBy_6 : decode cX12_roomBy 6 = .ok (.iconst 1, 1) := by decide +kernel
theorem dX12_roomBy_7 : decode cX12_roomBy 7 = .ok (.isub, 1) := by decide +kernel
theorem dX12_roomBy_8 : decode cX12_roomBy 8 = .ok (.iload_n 2, 1) := by decide +kernel
theorem dX12_roomBy_9 : decode cX12_roomBy 9 = .ok (.isub, 1) := by decide +kernel
theorem dX12_roomBy_10 : decode cX12_roomBy 10 = .ok (.imul, 1) := by decide +kernel
theorem dX12_roomBy_11 : decode cX12_roomBy 11 = .ok (.ishr, 1) := by decide +kernel
theorem dX12_roomBy_12 : decode cX12_roomBy 12 = .ok (.iconst 3, 1) := by decide +kernel
theorem dX12_roomBy_13 : decode cX12_roomBy 13 = .ok (.iand, 1) := by decide +kernel
theorem dX12_roomBy_14 : decode cX12_roomBy 14 = .ok (.ireturn, 1) := by decide +kernel
theorem dX12_movesBy_0 : decode cX12_movesBy 0 = .ok (.iconst 0, 1) := by decide +kernel
theorem dX12_movesBy_1 : decode cX12_movesBy 1 = .ok (.istore_n 2, 1) := by decide +kernel
theorem dX12_movesBy_2 : decode cX12_movesBy 2 = .ok (.iconst 0, 1) := by decide +kernel
theorem dX12_movesBy_3 : decode cX12_movesBy 3 = .ok (.istore_n 3, 1) := by decide +kernel
theorem dX12_movesBy_4 : decode cX12_movesBy 4 = .ok (.iload_n 3, 1) := by decide +kernel
theorem dX12_movesBy_5 : decode cX12_movesBy 5 = .ok (.aload_n 0, 1) := by decide +kernel
theorem dX12_movesBy_6 : decode cX12_movesBy 6 = .ok (.getfield 83, 3) := by decide +kernel
theorem dX12_movesBy_9 : decode cX12_movesBy 9 = .ok (.if_icmp .ge 32, 3) := by decide +kernel
theorem dX12_movesBy_12 : decode cX12_movesBy 12 = .ok (.iload_n 2, 1) := by decide +kernel
theorem dX12_movesBy_13 : decode cX12_movesBy 13 = .ok (.aload_n 0, 1) := by decide +kernel
theorem dX12_movesBy_14 : decode cX12_movesBy 14 = .ok (.iload_n 1, 1) := by decide +kernel
theorem dX12_movesBy_15 : decode cX12_movesBy 15 = .ok (.iload_n 3, 1) := by decide +kernel
theorem dX12_movesBy_16 : decode cX12_movesBy 16 = .ok (.invokevirtual 138, 3) := by decide +kernel
theorem dX12_movesBy_19 : decode cX12_movesBy 19 = .ok (.aload_n 0, 1) := by decide +kernel
theorem dX12_movesBy_20 : decode cX12_movesBy 20 = .ok (.getfield 16, 3) := by decide +kernel
theorem dX12_movesBy_23 : decode cX12_movesBy 23 = .ok (.iload_n 3, 1) := by decide +kernel
theorem dX12_movesBy_24 : decode cX12_movesBy 24 = .ok (.iaload, 1) := by decide +kernel
theorem dX12_movesBy_25 : decode cX12_movesBy 25 = .ok (.if_icmp .ne 7, 3) := by decide +kernel
theorem dX12_movesBy_28 : decode cX12_movesBy 28 = .ok (.iconst 0, 1) := by decide +kernel
theorem dX12_movesBy_29 : decode cX12_movesBy 29 = .ok (.goto 4, 3) := by decide +kernel
theorem dX12_movesBy_32 : decode cX12_movesBy 32 = .ok (.iconst 1, 1) := by decide +kernel
theorem dX12_movesBy_33 : decode cX12_movesBy 33 = .ok (.iadd, 1) := by decide +kernel
theorem dX12_movesBy_34 : decode cX12_movesBy 34 = .ok (.istore_n 2, 1) := by decide +kernel
theorem dX12_movesBy_35 : decode cX12_movesBy 35 = .ok (.iinc 3 1, 3) := by decide +kernel
theorem dX12_movesBy_38 : decode cX12_movesBy 38 = .ok (.goto (-34), 3) := by decide +kernel
theorem dX12_movesBy_41 : decode cX12_movesBy 41 = .ok (.iload_n 2, 1) := by decide +kernel
theorem dX12_movesBy_42 : decode cX12_movesBy 42 = .ok (.ireturn, 1) := by decide +kernel
theorem dX12_isWrittenIf_0 : decode cX12_isWrittenIf 0 = .ok (.iconst 0, 1) := by decide +kernel
theorem dX12_isWrittenIf_1 : decode cX12_isWrittenIf 1 = .ok (.istore_n 3, 1) := by decide +kernel
theorem dX12_isWrittenIf_2 : decode cX12_isWrittenIf 2 = .ok (.iconst 0, 1) := by decide +kernel
theorem dX12_isWrittenIf_3 : decode cX12_isWrittenIf 3 = .ok (.istore 4, 2) := by decide +kernel
theorem dX12_isWrittenIf_5 : decode cX12_isWrittenIf 5 = .ok (.iload 4, 2) := by decide +kernel
theorem dX12_isWrittenIf_7 : decode cX12_isWrittenIf 7 = .ok (.aload_n 0, 1) := by decide +kernel
theorem dX12_isWrittenIf_8 : decode cX12_isWrittenIf 8 = .ok (.getfield 83, 3) := by decide +kernel
theorem dX12_isWrittenIf_11 : decode cX12_isWrittenIf 11 = .ok (.if_icmp .ge 36, 3) := by decide +kernel
theorem dX12_isWrittenIf_14 : decode cX12_isWrittenIf 14 = .ok (.iload_n 3, 1) := by decide +kernel
theorem dX12_isWrittenIf_15 : decode cX12_isWrittenIf 15 = .ok (.aload_n 0, 1) := by decide +kernel
theorem dX12_isWrittenIf_16 : decode cX12_isWrittenIf 16 = .ok (.iload_n 2, 1) := by decide +kernel
theorem dX12_isWrittenIf_17 : decode cX12_isWrittenIf 17 = .ok (.iload 4, 2) := by decide +kernel
theorem dX12_isWrittenIf_19 : decode cX12_isWrittenIf 19 = .ok (.invokevirtual 138, 3) := by decide +kernel
theorem dX12_isWrittenIf_22 : decode cX12_isWrittenIf 22 = .ok (.aload_n 0, 1) := by decide +kernel
theorem dX12_isWrittenIf_23 : decode cX12_isWrittenIf 23 = .ok (.iload_n 2, 1) := by decide +kernel
theorem dX12_isWrittenIf_24 : decode cX12_isWrittenIf 24 = .ok (.iload_n 1, 1) := by decide +kernel
theorem dX12_isWrittenIf_25 : decode cX12_isWrittenIf 25 = .ok (.invokevirtual 138, 3) := by decide +kernel
theorem dX12_isWrittenIf_28 : decode cX12_isWrittenIf 28 = .ok (.if_icmp .ne 10, 3) := by decide +kernel
theorem dX12_isWrittenIf_31 : decode cX12_isWrittenIf 31 = .ok (.iconst 1, 1) := by decide +kernel
theorem dX12_isWrittenIf_32 : decode cX12_isWrittenIf 32 = .ok (.iload 4, 2) := by decide +kernel
theorem dX12_isWrittenIf_34 : decode cX12_isWrittenIf 34 = .ok (.ishl, 1) := by decide +kernel
theorem dX12_isWrittenIf_35 : decode cX12_isWrittenIf 35 = .ok (.goto 4, 3) := by decide +kernel
theorem dX12_isWrittenIf_38 : decode cX12_isWrittenIf 38 = .ok (.iconst 0, 1) := by decide +kernel
theorem dX12_isWrittenIf_39 : decode cX12_isWrittenIf 39 = .ok (.ior, 1) := by decide +kernel
theorem dX12_isWrittenIf_40 : decode cX12_isWrittenIf 40 = .ok (.istore_n 3, 1) := by decide +kernel
theorem dX12_isWrittenIf_41 : decode cX12_isWrittenIf 41 = .ok (.iinc 4 1, 3) := by decide +kernel
theorem dX12_isWrittenIf_44 : decode cX12_isWrittenIf 44 = .ok (.goto (-39), 3) := by decide +kernel
theorem dX12_isWrittenIf_47 : decode cX12_isWrittenIf 47 = .ok (.aload_n 0, 1) := by decide +kernel
theorem dX12_isWrittenIf_48 : decode cX12_isWrittenIf 48 = .ok (.iload_n 1, 1) := by decide +kernel
theorem dX12_isWrittenIf_49 : decode cX12_isWrittenIf 49 = .ok (.iload_n 3, 1) := by decide +kernel
theorem dX12_isWrittenIf_50 : decode cX12_isWrittenIf 50 = .ok (.invokevirtual 112, 3) := by decide +kernel
theorem dX12_isWrittenIf_53 : decode cX12_isWrittenIf 53 = .ok (.ireturn, 1) := by decide +kernel
theorem dX12_movesNow_0 : decode cX12_movesNow 0 = .ok (.iconst (-1), 1) := by decide +kernel
theorem dX12_movesNow_1 : decode cX12_movesNow 1 = .ok (.istore_n 3, 1) := by decide +kernel
theorem dX12_movesNow_2 : decode cX12_movesNow 2 = .ok (.ldc 141, 2) := by decide +kernel
theorem dX12_movesNow_4 : decode cX12_movesNow 4 = .ok (.istore 4, 2) := by decide +kernel
theorem dX12_movesNow_6 : decode cX12_movesNow 6 = .ok (.iconst 0, 1) := by decide +kernel
theorem dX12_movesNow_7 : decode cX12_movesNow 7 = .ok (.istore 5, 2) := by decide +kernel
theorem dX12_movesNow_9 : decode cX12_movesNow 9 = .ok (.iload 5, 2) := by decide +kernel
theorem dX12_movesNow_11 : decode cX12_movesNow 11 = .ok (.iconst 1, 1) := by decide +kernel
theorem dX12_movesNow_12 : decode cX12_movesNow 12 = .ok (.iconst 2, 1) := by decide +kernel
theorem dX12_movesNow_13 : decode cX12_movesNow 13 = .ok (.aload_n 0, 1) := by decide +kernel
theorem dX12_movesNow_14 : decode cX12_movesNow 14 = .ok (.getfield 83, 3) := by decide +kernel
theorem dX12_movesNow_17 : decode cX12_movesNow 17 = .ok (.imul, 1) := by decide +kernel
theorem dX12_movesNow_18 : decode cX12_movesNow 18 = .ok (.ishl, 1) := by decide +kernel
theorem dX12_movesNow_19 : decode cX12_movesNow 19 = .ok (.if_icmp .ge 67, 3) := by decide +kernel
theorem dX12_movesNow_22 : decode cX12_movesNow 22 = .ok (.aload_n 0, 1) := by decide +kernel
theorem dX12_movesNow_23 : decode cX12_movesNow 23 = .ok (.iload 5, 2) := by decide +kernel
theorem dX12_movesNow_25 : decode cX12_movesNow 25 = .ok (.invokevirtual 142, 3) := by decide +kernel
theorem dX12_movesNow_28 : decode cX12_movesNow 28 = .ok (.iload 4, 2) := by decide +kernel
theorem dX12_movesNow_30 : decode cX12_movesNow 30 = .ok (.if_icmp .ge 17, 3) := by decide +kernel
theorem dX12_movesNow_33 : decode cX12_movesNow 33 = .ok (.aload_n 0, 1) := by decide +kernel
theorem dX12_movesNow_34 : decode cX12_movesNow 34 = .ok (.iload_n 1, 1) := by decide +kernel
theorem dX12_movesNow_35 : decode cX12_movesNow 35 = .ok (.iload 5, 2) := by decide +kernel
theorem dX12_movesNow_37 : decode cX12_movesNow 37 = .ok (.invokevirtual 145, 3) := by decide +kernel
theorem dX12_movesNow_40 : decode cX12_movesNow 40 = .ok (.ifCond .eq 7, 3) := by decide +kernel
theorem dX12_movesNow_43 : decode cX12_movesNow 43 = .ok (.iconst 1, 1) := by decide +kernel
theorem dX12_movesNow_44 : decode cX12_movesNow 44 = .ok (.goto 4, 3) := by decide +kernel
theorem dX12_movesNow_47 : decode cX12_movesNow 47 = .ok (.iconst 0, 1) := by decide +kernel
theorem dX12_movesNow_48 : decode cX12_movesNow 48 = .ok (.istore 6, 2) := by decide +kernel
theorem dX12_movesNow_50 : decode cX12_movesNow 50 = .ok (.iload 6, 2) := by decide +kernel
theorem dX12_movesNow_52 : decode cX12_movesNow 52 = .ok (.ifCond .eq 8, 3) := by decide +kernel
theorem dX12_movesNow_55 : decode cX12_movesNow 55 = .ok (.iload 5, 2) := by decide +kernel
theorem dX12_movesNow_57 : decode cX12_movesNow 57 = .ok (.goto 4, 3) := by decide +kernel
theorem dX12_movesNow_60 : decode cX12_movesNow 60 = .ok (.iload_n 3, 1) := by decide +kernel
theorem dX12_movesNow_61 : decode cX12_movesNow 61 = .ok (.istore_n 3, 1) := by decide +kernel
theorem dX12_movesNow_62 : decode cX12_movesNow 62 = .ok (.iload 6, 2) := by decide +kernel
theorem dX12_movesNow_64 : decode cX12_movesNow 64 = .ok (.ifCond .eq 12, 3) := by decide +kernel
theorem dX12_movesNow_67 : decode cX12_movesNow 67 = .ok (.aload_n 0, 1) := by decide +kernel
theorem dX12_movesNow_68 : decode cX12_movesNow 68 = .ok (.iload 5, 2) := by decide +kernel
theorem dX12_movesNow_70 : decode cX12_movesNow 70 = .ok (.invokevirtual 142, 3) := by decide +kernel
theorem dX12_movesNow_73 : decode cX12_movesNow 73 = .ok (.goto 5, 3) := by decide +kernel
theorem dX12_movesNow_76 : decode cX12_movesNow 76 = .ok (.iload 4, 2) := by decide +kernel
theorem dX12_movesNow_78 : decode cX12_movesNow 78 = .ok (.istore 4, 2) := by decide +kernel
theorem dX12_movesNow_80 : decode cX12_movesNow 80 = .ok (.iinc 5 1, 3) := by decide +kernel
theorem dX12_movesNow_83 : decode cX12_movesNow 83 = .ok (.goto (-74), 3) := by decide +kernel
theorem dX12_movesNow_86 : decode cX12_movesNow 86 = .ok (.iload_n 3, 1) := by decide +kernel
theorem dX12_movesNow_87 : decode cX12_movesNow 87 = .ok (.iconst (-1), 1) := by decide +kernel
theorem dX12_movesNow_88 : decode cX12_movesNow 88 = .ok (.if_icmp .ne 5, 3) := by decide +kernel
theorem dX12_movesNow_91 : decode cX12_movesNow 91 = .ok (.iconst (-1), 1) := by decide +kernel
theorem dX12_movesNow_92 : decode cX12_movesNow 92 = .ok (.ireturn, 1) := by decide +kernel
theorem dX12_movesNow_93 : decode cX12_movesNow 93 = .ok (.iload_n 2, 1) := by decide +kernel
theorem dX12_movesNow_94 : decode cX12_movesNow 94 = .ok (.ifCond .ne 8, 3) := by decide +kernel
theorem dX12_movesNow_97 : decode cX12_movesNow 97 = .ok (.iload 4, 2) := by decide +kernel
theorem dX12_movesNow_99 : decode cX12_movesNow 99 = .ok (.goto 27, 3) := by decide +kernel
theorem dX12_movesNow_102 : decode cX12_movesNow 102 = .ok (.aload_n 0, 1) := by decide +kernel
theorem dX12_movesNow_103 : decode cX12_movesNow 103 = .ok (.iload_n 2, 1) := by decide +kernel
theorem dX12_movesNow_104 : decode cX12_movesNow 104 = .ok (.bipush 10, 2) := by decide +kernel
theorem dX12_movesNow_106 : decode cX12_movesNow 106 = .ok (.isub, 1) := by decide +kernel
theorem dX12_movesNow_107 : decode cX12_movesNow 107 = .ok (.invokevirtual 124, 3) := by decide +kernel
theorem dX12_movesNow_110 : decode cX12_movesNow 110 = .ok (.ifCond .eq 15, 3) := by decide +kernel
theorem dX12_movesNow_113 : decode cX12_movesNow 113 = .ok (.aload_n 0, 1) := by decide +kernel
theorem dX12_movesNow_114 : decode cX12_movesNow 114 = .ok (.iload_n 3, 1) := by decide +kernel
theorem dX12_movesNow_115 : decode cX12_movesNow 115 = .ok (.iload_n 2, 1) := by decide +kernel
theorem dX12_movesNow_116 : decode cX12_movesNow 116 = .ok (.bipush 10, 2) := by decide +kernel
theorem dX12_movesNow_118 : decode cX12_movesNow 118 = .ok (.isub, 1) := by decide +kernel
theorem dX12_movesNow_119 : decode cX12_movesNow 119 = .ok (.invokevirtual 138, 3) := by decide +kernel
theorem dX12_movesNow_122 : decode cX12_movesNow 122 = .ok (.goto 4, 3) := by decide +kernel
theorem dX12_movesNow_125 : decode cX12_movesNow 125 = .ok (.iconst (-1), 1) := by decide +kernel
theorem dX12_movesNow_126 : decode cX12_movesNow 126 = .ok (.ireturn, 1) := by decide +kernel
theorem dX12_moves_0 : decode cX12_moves 0 = .ok (.aload_n 0, 1) := by decide +kernel
theorem dX12_moves_1 : decode cX12_moves 1 = .ok (.iload_n 1, 1) := by decide +kernel
theorem dX12_moves_2 : decode cX12_moves 2 = .ok (.invokevirtual 124, 3) := by decide +kernel
theorem dX12_moves_5 : decode cX12_moves 5 = .ok (.ifCond .ne 6, 3) := by decide +kernel
theorem dX12_moves_8 : decode cX12_moves 8 = .ok (.bipush (-101), 2) := by decide +kernel
theorem dX12_moves_10 : decode cX12_moves 10 = .ok (.ireturn, 1) := by decide +kernel
theorem dX12_moves_11 : decode cX12_moves 11 = .ok (.iload_n 2, 1) := by decide +kernel
theorem dX12_moves_12 : decode cX12_moves 12 = .ok (.ifCond .eq 17, 3) := by decide +kernel
theorem dX12_moves_15 : decode cX12_moves 15 = .ok (.iload_n 2, 1) := by decide +kernel
theorem dX12_moves_16 : decode cX12_moves 16 = .ok (.bipush 10, 2) := by decide +kernel
theorem dX12_moves_18 : decode cX12_moves 18 = .ok (.bipush 14, 2) := by decide +kernel
theorem dX12_moves_20 : decode cX12_moves 20 = .ok (.invokestatic 59, 3) := by decide +kernel
theorem dX12_moves_23 : decode cX12_moves 23 = .ok (.ifCond .ne 6, 3) := by decide +kernel
theorem dX12_moves_26 : decode cX12_moves 26 = .ok (.bipush (-102), 2) := by decide +kernel
theorem dX12_moves_28 : decode cX12_moves 28 = .ok (.ireturn, 1) := by decide +kernel
theorem dX12_moves_29 : decode cX12_moves 29 = .ok (.aload_n 0, 1) := by decide +kernel
theorem dX12_moves_30 : decode cX12_moves 30 = .ok (.getfield 148, 3) := by decide +kernel
theorem dX12_moves_33 : decode cX12_moves 33 = .ok (.bipush 40, 2) := by decide +kernel
theorem dX12_moves_35 : decode cX12_moves 35 = .ok (.if_icmp .ne 6, 3) := by decide +kernel
theorem dX12_moves_38 : decode cX12_moves 38 = .ok (.bipush (-103), 2) := by decide +kernel
theorem dX12_moves_40 : decode cX12_moves 40 = .ok (.ireturn, 1) := by decide +kernel
theorem dX12_moves_41 : decode cX12_moves 41 = .ok (.aload_n 0, 1) := by decide +kernel
theorem dX12_moves_42 : decode cX12_moves 42 = .ok (.dup, 1) := by decide +kernel
theorem dX12_moves_43 : decode cX12_moves 43 = .ok (.getfield 148, 3) := by decide +kernel
theorem dX12_moves_46 : decode cX12_moves 46 = .ok (.iconst 1, 1) := by decide +kernel
theorem dX12_moves_47 : decode cX12_moves 47 = .ok (.iadd, 1) := by decide +kernel
theorem dX12_moves_48 : decode cX12_moves 48 = .ok (.putfield 148, 3) := by decide +kernel
theorem dX12_moves_51 : decode cX12_moves 51 = .ok (.aload_n 0, 1) := by decide +kernel
theorem dX12_moves_52 : decode cX12_moves 52 = .ok (.iload_n 1, 1) := by decide +kernel
theorem dX12_moves_53 : decode cX12_moves 53 = .ok (.iload_n 2, 1) := by decide +kernel
theorem dX12_moves_54 : decode cX12_moves 54 = .ok (.invokevirtual 151, 3) := by decide +kernel
theorem dX12_moves_57 : decode cX12_moves 57 = .ok (.ireturn, 1) := by decide +kernel
theorem dX12_layWritten_0 : decode cX12_layWritten 0 = .ok (.iconst 0, 1) := by decide +kernel
theorem dX12_layWritten_1 : decode cX12_layWritten 1 = .ok (.istore_n 1, 1) := by decide +kernel
theorem dX12_layWritten_2 : decode cX12_layWritten 2 = .ok (.iload_n 1, 1) := by decide +kernel
theorem dX12_layWritten_3 : decode cX12_layWritten 3 = .ok (.iconst 1, 1) := by decide +kernel
theorem dX12_layWritten_4 : decode cX12_layWritten 4 = .ok (.aload_n 0, 1) := by decide +kernel
theorem dX12_layWritten_5 : decode cX12_layWritten 5 = .ok (.getfield 83, 3) := by decide +kernel
theorem dX12_layWritten_8 : decode cX12_layWritten 8 = .ok (.ishl, 1) := by decide +kernel
theorem dX12_layWritten_9 : decode cX12_layWritten 9 = .ok (.if_icmp .ge 65, 3) := by decide +kernel
theorem dX12_layWritten_12 : decode cX12_layWritten 12 = .ok (.aload_n 0, 1) := by decide +kernel
theorem dX12_layWritten_13 : decode cX12_layWritten 13 = .ok (.getfield 35, 3) := by decide +kernel
theorem dX12_layWritten_16 : decode cX12_layWritten 16 = .ok (.iload_n 1, 1) := by decide +kernel
theorem dX12_layWritten_17 : decode cX12_layWritten 17 = .ok (.iconst 0, 1) := by decide +kernel
theorem dX12_layWritten_18 : decode cX12_layWritten 18 = .ok (.iastore, 1) := by decide +kernel
theorem dX12_layWritten_19 : decode cX12_layWritten 19 = .ok (.iconst 0, 1) := by decide +kernel
theorem dX12_layWritten_20 : decode cX12_layWritten 20 = .ok (.istore_n 2, 1) := by decide +kernel
theorem dX12_layWritten_21 : decode cX12_layWritten 21 = .ok (.iload_n 2, 1) := by decide +kernel
theorem dX12_layWritten_22 : decode cX12_layWritten 22 = .ok (.aload_n 0, 1) := by decide +kernel
theorem dX12_layWritten_23 : decode cX12_layWritten 23 = .ok (.getfield 83, 3) := by decide +kernel
theorem dX12_layWritten_26 : decode cX12_layWritten 26 = .ok (.if_icmp .ge 42, 3) := by decide +kernel
theorem dX12_layWritten_29 : decode cX12_layWritten 29 = .ok (.aload_n 0, 1) := by decide +kernel
theorem dX12_layWritten_30 : decode cX12_layWritten 30 = .ok (.getfield 35, 3) := by decide +kernel
theorem dX12_layWritten_33 : decode cX12_layWritten 33 = .ok (.iload_n 1, 1) := by decide +kernel
theorem dX12_layWritten_34 : decode cX12_layWritten 34 = .ok (.dup2, 1) := by decide +kernel
theorem dX12_layWritten_35 : decode cX12_layWritten 35 = .ok (.iaload, 1) := by decide +kernel
theorem dX12_layWritten_36 : decode cX12_layWritten 36 = .ok (.iload_n 1, 1) := by decide +kernel
theorem dX12_layWritten_37 : decode cX12_layWritten 37 = .ok (.iload_n 2, 1) := by decide +kernel
theorem dX12_layWritten_38 : decode cX12_layWritten 38 = .ok (.invokestatic 98, 3) := by decide +kernel
theorem dX12_layWritten_41 : decode cX12_layWritten 41 = .ok (.ifCond .eq 18, 3) := by decide +kernel
theorem dX12_layWritten_44 : decode cX12_layWritten 44 = .ok (.aload_n 0, 1) := by decide +kernel
theorem dX12_layWritten_45 : decode cX12_layWritten 45 = .ok (.iload_n 2, 1) := by decide +kernel
theorem dX12_layWritten_46 : decode cX12_layWritten 46 = .ok (.iload_n 1, 1) := by decide +kernel
theorem dX12_layWritten_47 : decode cX12_layWritten 47 = .ok (.invokevirtual 112, 3) := by decide +kernel
theorem dX12_layWritten_50 : decode cX12_layWritten 50 = .ok (.ifCond .eq 9, 3) := by decide +kernel
theorem dX12_layWritten_53 : decode cX12_layWritten 53 = .ok (.iconst 1, 1) := by decide +kernel
theorem dX12_layWritten_54 : decode cX12_layWritten 54 = .ok (.iload_n 2, 1) := by decide +kernel
theorem dX12_layWritten_55 : decode cX12_layWritten 55 = .ok (.ishl, 1) := by decide +kernel
theorem dX12_layWritten_56 : decode cX12_layWritten 56 = .ok (.goto 4, 3) := by decide +kernel
theorem dX12_layWritten_59 : decode cX12_layWritten 59 = .ok (.iconst 0, 1) := by decide +kernel
theorem dX12_layWritten_60 : decode cX12_layWritten 60 = .ok (.ior, 1) := by decide +kernel
theorem dX12_layWritten_61 : decode cX12_layWritten 61 = .ok (.iastore, 1) := by decide +kernel
theorem dX12_layWritten_62 : decode cX12_layWritten 62 = .ok (.iinc 2 1, 3) := by decide +kernel
theorem dX12_layWritten_65 : decode cX12_layWritten 65 = .ok (.goto (-44), 3) := by decide +kernel
theorem dX12_layWritten_68 : decode cX12_layWritten 68 = .ok (.iinc 1 1, 3) := by decide +kernel
theorem dX12_layWritten_71 : decode cX12_layWritten 71 = .ok (.goto (-69), 3) := by decide +kernel
theorem dX12_layWritten_74 : decode cX12_layWritten 74 = .ok (.return_, 1) := by decide +kernel
theorem dX12_writtenBy_0 : decode cX12_writtenBy 0 = .ok (.iconst 0, 1) := by decide +kernel
theorem dX12_writtenBy_1 : decode cX12_writtenBy 1 = .ok (.istore_n 3, 1) := by decide +kernel
theorem dX12_writtenBy_2 : decode cX12_writtenBy 2 = .ok (.iconst 0, 1) := by decide +kernel
theorem dX12_writtenBy_3 : decode cX12_writtenBy 3 = .ok (.istore 4, 2) := by decide +kernel
theorem dX12_writtenBy_5 : decode cX12_writtenBy 5 = .ok (.iload_n 1, 1) := by decide +kernel
theorem dX12_writtenBy_6 : decode cX12_writtenBy 6 = .ok (.iconst 1, 1) := by decide +kernel
theorem dX12_writtenBy_7 : decode cX12_writtenBy 7 = .ok (.isub, 1) := by decide +kernel
theorem dX12_writtenBy_8 : decode cX12_writtenBy 8 = .ok (.istore 5, 2) := by decide +kernel
theorem dX12_writtenBy_10 : decode cX12_writtenBy 10 = .ok (.iload 5, 2) := by decide +kernel
theorem dX12_writtenBy_12 : decode cX12_writtenBy 12 = .ok (.ifCond .lt 54, 3) := by decide +kernel
theorem dX12_writtenBy_15 : decode cX12_writtenBy 15 = .ok (.iload_n 2, 1) := by decide +kernel
theorem dX12_writtenBy_16 : decode cX12_writtenBy 16 = .ok (.iconst 5, 1) := by decide +kernel
theorem dX12_writtenBy_17 : decode cX12_writtenBy 17 = .ok (.iload 5, 2) := by decide +kernel
theorem dX12_writtenBy_19 : decode cX12_writtenBy 19 = .ok (.imul, 1) := by decide +kernel
theorem dX12_writtenBy_20 : decode cX12_writtenBy 20 = .ok (.ishr, 1) := by decide +kernel
theorem dX12_writtenBy_21 : decode cX12_writtenBy 21 = .ok (.bipush 31, 2) := by decide +kernel
theorem dX12_writtenBy_23 : decode cX12_writtenBy 23 = .ok (.iand, 1) := by decide +kernel
theorem dX12_writtenBy_24 : decode cX12_writtenBy 24 = .ok (.istore 6, 2) := by decide +kernel
theorem dX12_writtenBy_26 : decode cX12_writtenBy 26 = .ok (.iload 6, 2) := by decide +kernel
theorem dX12_writtenBy_28 : decode cX12_writtenBy 28 = .ok (.iconst 1, 1) := by decide +kernel
theorem dX12_writtenBy_29 : decode cX12_writtenBy 29 = .ok (.aload_n 0, 1) := by decide +kernel
theorem dX12_writtenBy_30 : decode cX12_writtenBy 30 = .ok (.getfield 83, 3) := by decide +kernel
theorem dX12_writtenBy_33 : decode cX12_writtenBy 33 = .ok (.ishl, 1) := by decide +kernel
theorem dX12_writtenBy_34 : decode cX12_writtenBy 34 = .ok (.if_icmp .ge 10, 3) := by decide +kernel
theorem dX12_writtenBy_37 : decode cX12_writtenBy 37 = .ok (.iload 6, 2) := by decide +kernel
theorem dX12_writtenBy_39 : decode cX12_writtenBy 39 = .ok (.iload 4, 2) := by decide +kernel
theorem dX12_writtenBy_41 : decode cX12_writtenBy 41 = .ok (.if_icmp .ge 5, 3) := by decide +kernel
theorem dX12_writtenBy_44 : decode cX12_writtenBy 44 = .ok (.iconst 0, 1) := by decide +kernel
theorem dX12_writtenBy_45 : decode cX12_writtenBy 45 = .ok (.ireturn, 1) := by decide +kernel
theorem dX12_writtenBy_46 : decode cX12_writtenBy 46 = .ok (.iload_n 3, 1) := by decide +kernel
theorem dX12_writtenBy_47 : decode cX12_writtenBy 47 = .ok (.aload_n 0, 1) := by decide +kernel
theorem dX12_writtenBy_48 : decode cX12_writtenBy 48 = .ok (.getfield 35, 3) := by decide +kernel
theorem dX12_writtenBy_51 : decode cX12_writtenBy 51 = .ok (.iload 6, 2) := by decide +kernel
theorem dX12_writtenBy_53 : decode cX12_writtenBy 53 = .ok (.iaload, 1) := by decide +kernel
theorem dX12_writtenBy_54 : decode cX12_writtenBy 54 = .ok (.ior, 1) := by decide +kernel
theorem dX12_writtenBy_55 : decode cX12_writtenBy 55 = .ok (.istore_n 3, 1) := by decide +kernel
theorem dX12_writtenBy_56 : decode cX12_writtenBy 56 = .ok (.iload 6, 2) := by decide +kernel
theorem dX12_writtenBy_58 : decode cX12_writtenBy 58 = .ok (.istore 4, 2) := by decide +kernel
theorem dX12_writtenBy_60 : decode cX12_writtenBy 60 = .ok (.iinc 5 (-1), 3) := by decide +kernel
theorem dX12_writtenBy_63 : decode cX12_writtenBy 63 = .ok (.goto (-53), 3) := by decide +kernel
theorem dX12_writtenBy_66 : decode cX12_writtenBy 66 = .ok (.iload_n 3, 1) := by decide +kernel
theorem dX12_writtenBy_67 : decode cX12_writtenBy 67 = .ok (.ireturn, 1) := by decide +kernel
theorem dX12_daysNow_0 : decode cX12_daysNow 0 = .ok (.iload_n 1, 1) := by decide +kernel
theorem dX12_daysNow_1 : decode cX12_daysNow 1 = .ok (.ifCond .ne 13, 3) := by decide +kernel
theorem dX12_daysNow_4 : decode cX12_daysNow 4 = .ok (.iload_n 2, 1) := by decide +kernel
theorem dX12_daysNow_5 : decode cX12_daysNow 5 = .ok (.ifCond .ne 7, 3) := by decide +kernel
theorem dX12_daysNow_8 : decode cX12_daysNow 8 = .ok (.iconst 0, 1) := by decide +kernel
theorem dX12_daysNow_9 : decode cX12_daysNow 9 = .ok (.goto 4, 3) := by decide +kernel
theorem dX12_daysNow_12 : decode cX12_daysNow 12 = .ok (.iconst (-1), 1) := by decide +kernel
theorem dX12_daysNow_13 : decode cX12_daysNow 13 = .ok (.ireturn, 1) := by decide +kernel
theorem dX12_daysNow_14 : decode cX12_daysNow 14 = .ok (.aload_n 0, 1) := by decide +kernel
theorem dX12_daysNow_15 : decode cX12_daysNow 15 = .ok (.invokevirtual 154, 3) := by decide +kernel
theorem dX12_daysNow_18 : decode cX12_daysNow 18 = .ok (.iconst 1, 1) := by decide +kernel
theorem dX12_daysNow_19 : decode cX12_daysNow 19 = .ok (.istore_n 3, 1) := by decide +kernel
theorem dX12_daysNow_20 : decode cX12_daysNow 20 = .ok (.iload_n 3, 1) := by decide +kernel
theorem dX12_daysNow_21 : decode cX12_daysNow 21 = .ok (.iconst 3, 1) := by decide +kernel
theorem dX12_daysNow_22 : decode cX12_daysNow 22 = .ok (.if_icmp .gt 78, 3) := by decide +kernel
theorem dX12_daysNow_25 : decode cX12_daysNow 25 = .ok (.iconst 0, 1) := by decide +kernel
theorem dX12_daysNow_26 : decode cX12_daysNow 26 = .ok (.istore 4, 2) := by decide +kernel
theorem dX12_daysNow_28 : decode cX12_daysNow 28 = .ok (.iload 4, 2) := by decide +kernel
theorem dX12_daysNow_30 : decode cX12_daysNow 30 = .ok (.iconst 1, 1) := by decide +kernel
theorem dX12_daysNow_31 : decode cX12_daysNow 31 = .ok (.iconst 5, 1) := by decide +kernel
theorem dX12_daysNow_32 : decode cX12_daysNow 32 = .ok (.iload_n 3, 1) := by decide +kernel
theorem dX12_daysNow_33 : decode cX12_daysNow 33 = .ok (.imul, 1) := by decide +kernel
theorem dX12_daysNow_34 : decode cX12_daysNow 34 = .ok (.ishl, 1) := by decide +kernel
theorem dX12_daysNow_35 : decode cX12_daysNow 35 = .ok (.if_icmp .ge 59, 3) := by decide +kernel
theorem dX12_daysNow_38 : decode cX12_daysNow 38 = .ok (.aload_n 0, 1) := by decide +kernel
theorem dX12_daysNow_39 : decode cX12_daysNow 39 = .ok (.iload_n 3, 1) := by decide +kernel
theorem dX12_daysNow_40 : decode cX12_daysNow 40 = .ok (.iload 4, 2) := by decide +kernel
theorem dX12_daysNow_42 : decode cX12_daysNow 42 = .ok (.invokevirtual 157, 3) := by decide +kernel
theorem dX12_daysNow_45 : decode cX12_daysNow 45 = .ok (.iload_n 1, 1) := by decide +kernel
theorem dX12_daysNow_46 : decode cX12_daysNow 46 = .ok (.iand, 1) := by decide +kernel
theorem dX12_daysNow_47 : decode cX12_daysNow 47 = .ok (.iload_n 1, 1) := by decide +kernel
theorem dX12_daysNow_48 : decode cX12_daysNow 48 = .ok (.if_icmp .ne 40, 3) := by decide +kernel
theorem dX12_daysNow_51 : decode cX12_daysNow 51 = .ok (.iload_n 2, 1) := by decide +kernel
theorem dX12_daysNow_52 : decode cX12_daysNow 52 = .ok (.ifCond .ne 7, 3) := by decide +kernel
theorem dX12_daysNow_55 : decode cX12_daysNow 55 = .ok (.iload_n 3, 1) := by decide +kernel
theorem dX12_daysNow_56 : decode cX12_daysNow 56 = .ok (.goto 31, 3) := by decide +kernel
theorem dX12_daysNow_59 : decode cX12_daysNow 59 = .ok (.iload_n 2, 1) := by decide +kernel
theorem dX12_daysNow_60 : decode cX12_daysNow 60 = .ok (.bipush 10, 2) := by decide +kernel
theorem dX12_daysNow_62 : decode cX12_daysNow 62 = .ok (.isub, 1) := by decide +kernel
theorem dX12_daysNow_63 : decode cX12_daysNow 63 = .ok (.iload_n 3, 1) := by decide +kernel
theorem dX12_daysNow_64 : decode cX12_daysNow 64 = .ok (.if_icmp .ge 22, 3) := by decide +kernel
theorem dX12_daysNow_67 : decode cX12_daysNow 67 = .ok (.iload 4, 2) := by decide +kernel
theorem dX12_daysNow_69 : decode cX12_daysNow 69 = .ok (.iconst 5, 1) := by decide +kernel
theorem dX12_daysNow_70 : decode cX12_daysNow 70 = .ok (.iload_n 3, 1) := by decide +kernel
theorem dX12_daysNow_71 : decode cX12_daysNow 71 = .ok (.iconst 1, 1) := by decide +kernel
theorem dX12_daysNow_72 : decode cX12_daysNow 72 = .ok (.isub, 1) := by decide +kernel
theorem dX12_daysNow_73 : decode cX12_daysNow 73 = .ok (.iload_n 2, 1) := by decide +kernel
theorem dX12_daysNow_74 : decode cX12_daysNow 74 = .ok (.bipush 10, 2) := by decide +kernel
theorem dX12_daysNow_76 : decode cX12_daysNow 76 = .ok (.isub, 1) := by decide +kernel
theorem dX12_daysNow_77 : decode cX12_daysNow 77 = .ok (.isub, 1) := by decide +kernel
theorem dX12_daysNow_78 : decode cX12_daysNow 78 = .ok (.imul, 1) := by decide +kernel
theorem dX12_daysNow_79 : decode cX12_daysNow 79 = .ok (.ishr, 1) := by decide +kernel
theorem dX12_daysNow_80 : decode cX12_daysNow 80 = .ok (.bipush 31, 2) := by decide +kernel
theorem dX12_daysNow_82 : decode cX12_daysNow 82 = .ok (.iand, 1) := by decide +kernel
theorem dX12_daysNow_83 : decode cX12_daysNow 83 = .ok (.goto 4, 3) := by decide +kernel
theorem dX12_daysNow_86 : decode cX12_daysNow 86 = .ok (.iconst (-1), 1) := by decide +kernel
theorem dX12_daysNow_87 : decode cX12_daysNow 87 = .ok (.ireturn, 1) := by decide +kernel
theorem dX12_daysNow_88 : decode cX12_daysNow 88 = .ok (.iinc 4 1, 3) := by decide +kernel
theorem dX12_daysNow_91 : decode cX12_daysNow 91 = .ok (.goto (-63), 3) := by decide +kernel
theorem dX12_daysNow_94 : decode cX12_daysNow 94 = .ok (.iinc 3 1, 3) := by decide +kernel
theorem dX12_daysNow_97 : decode cX12_daysNow 97 = .ok (.goto (-77), 3) := by decide +kernel
theorem dX12_daysNow_100 : decode cX12_daysNow 100 = .ok (.iconst (-1), 1) := by decide +kernel
theorem dX12_daysNow_101 : decode cX12_daysNow 101 = .ok (.ireturn, 1) := by decide +kernel
theorem dX12_days_0 : decode cX12_days 0 = .ok (.aload_n 0, 1) := by decide +kernel
theorem dX12_days_1 : decode cX12_days 1 = .ok (.iload_n 1, 1) := by decide +kernel
theorem dX12_days_2 : decode cX12_days 2 = .ok (.invokevirtual 135, 3) := by decide +kernel
theorem dX12_days_5 : decode cX12_days 5 = .ok (.ifCond .eq 18, 3) := by decide +kernel
theorem dX12_days_8 : decode cX12_days 8 = .ok (.iload_n 2, 1) := by decide +kernel
theorem dX12_days_9 : decode cX12_days 9 = .ok (.ifCond .eq 17, 3) := by decide +kernel
theorem dX12_days_12 : decode cX12_days 12 = .ok (.iload_n 2, 1) := by decide +kernel
theorem dX12_days_13 : decode cX12_days 13 = .ok (.bipush 10, 2) := by decide +kernel
theorem dX12_days_15 : decode cX12_days 15 = .ok (.bipush 12, 2) := by decide +kernel
theorem dX12_days_17 : decode cX12_days 17 = .ok (.invokestatic 59, 3) := by decide +kernel
theorem dX12_days_20 : decode cX12_days 20 = .ok (.ifCond .ne 6, 3) := by decide +kernel
theorem dX12_days_23 : decode cX12_days 23 = .ok (.bipush (-102), 2) := by decide +kernel
theorem dX12_days_25 : decode cX12_days 25 = .ok (.ireturn, 1) := by decide +kernel
theorem dX12_days_26 : decode cX12_days 26 = .ok (.aload_n 0, 1) := by decide +kernel
theorem dX12_days_27 : decode cX12_days 27 = .ok (.getfield 83, 3) := by decide +kernel
theorem dX12_days_30 : decode cX12_days 30 = .ok (.ifCond .eq 12, 3) := by decide +kernel
theorem dX12_days_33 : decode cX12_days 33 = .ok (.aload_n 0, 1) := by decide +kernel
theorem dX12_days_34 : decode cX12_days 34 = .ok (.getfield 160, 3) := by decide +kernel
theorem dX12_days_37 : decode cX12_days 37 = .ok (.bipush 40, 2) := by decide +kernel
theorem dX12_days_39 : decode cX12_days 39 = .ok (.if_icmp .ne 6, 3) := by decide +kernel
theorem dX12_days_42 : decode cX12_days 42 = .ok (.bipush (-103), 2) := by decide +kernel
theorem dX12_days_44 : decode cX12_days 44 = .ok (.ireturn, 1) := by decide +kernel
theorem dX12_days_45 : decode cX12_days 45 = .ok (.aload_n 0, 1) := by decide +kernel
theorem dX12_days_46 : decode cX12_days 46 = .ok (.dup, 1) := by decide +kernel
theorem dX12_days_47 : decode cX12_days 47 = .ok (.getfield 160, 3) := by decide +kernel
theorem dX12_days_50 : decode cX12_days 50 = .ok (.iconst 1, 1) := by decide +kernel
theorem dX12_days_51 : decode cX12_days 51 = .ok (.iadd, 1) := by decide +kernel
theorem dX12_days_52 : decode cX12_days 52 = .ok (.putfield 160, 3) := by decide +kernel
theorem dX12_days_55 : decode cX12_days 55 = .ok (.aload_n 0, 1) := by decide +kernel
theorem dX12_days_56 : decode cX12_days 56 = .ok (.iload_n 1, 1) := by decide +kernel
theorem dX12_days_57 : decode cX12_days 57 = .ok (.iload_n 2, 1) := by decide +kernel
theorem dX12_days_58 : decode cX12_days 58 = .ok (.invokevirtual 163, 3) := by decide +kernel
theorem dX12_days_61 : decode cX12_days 61 = .ok (.ireturn, 1) := by decide +kernel
theorem dX12_hear_0 : decode cX12_hear 0 = .ok (.aload_n 0, 1) := by decide +kernel
theorem dX12_hear_1 : decode cX12_hear 1 = .ok (.iload_n 1, 1) := by decide +kernel
theorem dX12_hear_2 : decode cX12_hear 2 = .ok (.invokevirtual 124, 3) := by decide +kernel
theorem dX12_hear_5 : decode cX12_hear 5 = .ok (.ifCond .ne 6, 3) := by decide +kernel
theorem dX12_hear_8 : decode cX12_hear 8 = .ok (.bipush (-101), 2) := by decide +kernel
theorem dX12_hear_10 : decode cX12_hear 10 = .ok (.ireturn, 1) := by decide +kernel
theorem dX12_hear_11 : decode cX12_hear 11 = .ok (.aload_n 0, 1) := by decide +kernel
theorem dX12_hear_12 : decode cX12_hear 12 = .ok (.iload_n 2, 1) := by decide +kernel
theorem dX12_hear_13 : decode cX12_hear 13 = .ok (.invokevirtual 135, 3) := by decide +kernel
theorem dX12_hear_16 : decode cX12_hear 16 = .ok (.ifCond .eq 11, 3) := by decide +kernel
theorem dX12_hear_19 : decode cX12_hear 19 = .ok (.iload_n 2, 1) := by decide +kernel
theorem dX12_hear_20 : decode cX12_hear 20 = .ok (.iload_n 1, 1) := by decide +kernel
theorem dX12_hear_21 : decode cX12_hear 21 = .ok (.invokestatic 98, 3) := by decide +kernel
theorem dX12_hear_24 : decode cX12_hear 24 = .ok (.ifCond .ne 6, 3) := by decide +kernel
theorem dX12_hear_27 : decode cX12_hear 27 = .ok (.bipush (-102), 2) := by decide +kernel
theorem dX12_hear_29 : decode cX12_hear 29 = .ok (.ireturn, 1) := by decide +kernel
theorem dX12_hear_30 : decode cX12_hear 30 = .ok (.aload_n 0, 1) := by decide +kernel
theorem dX12_hear_31 : decode cX12_hear 31 = .ok (.getfield 95, 3) := by decide +kernel
theorem dX12_hear_34 : decode cX12_hear 34 = .ok (.bipush 6, 2) := by decide +kernel
theorem dX12_hear_36 : decode cX12_hear 36 = .ok (.if_icmp .ne 6, 3) := by decide +kernel
theorem dX12_hear_39 : decode cX12_hear 39 = .ok (.bipush (-104), 2) := by decide +kernel
theorem dX12_hear_41 : decode cX12_hear 41 = .ok (.ireturn, 1) := by decide +kernel
theorem dX12_hear_42 : decode cX12_hear 42 = .ok (.aload_n 0, 1) := by decide +kernel
theorem dX12_hear_43 : decode cX12_hear 43 = .ok (.getfield 22, 3) := by decide +kernel
theorem dX12_hear_46 : decode cX12_hear 46 = .ok (.aload_n 0, 1) := by decide +kernel
theorem dX12_hear_47 : decode cX12_hear 47 = .ok (.getfield 95, 3) := by decide +kernel
theorem dX12_hear_50 : decode cX12_hear 50 = .ok (.iload_n 1, 1) := by decide +kernel
theorem dX12_hear_51 : decode cX12_hear 51 = .ok (.iastore, 1) := by decide +kernel
theorem dX12_hear_52 : decode cX12_hear 52 = .ok (.aload_n 0, 1) := by decide +kernel
theorem dX12_hear_53 : decode cX12_hear 53 = .ok (.getfield 25, 3) := by decide +kernel
theorem dX12_hear_56 : decode cX12_hear 56 = .ok (.aload_n 0, 1) := by decide +kernel
theorem dX12_hear_57 : decode cX12_hear 57 = .ok (.getfield 95, 3) := by decide +kernel
theorem dX12_hear_60 : decode cX12_hear 60 = .ok (.iload_n 2, 1) := by decide +kernel
theorem dX12_hear_61 : decode cX12_hear 61 = .ok (.iastore, 1) := by decide +kernel
theorem dX12_hear_62 : decode cX12_hear 62 = .ok (.aload_n 0, 1) := by decide +kernel
theorem dX12_hear_63 : decode cX12_hear 63 = .ok (.getfield 28, 3) := by decide +kernel
theorem dX12_hear_66 : decode cX12_hear 66 = .ok (.aload_n 0, 1) := by decide +kernel
theorem dX12_hear_67 : decode cX12_hear 67 = .ok (.getfield 95, 3) := by decide +kernel
theorem dX12_hear_70 : decode cX12_hear 70 = .ok (.iload_n 3, 1) := by decide +kernel
theorem dX12_hear_71 : decode cX12_hear 71 = .ok (.ifCond .eq 7, 3) := by decide +kernel
theorem dX12_hear_74 : decode cX12_hear 74 = .ok (.iconst 1, 1) := by decide +kernel
theorem dX12_hear_75 : decode cX12_hear 75 = .ok (.goto 4, 3) := by decide +kernel
theorem dX12_hear_78 : decode cX12_hear 78 = .ok (.iconst 0, 1) := by decide +kernel
theorem dX12_hear_79 : decode cX12_hear 79 = .ok (.iastore, 1) := by decide +kernel
theorem dX12_hear_80 : decode cX12_hear 80 = .ok (.aload_n 0, 1) := by decide +kernel
theorem dX12_hear_81 : decode cX12_hear 81 = .ok (.dup, 1) := by decide +kernel
theorem dX12_hear_82 : decode cX12_hear 82 = .ok (.getfield 95, 3) := by decide +kernel
theorem dX12_hear_85 : decode cX12_hear 85 = .ok (.iconst 1, 1) := by decide +kernel
theorem dX12_hear_86 : decode cX12_hear 86 = .ok (.iadd, 1) := by decide +kernel
theorem dX12_hear_87 : decode cX12_hear 87 = .ok (.putfield 95, 3) := by decide +kernel
theorem dX12_hear_90 : decode cX12_hear 90 = .ok (.aload_n 0, 1) := by decide +kernel
theorem dX12_hear_91 : decode cX12_hear 91 = .ok (.getfield 95, 3) := by decide +kernel
theorem dX12_hear_94 : decode cX12_hear 94 = .ok (.ireturn, 1) := by decide +kernel
theorem dX12_forget_0 : decode cX12_forget 0 = .ok (.aload_n 0, 1) := by decide +kernel
theorem dX12_forget_1 : decode cX12_forget 1 = .ok (.getfield 95, 3) := by decide +kernel
theorem dX12_forget_4 : decode cX12_forget 4 = .ok (.istore_n 1, 1) := by decide +kernel
theorem dX12_forget_5 : decode cX12_forget 5 = .ok (.aload_n 0, 1) := by decide +kernel
theorem dX12_forget_6 : decode cX12_forget 6 = .ok (.iconst 0, 1) := by decide +kernel
theorem dX12_forget_7 : decode cX12_forget 7 = .ok (.putfield 95, 3) := by decide +kernel
theorem dX12_forget_10 : decode cX12_forget 10 = .ok (.iload_n 1, 1) := by decide +kernel
theorem dX12_forget_11 : decode cX12_forget 11 = .ok (.ireturn, 1) := by decide +kernel
theorem dX12_couldHold_0 : decode cX12_couldHold 0 = .ok (.iconst 1, 1) := by decide +kernel
theorem dX12_couldHold_1 : decode cX12_couldHold 1 = .ok (.istore 4, 2) := by decide +kernel
theorem dX12_couldHold_3 : decode cX12_couldHold 3 = .ok (.iconst 0, 1) := by decide +kernel
theorem dX12_couldHold_4 : decode cX12_couldHold 4 = .ok (.istore 5, 2) := by decide +kernel
theorem dX12_couldHold_6 : decode cX12_couldHold 6 = .ok (.iload 5, 2) := by decide +kernel
theorem dX12_couldHold_8 : decode cX12_couldHold 8 = .ok (.aload_n 0, 1) := by decide +kernel
theorem dX12_couldHold_9 : decode cX12_couldHold 9 = .ok (.getfield 95, 3) := by decide +kernel
theorem dX12_couldHold_12 : decode cX12_couldHold 12 = .ok (.if_icmp .ge 65, 3) := by decide +kernel
theorem dX12_couldHold_15 : decode cX12_couldHold 15 = .ok (.iload 4, 2) := by decide +kernel
theorem dX12_couldHold_17 : decode cX12_couldHold 17 = .ok (.ifCond .eq 51, 3) := by decide +kernel
theorem dX12_couldHold_20 : decode cX12_couldHold 20 = .ok (.aload_n 0, 1) := by decide +kernel
theorem dX12_couldHold_21 : decode cX12_couldHold 21 = .ok (.getfield 22, 3) := by decide +kernel
theorem dX12_couldHold_24 : decode cX12_couldHold 24 = .ok (.iload 5, 2) := by decide +kernel
theorem dX12_couldHold_26 : decode cX12_couldHold 26 = .ok (.iaload, 1) := by decide +kernel
theorem dX12_couldHold_27 : decode cX12_couldHold 27 = .ok (.iload_n 1, 1) := by decide +kernel
theorem dX12_couldHold_28 : decode cX12_couldHold 28 = .ok (.if_icmp .ne 36, 3) := by decide +kernel
theorem dX12_couldHold_31 : decode cX12_couldHold 31 = .ok (.aload_n 0, 1) := by decide +kernel
theorem dX12_couldHold_32 : decode cX12_couldHold 32 = .ok (.iload_n 1, 1) := by decide +kernel
theorem dX12_couldHold_33 : decode cX12_couldHold 33 = .ok (.iload_n 2, 1) := by decide +kernel
theorem dX12_couldHold_34 : decode cX12_couldHold 34 = .ok (.iload_n 3, 1) := by decide +kernel
theorem dX12_couldHold_35 : decode cX12_couldHold 35 = .ok (.aload_n 0, 1) := by decide +kernel
theorem dX12_couldHold_36 : decode cX12_couldHold 36 = .ok (.getfield 25, 3) := by decide +kernel
theorem dX12_couldHold_39 : decode cX12_couldHold 39 = .ok (.iload 5, 2) := by decide +kernel
theorem dX12_couldHold_41 : decode cX12_couldHold 41 = .ok (.iaload, 1) := by decide +kernel
theorem dX12_couldHold_42 : decode cX12_couldHold 42 = .ok (.invokevirtual 105, 3) := by decide +kernel
theorem dX12_couldHold_45 : decode cX12_couldHold 45 = .ok (.aload_n 0, 1) := by decide +kernel
theorem dX12_couldHold_46 : decode cX12_couldHold 46 = .ok (.getfield 28, 3) := by decide +kernel
theorem dX12_couldHold_49 : decode cX12_couldHold 49 = .ok (.iload 5, 2) := by decide +kernel
theorem dX12_couldHold_51 : decode cX12_couldHold 51 = .ok (.iaload, 1) := by decide +kernel
theorem dX12_couldHold_52 : decode cX12_couldHold 52 = .ok (.iconst 1, 1) := by decide +kernel
theorem dX12_couldHold_53 : decode cX12_couldHold 53 = .ok (.if_icmp .ne 7, 3) := by decide +kernel
theorem dX12_couldHold_56 : decode cX12_couldHold 56 = .ok (.iconst 1, 1) := by decide +kernel
theorem dX12_couldHold_57 : decode cX12_couldHold 57 = .ok (.goto 4, 3) := by decide +kernel
theorem dX12_couldHold_60 : decode cX12_couldHold 60 = .ok (.iconst 0, 1) := by decide +kernel
theorem dX12_couldHold_61 : decode cX12_couldHold 61 = .ok (.if_icmp .ne 7, 3) := by decide +kernel
theorem dX12_couldHold_64 : decode cX12_couldHold 64 = .ok (.iconst 1, 1) := by decide +kernel
theorem dX12_couldHold_65 : decode cX12_couldHold 65 = .ok (.goto 4, 3) := by decide +kernel
theorem dX12_couldHold_68 : decode cX12_couldHold 68 = .ok (.iconst 0, 1) := by decide +kernel
theorem dX12_couldHold_69 : decode cX12_couldHold 69 = .ok (.istore 4, 2) := by decide +kernel
theorem dX12_couldHold_71 : decode cX12_couldHold 71 = .ok (.iinc 5 1, 3) := by decide +kernel
theorem dX12_couldHold_74 : decode cX12_couldHold 74 = .ok (.goto (-68), 3) := by decide +kernel
theorem dX12_couldHold_77 : decode cX12_couldHold 77 = .ok (.iload 4, 2) := by decide +kernel
theorem dX12_couldHold_79 : decode cX12_couldHold 79 = .ok (.ireturn, 1) := by decide +kernel
theorem dX12_holdersNow_0 : decode cX12_holdersNow 0 = .ok (.iconst 0, 1) := by decide +kernel
theorem dX12_holdersNow_1 : decode cX12_holdersNow 1 = .ok (.istore_n 3, 1) := by decide +kernel
theorem dX12_holdersNow_2 : decode cX12_holdersNow 2 = .ok (.iconst (-1), 1) := by decide +kernel
theorem dX12_holdersNow_3 : decode cX12_holdersNow 3 = .ok (.istore 4, 2) := by decide +kernel
theorem dX12_holdersNow_5 : decode cX12_holdersNow 5 = .ok (.aload_n 0, 1) := by decide +kernel
theorem dX12_holdersNow_6 : decode cX12_holdersNow 6 = .ok (.getfield 83, 3) := by decide +kernel
theorem dX12_holdersNow_9 : decode cX12_holdersNow 9 = .ok (.aload_n 0, 1) := by decide +kernel
theorem dX12_holdersNow_10 : decode cX12_holdersNow 10 = .ok (.getfield 83, 3) := by decide +kernel
theorem dX12_holdersNow_13 : decode cX12_holdersNow 13 = .ok (.imul, 1) := by decide +kernel
theorem dX12_holdersNow_14 : decode cX12_holdersNow 14 = .ok (.iconst 1, 1) := by decide +kernel
theorem dX12_holdersNow_15 : decode cX12_holdersNow 15 = .ok (.isub, 1) := by decide +kernel
theorem dX12_holdersNow_16 : decode cX12_holdersNow 16 = .ok (.istore 5, 2) := by decide +kernel
theorem dX12_holdersNow_18 : decode cX12_holdersNow 18 = .ok (.iload 5, 2) := by decide +kernel
theorem dX12_holdersNow_20 : decode cX12_holdersNow 20 = .ok (.ifCond .lt 73, 3) := by decide +kernel
theorem dX12_holdersNow_23 : decode cX12_holdersNow 23 = .ok (.aload_n 0, 1) := by decide +kernel
theorem dX12_holdersNow_24 : decode cX12_holdersNow 24 = .ok (.iload_n 1, 1) := by decide +kernel
theorem dX12_holdersNow_25 : decode cX12_holdersNow 25 = .ok (.iload 5, 2) := by decide +kernel
theorem dX12_holdersNow_27 : decode cX12_holdersNow 27 = .ok (.aload_n 0, 1) := by decide +kernel
theorem dX12_holdersNow_28 : decode cX12_holdersNow 28 = .ok (.getfield 83, 3) := by decide +kernel
theorem dX12_holdersNow_31 : decode cX12_holdersNow 31 = .ok (.idiv, 1) := by decide +kernel
theorem dX12_holdersNow_32 : decode cX12_holdersNow 32 = .ok (.iload 5, 2) := by decide +kernel
theorem dX12_holdersNow_34 : decode cX12_holdersNow 34 = .ok (.aload_n 0, 1) := by decide +kernel
theorem dX12_holdersNow_35 : decode cX12_holdersNow 35 = .ok (.getfield 83, 3) := by decide +kernel
theorem dX12_holdersNow_38 : decode cX12_holdersNow 38 = .ok (.irem, 1) := by decide +kernel
theorem dX12_holdersNow_39 : decode cX12_holdersNow 39 = .ok (.invokevirtual 166, 3) := by decide +kernel
theorem dX12_holdersNow_42 : decode cX12_holdersNow 42 = .ok (.istore 6, 2) := by decide +kernel
theorem dX12_holdersNow_44 : decode cX12_holdersNow 44 = .ok (.iload_n 3, 1) := by decide +kernel
theorem dX12_holdersNow_45 : decode cX12_holdersNow 45 = .ok (.iload 6, 2) := by decide +kernel
theorem dX12_holdersNow_47 : decode cX12_holdersNow 47 = .ok (.ifCond .eq 7, 3) := by decide +kernel
theorem dX12_holdersNow_50 : decode cX12_holdersNow 50 = .ok (.iconst 1, 1) := by decide +kernel
theorem dX12_holdersNow_51 : decode cX12_holdersNow 51 = .ok (.goto 4, 3) := by decide +kernel
theorem dX12_holdersNow_54 : decode cX12_holdersNow 54 = .ok (.iconst 0, 1) := by decide +kernel
theorem dX12_holdersNow_55 : decode cX12_holdersNow 55 = .ok (.iadd, 1) := by decide +kernel
theorem dX12_holdersNow_56 : decode cX12_holdersNow 56 = .ok (.istore_n 3, 1) := by decide +kernel
theorem dX12_holdersNow_57 : decode cX12_holdersNow 57 = .ok (.iload 6, 2) := by decide +kernel
theorem dX12_holdersNow_59 : decode cX12_holdersNow 59 = .ok (.ifCond .eq 24, 3) := by decide +kernel
theorem dX12_holdersNow_62 : decode cX12_holdersNow 62 = .ok (.bipush 10, 2) := by decide +kernel
theorem dX12_holdersNow_64 : decode cX12_holdersNow 64 = .ok (.iload 5, 2) := by decide +kernel
theorem dX12_holdersNow_66 : decode cX12_holdersNow 66 = .ok (.aload_n 0, 1) := by decide +kernel
theorem dX12_holdersNow_67 : decode cX12_holdersNow 67 = .ok (.getfield 83, 3) := by decide +kernel
theorem dX12_holdersNow_70 : decode cX12_holdersNow 70 = .ok (.idiv, 1) := by decide +kernel
theorem dX12_holdersNow_71 : decode cX12_holdersNow 71 = .ok (.imul, 1) := by decide +kernel
theorem dX12_holdersNow_72 : decode cX12_holdersNow 72 = .ok (.iload 5, 2) := by decide +kernel
theorem dX12_holdersNow_74 : decode cX12_holdersNow 74 = .ok (.aload_n 0, 1) := by decide +kernel
theorem dX12_holdersNow_75 : decode cX12_holdersNow 75 = .ok (.getfield 83, 3) := by decide +kernel
theorem dX12_holdersNow_78 : decode cX12_holdersNow 78 = .ok (.irem, 1) := by decide +kernel
theorem dX12_holdersNow_79 : decode cX12_holdersNow 79 = .ok (.iadd, 1) := by decide +kernel
theorem dX12_holdersNow_80 : decode cX12_holdersNow 80 = .ok (.goto 5, 3) := by decide +kernel
theorem dX12_holdersNow_83 : decode cX12_holdersNow 83 = .ok (.iload 4, 2) := by decide +kernel
theorem dX12_holdersNow_85 : decode cX12_holdersNow 85 = .ok (.istore 4, 2) := by decide +kernel
theorem dX12_holdersNow_87 : decode cX12_holdersNow 87 = .ok (.iinc 5 (-1), 3) := by decide +kernel
theorem dX12_holdersNow_90 : decode cX12_holdersNow 90 = .ok (.goto (-72), 3) := by decide +kernel
theorem dX12_holdersNow_93 : decode cX12_holdersNow 93 = .ok (.iload_n 2, 1) := by decide +kernel
theorem dX12_holdersNow_94 : decode cX12_holdersNow 94 = .ok (.ifCond .ne 7, 3) := by decide +kernel
theorem dX12_holdersNow_97 : decode cX12_holdersNow 97 = .ok (.iload_n 3, 1) := by decide +kernel
theorem dX12_holdersNow_98 : decode cX12_holdersNow 98 = .ok (.goto 5, 3) := by decide +kernel
theorem dX12_holdersNow_101 : decode cX12_holdersNow 101 = .ok (.iload 4, 2) := by decide +kernel
theorem dX12_holdersNow_103 : decode cX12_holdersNow 103 = .ok (.ireturn, 1) := by decide +kernel
theorem dX12_holders_0 : decode cX12_holders 0 = .ok (.aload_n 0, 1) := by decide +kernel
theorem dX12_holders_1 : decode cX12_holders 1 = .ok (.iload_n 1, 1) := by decide +kernel
theorem dX12_holders_2 : decode cX12_holders 2 = .ok (.invokevirtual 124, 3) := by decide +kernel
theorem dX12_holders_5 : decode cX12_holders 5 = .ok (.ifCond .ne 6, 3) := by decide +kernel
theorem dX12_holders_8 : decode cX12_holders 8 = .ok (.bipush (-101), 2) := by decide +kernel
theorem dX12_holders_10 : decode cX12_holders 10 = .ok (.ireturn, 1) := by decide +kernel
theorem dX12_holders_11 : decode cX12_holders 11 = .ok (.iload_n 2, 1) := by decide +kernel
theorem dX12_holders_12 : decode cX12_holders 12 = .ok (.iconst 0, 1) := by decide +kernel
theorem dX12_holders_13 : decode cX12_holders 13 = .ok (.iconst 1, 1) := by decide +kernel
theorem dX12_holders_14 : decode cX12_holders 14 = .ok (.invokestatic 59, 3) := by decide +kernel
theorem dX12_holders_17 : decode cX12_holders 17 = .ok (.ifCond .eq 12, 3) := by decide +kernel
theorem dX12_holders_20 : decode cX12_holders 20 = .ok (.aload_n 0, 1) := by decide +kernel
theorem dX12_holders_21 : decode cX12_holders 21 = .ok (.iload_n 1, 1) := by decide +kernel
theorem dX12_holders_22 : decode cX12_holders 22 = .ok (.iload_n 2, 1) := by decide +kernel
theorem dX12_holders_23 : decode cX12_holders 23 = .ok (.invokevirtual 169, 3) := by decide +kernel
theorem dX12_holders_26 : decode cX12_holders 26 = .ok (.goto 5, 3) := by decide +kernel
theorem dX12_holders_29 : decode cX12_holders 29 = .ok (.bipush (-102), 2) := by decide +kernel
theorem dX12_holders_31 : decode cX12_holders 31 = .ok (.ireturn, 1) := by decide +kernel
theorem dX12_writtenWays_0 : decode cX12_writtenWays 0 = .ok (.iconst 0, 1) := by decide +kernel
theorem dX12_writtenWays_1 : decode cX12_writtenWays 1 = .ok (.istore_n 3, 1) := by decide +kernel
theorem dX12_writtenWays_2 : decode cX12_writtenWays 2 = .ok (.iconst 0, 1) := by decide +kernel
theorem dX12_writtenWays_3 : decode cX12_writtenWays 3 = .ok (.istore 4, 2) := by decide +kernel
theorem dX12_writtenWays_5 : decode cX12_writtenWays 5 = .ok (.iload 4, 2) := by decide +kernel
theorem dX12_writtenWays_7 : decode cX12_writtenWays 7 = .ok (.aload_n 0, 1) := by decide +kernel
theorem dX12_writtenWays_8 : decode cX12_writtenWays 8 = .ok (.getfield 83, 3) := by decide +kernel
theorem dX12_writtenWays_11 : decode cX12_writtenWays 11 = .ok (.aload_n 0, 1) := by decide +kernel
theorem dX12_writtenWays_12 : decode cX12_writtenWays 12 = .ok (.getfield 83, 3) := by decide +kernel
theorem dX12_writtenWays_15 : decode cX12_writtenWays 15 = .ok (.imul, 1) := by decide +kernel
theorem dX12_writtenWays_16 : decode cX12_writtenWays 16 = .ok (.if_icmp .ge 60, 3) := by decide +kernel
theorem dX12_writtenWays_19 : decode cX12_writtenWays 19 = .ok (.iload 4, 2) := by decide +kernel
theorem dX12_writtenWays_21 : decode cX12_writtenWays 21 = .ok (.aload_n 0, 1) := by decide +kernel
theorem dX12_writtenWays_22 : decode cX12_writtenWays 22 = .ok (.getfield 83, 3) := by decide +kernel
theorem dX12_writtenWays_25 : decode cX12_writtenWays 25 = .ok (.idiv, 1) := by decide +kernel
theorem dX12_writtenWays_26 : decode cX12_writtenWays 26 = .ok (.istore 5, 2) := by decide +kernel
theorem dX12_writtenWays_28 : decode cX12_writtenWays 28 = .ok (.iload 4, 2) := by decide +kernel
theorem dX12_writtenWays_30 : decode cX12_writtenWays 30 = .ok (.aload_n 0, 1) := by decide +kernel
theorem dX12_writtenWays_31 : decode cX12_writtenWays 31 = .ok (.getfield 83, 3) := by decide +kernel
theorem dX12_writtenWays_34 : decode cX12_writtenWays 34 = .ok (.irem, 1) := by decide +kernel
theorem dX12_writtenWays_35 : decode cX12_writtenWays 35 = .ok (.istore 6, 2) := by decide +kernel
theorem dX12_writtenWays_37 : decode cX12_writtenWays 37 = .ok (.iload_n 3, 1) := by decide +kernel
theorem dX12_writtenWays_38 : decode cX12_writtenWays 38 = .ok (.aload_n 0, 1) := by decide +kernel
theorem dX12_writtenWays_39 : decode cX12_writtenWays 39 = .ok (.iload_n 1, 1) := by decide +kernel
theorem dX12_writtenWays_40 : decode cX12_writtenWays 40 = .ok (.iload 5, 2) := by decide +kernel
theorem dX12_writtenWays_42 : decode cX12_writtenWays 42 = .ok (.iload 6, 2) := by decide +kernel
theorem dX12_writtenWays_44 : decode cX12_writtenWays 44 = .ok (.invokevirtual 166, 3) := by decide +kernel
theorem dX12_writtenWays_47 : decode cX12_writtenWays 47 = .ok (.ifCond .eq 20, 3) := by decide +kernel
theorem dX12_writtenWays_50 : decode cX12_writtenWays 50 = .ok (.aload_n 0, 1) := by decide +kernel
theorem dX12_writtenWays_51 : decode cX12_writtenWays 51 = .ok (.iload_n 1, 1) := by decide +kernel
theorem dX12_writtenWays_52 : decode cX12_writtenWays 52 = .ok (.iload 5, 2) := by decide +kernel
theorem dX12_writtenWays_54 : decode cX12_writtenWays 54 = .ok (.iload 6, 2) := by decide +kernel
theorem dX12_writtenWays_56 : decode cX12_writtenWays 56 = .ok (.iload_n 2, 1) := by decide +kernel
theorem dX12_writtenWays_57 : decode cX12_writtenWays 57 = .ok (.invokevirtual 105, 3) := by decide +kernel
theorem dX12_writtenWays_60 : decode cX12_writtenWays 60 = .ok (.ifCond .eq 7, 3) := by decide +kernel
theorem dX12_writtenWays_63 : decode cX12_writtenWays 63 = .ok (.iconst 1, 1) := by decide +kernel
theorem dX12_writtenWays_64 : decode cX12_writtenWays 64 = .ok (.goto 4, 3) := by decide +kernel
theorem dX12_writtenWays_67 : decode cX12_writtenWays 67 = .ok (.iconst 0, 1) := by decide +kernel
theorem dX12_writtenWays_68 : decode cX12_writtenWays 68 = .ok (.iadd, 1) := by decide +kernel
theorem dX12_writtenWays_69 : decode cX12_writtenWays 69 = .ok (.istore_n 3, 1) := by decide +kernel
theorem dX12_writtenWays_70 : decode cX12_writtenWays 70 = .ok (.iinc 4 1, 3) := by decide +kernel
theorem dX12_writtenWays_73 : decode cX12_writtenWays 73 = .ok (.goto (-68), 3) := by decide +kernel
theorem dX12_writtenWays_76 : decode cX12_writtenWays 76 = .ok (.iload_n 3, 1) := by decide +kernel
theorem dX12_writtenWays_77 : decode cX12_writtenWays 77 = .ok (.ireturn, 1) := by decide +kernel
theorem dX12_inviteNow_0 : decode cX12_inviteNow 0 = .ok (.aload_n 0, 1) := by decide +kernel
theorem dX12_inviteNow_1 : decode cX12_inviteNow 1 = .ok (.iload_n 1, 1) := by decide +kernel
theorem dX12_inviteNow_2 : decode cX12_inviteNow 2 = .ok (.iconst 0, 1) := by decide +kernel
theorem dX12_inviteNow_3 : decode cX12_inviteNow 3 = .ok (.invokevirtual 169, 3) := by decide +kernel
theorem dX12_inviteNow_6 : decode cX12_inviteNow 6 = .ok (.istore_n 2, 1) := by decide +kernel
theorem dX12_inviteNow_7 : decode cX12_inviteNow 7 = .ok (.iconst (-1), 1) := by decide +kernel
theorem dX12_inviteNow_8 : decode cX12_inviteNow 8 = .ok (.istore_n 3, 1) := by decide +kernel
theorem dX12_inviteNow_9 : decode cX12_inviteNow 9 = .ok (.ldc 141, 2) := by decide +kernel
theorem dX12_inviteNow_11 : decode cX12_inviteNow 11 = .ok (.istore 4, 2) := by decide +kernel
theorem dX12_inviteNow_13 : decode cX12_inviteNow 13 = .ok (.iconst 0, 1) := by decide +kernel
theorem dX12_inviteNow_14 : decode cX12_inviteNow 14 = .ok (.istore 5, 2) := by decide +kernel
theorem dX12_inviteNow_16 : decode cX12_inviteNow 16 = .ok (.iload 5, 2) := by decide +kernel
theorem dX12_inviteNow_18 : decode cX12_inviteNow 18 = .ok (.iconst 1, 1) := by decide +kernel
theorem dX12_inviteNow_19 : decode cX12_inviteNow 19 = .ok (.aload_n 0, 1) := by decide +kernel
theorem dX12_inviteNow_20 : decode cX12_inviteNow 20 = .ok (.getfield 83, 3) := by decide +kernel
theorem dX12_inviteNow_23 : decode cX12_inviteNow 23 = .ok (.ishl, 1) := by decide +kernel
theorem dX12_inviteNow_24 : decode cX12_inviteNow 24 = .ok (.if_icmp .ge 81, 3) := by decide +kernel
theorem dX12_inviteNow_27 : decode cX12_inviteNow 27 = .ok (.iload_n 2, 1) := by decide +kernel
theorem dX12_inviteNow_28 : decode cX12_inviteNow 28 = .ok (.ifCond .le 77, 3) := by decide +kernel
theorem dX12_inviteNow_31 : decode cX12_inviteNow 31 = .ok (.iload 5, 2) := by decide +kernel
theorem dX12_inviteNow_33 : decode cX12_inviteNow 33 = .ok (.iload_n 1, 1) := by decide +kernel
theorem dX12_inviteNow_34 : decode cX12_inviteNow 34 = .ok (.invokestatic 98, 3) := by decide +kernel
theorem dX12_inviteNow_37 : decode cX12_inviteNow 37 = .ok (.ifCond .eq 62, 3) := by decide +kernel
theorem dX12_inviteNow_40 : decode cX12_inviteNow 40 = .ok (.aload_n 0, 1) := by decide +kernel
theorem dX12_inviteNow_41 : decode cX12_inviteNow 41 = .ok (.iload_n 1, 1) := by decide +kernel
theorem dX12_inviteNow_42 : decode cX12_inviteNow 42 = .ok (.iload 5, 2) := by decide +kernel
theorem dX12_inviteNow_44 : decode cX12_inviteNow 44 = .ok (.invokevirtual 172, 3) := by decide +kernel
theorem dX12_inviteNow_47 : decode cX12_inviteNow 47 = .ok (.istore 6, 2) := by decide +kernel
theorem dX12_inviteNow_49 : decode cX12_inviteNow 49 = .ok (.iload 6, 2) := by decide +kernel
theorem dX12_inviteNow_51 : decode cX12_inviteNow 51 = .ok (.iload_n 2, 1) := by decide +kernel
theorem dX12_inviteNow_52 : decode cX12_inviteNow 52 = .ok (.iload 6, 2) := by decide +kernel
theorem dX12_inviteNow_54 : decode cX12_inviteNow 54 = .ok (.isub, 1) := by decide +kernel
theorem dX12_inviteNow_55 : decode cX12_inviteNow 55 = .ok (.if_icmp .le 8, 3) := by decide +kernel
theorem dX12_inviteNow_58 : decode cX12_inviteNow 58 = .ok (.iload 6, 2) := by decide +kernel
theorem dX12_inviteNow_60 : decode cX12_inviteNow 60 = .ok (.goto 7, 3) := by decide +kernel
theorem dX12_inviteNow_63 : decode cX12_inviteNow 63 = .ok (.iload_n 2, 1) := by decide +kernel
theorem dX12_inviteNow_64 : decode cX12_inviteNow 64 = .ok (.iload 6, 2) := by decide +kernel
theorem dX12_inviteNow_66 : decode cX12_inviteNow 66 = .ok (.isub, 1) := by decide +kernel
theorem dX12_inviteNow_67 : decode cX12_inviteNow 67 = .ok (.istore 7, 2) := by decide +kernel
theorem dX12_inviteNow_69 : decode cX12_inviteNow 69 = .ok (.iload 7, 2) := by decide +kernel
theorem dX12_inviteNow_71 : decode cX12_inviteNow 71 = .ok (.iload 4, 2) := by decide +kernel
theorem dX12_inviteNow_73 : decode cX12_inviteNow 73 = .ok (.if_icmp .ge 8, 3) := by decide +kernel
theorem dX12_inviteNow_76 : decode cX12_inviteNow 76 = .ok (.iload 5, 2) := by decide +kernel
theorem dX12_inviteNow_78 : decode cX12_inviteNow 78 = .ok (.goto 4, 3) := by decide +kernel
theorem dX12_inviteNow_81 : decode cX12_inviteNow 81 = .ok (.iload_n 3, 1) := by decide +kernel
theorem dX12_inviteNow_82 : decode cX12_inviteNow 82 = .ok (.istore_n 3, 1) := by decide +kernel
theorem dX12_inviteNow_83 : decode cX12_inviteNow 83 = .ok (.iload 7, 2) := by decide +kernel
theorem dX12_inviteNow_85 : decode cX12_inviteNow 85 = .ok (.iload 4, 2) := by decide +kernel
theorem dX12_inviteNow_87 : decode cX12_inviteNow 87 = .ok (.if_icmp .ge 8, 3) := by decide +kernel
theorem dX12_inviteNow_90 : decode cX12_inviteNow 90 = .ok (.iload 7, 2) := by decide +kernel
theorem dX12_inviteNow_92 : decode cX12_inviteNow 92 = .ok (.goto 5, 3) := by decide +kernel
theorem dX12_inviteNow_95 : decode cX12_inviteNow 95 = .ok (.iload 4, 2) := by decide +kernel
theorem dX12_inviteNow_97 : decode cX12_inviteNow 97 = .ok (.istore 4, 2) := by decide +kernel
theorem dX12_inviteNow_99 : decode cX12_inviteNow 99 = .ok (.iinc 5 1, 3) := by decide +kernel
theorem dX12_inviteNow_102 : decode cX12_inviteNow 102 = .ok (.goto (-86), 3) := by decide +kernel
theorem dX12_inviteNow_105 : decode cX12_inviteNow 105 = .ok (.iload_n 3, 1) := by decide +kernel
theorem dX12_inviteNow_106 : decode cX12_inviteNow 106 = .ok (.ireturn, 1) := by decide +kernel
theorem dX12_invite_0 : decode cX12_invite 0 = .ok (.aload_n 0, 1) := by decide +kernel
theorem dX12_invite_1 : decode cX12_invite 1 = .ok (.iload_n 1, 1) := by decide +kernel
theorem dX12_invite_2 : decode cX12_invite 2 = .ok (.invokevirtual 124, 3) := by decide +kernel
theorem dX12_invite_5 : decode cX12_invite 5 = .ok (.ifCond .eq 11, 3) := by decide +kernel
theorem dX12_invite_8 : decode cX12_invite 8 = .ok (.aload_n 0, 1) := by decide +kernel
theorem dX12_invite_9 : decode cX12_invite 9 = .ok (.iload_n 1, 1) := by decide +kernel
theorem dX12_invite_10 : decode cX12_invite 10 = .ok (.invokevirtual 175, 3) := by decide +kernel
theorem dX12_invite_13 : decode cX12_invite 13 = .ok (.goto 5, 3) := by decide +kernel
theorem dX12_invite_16 : decode cX12_invite 16 = .ok (.bipush (-101), 2) := by decide +kernel
theorem dX12_invite_18 : decode cX12_invite 18 = .ok (.ireturn, 1) := by decide +kernel
theorem dX12_writtenAll_0 : decode cX12_writtenAll 0 = .ok (.iconst 0, 1) := by decide +kernel
theorem dX12_writtenAll_1 : decode cX12_writtenAll 1 = .ok (.istore_n 1, 1) := by decide +kernel
theorem dX12_writtenAll_2 : decode cX12_writtenAll 2 = .ok (.iconst 0, 1) := by decide +kernel
theorem dX12_writtenAll_3 : decode cX12_writtenAll 3 = .ok (.istore_n 2, 1) := by decide +kernel
theorem dX12_writtenAll_4 : decode cX12_writtenAll 4 = .ok (.iload_n 2, 1) := by decide +kernel
theorem dX12_writtenAll_5 : decode cX12_writtenAll 5 = .ok (.aload_n 0, 1) := by decide +kernel
theorem dX12_writtenAll_6 : decode cX12_writtenAll 6 = .ok (.getfield 83, 3) := by decide +kernel
theorem dX12_writtenAll_9 : decode cX12_writtenAll 9 = .ok (.if_icmp .ge 25, 3) := by decide +kernel
theorem dX12_writtenAll_12 : decode cX12_writtenAll 12 = .ok (.iload_n 1, 1) := by decide +kernel
theorem dX12_writtenAll_13 : decode cX12_writtenAll 13 = .ok (.aload_n 0, 1) := by decide +kernel
theorem dX12_writtenAll_14 : decode cX12_writtenAll 14 = .ok (.iload_n 2, 1) := by decide +kernel
theorem dX12_writtenAll_15 : decode cX12_writtenAll 15 = .ok (.invokevirtual 115, 3) := by decide +kernel
theorem dX12_writtenAll_18 : decode cX12_writtenAll 18 = .ok (.ifCond .eq 7, 3) := by decide +kernel
theorem dX12_writtenAll_21 : decode cX12_writtenAll 21 = .ok (.iconst 1, 1) := by decide +kernel
theorem dX12_writtenAll_22 : decode cX12_writtenAll 22 = .ok (.goto 4, 3) := by decide +kernel
theorem dX12_writtenAll_25 : decode cX12_writtenAll 25 = .ok (.iconst 0, 1) := by decide +kernel
theorem dX12_writtenAll_26 : decode cX12_writtenAll 26 = .ok (.iadd, 1) := by decide +kernel
theorem dX12_writtenAll_27 : decode cX12_writtenAll 27 = .ok (.istore_n 1, 1) := by decide +kernel
theorem dX12_writtenAll_28 : decode cX12_writtenAll 28 = .ok (.iinc 2 1, 3) := by decide +kernel
theorem dX12_writtenAll_31 : decode cX12_writtenAll 31 = .ok (.goto (-27), 3) := by decide +kernel
theorem dX12_writtenAll_34 : decode cX12_writtenAll 34 = .ok (.iload_n 1, 1) := by decide +kernel
theorem dX12_writtenAll_35 : decode cX12_writtenAll 35 = .ok (.ireturn, 1) := by decide +kernel
theorem dX12_draw_0 : decode cX12_draw 0 = .ok (.aload_n 0, 1) := by decide +kernel
theorem dX12_draw_1 : decode cX12_draw 1 = .ok (.ldc2_w 178, 3) := by decide +kernel
theorem dX12_draw_4 : decode cX12_draw 4 = .ok (.aload_n 0, 1) := by decide +kernel
theorem dX12_draw_5 : decode cX12_draw 5 = .ok (.getfield 180, 3) := by decide +kernel
theorem dX12_draw_8 : decode cX12_draw 8 = .ok (.lmul, 1) := by decide +kernel
theorem dX12_draw_9 : decode cX12_draw 9 = .ok (.ldc2_w 184, 3) := by decide +kernel
theorem dX12_draw_12 : decode cX12_draw 12 = .ok (.ladd, 1) := by decide +kernel
theorem dX12_draw_13 : decode cX12_draw 13 = .ok (.ldc2_w 186, 3) := by decide +kernel
theorem dX12_draw_16 : decode cX12_draw 16 = .ok (.land, 1) := by decide +kernel
theorem dX12_draw_17 : decode cX12_draw 17 = .ok (.putfield 180, 3) := by decide +kernel
theorem dX12_draw_20 : decode cX12_draw 20 = .ok (.aload_n 0, 1) := by decide +kernel
theorem dX12_draw_21 : decode cX12_draw 21 = .ok (.getfield 180, 3) := by decide +kernel
theorem dX12_draw_24 : decode cX12_draw 24 = .ok (.ldc2_w 188, 3) := by decide +kernel
theorem dX12_draw_27 : decode cX12_draw 27 = .ok (.ldiv, 1) := by decide +kernel
theorem dX12_draw_28 : decode cX12_draw 28 = .ok (.iload_n 1, 1) := by decide +kernel
theorem dX12_draw_29 : decode cX12_draw 29 = .ok (.i2l, 1) := by decide +kernel
theorem dX12_draw_30 : decode cX12_draw 30 = .ok (.lrem, 1) := by decide +kernel
theorem dX12_draw_31 : decode cX12_draw 31 = .ok (.l2i, 1) := by decide +kernel
theorem dX12_draw_32 : decode cX12_draw 32 = .ok (.ireturn, 1) := by decide +kernel
theorem dX12_yearsNow_0 : decode cX12_yearsNow 0 = .ok (.iconst 0, 1) := by decide +kernel
theorem dX12_yearsNow_1 : decode cX12_yearsNow 1 = .ok (.istore 4, 2) := by decide +kernel
theorem dX12_yearsNow_3 : decode cX12_yearsNow 3 = .ok (.iload 4, 2) := by decide +kernel
theorem dX12_yearsNow_5 : decode cX12_yearsNow 5 = .ok (.aload_n 0, 1) := by decide +kernel
theorem dX12_yearsNow_6 : decode cX12_yearsNow 6 = .ok (.getfield 83, 3) := by decide +kernel
theorem dX12_yearsNow_9 : decode cX12_yearsNow 9 = .ok (.if_icmp .ge 23, 3) := by decide +kernel
theorem dX12_yearsNow_12 : decode cX12_yearsNow 12 = .ok (.aload_n 0, 1) := by decide +kernel
theorem dX12_yearsNow_13 : decode cX12_yearsNow 13 = .ok (.getfield 38, 3) := by decide +kernel
theorem dX12_yearsNow_16 : decode cX12_yearsNow 16 = .ok (.iload 4, 2) := by decide +kernel
theorem dX12_yearsNow_18 : decode cX12_yearsNow 18 = .ok (.aload_n 0, 1) := by decide +kernel
theorem dX12_yearsNow_19 : decode cX12_yearsNow 19 = .ok (.getfield 16, 3) := by decide +kernel
theorem dX12_yearsNow_22 : decode cX12_yearsNow 22 = .ok (.iload 4, 2) := by decide +kernel
theorem dX12_yearsNow_24 : decode cX12_yearsNow 24 = .ok (.iaload, 1) := by decide +kernel
