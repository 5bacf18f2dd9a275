theorem dX5_sum_0 : decode cX5_sum 0 = .ok (.aload_n 0, 1) := by decide +kernel
theorem dX5_sum_1 : decode cX5_sum 1 = .ok (.iload_n 1, 1) := by decide +kernel
theorem dX5_sum_2 : decode cX5_sum 2 = .ok (.invokevirtual 96, 3) := by decide +kernel
theorem dX5_sum_5 : decode cX5_sum 5 = .ok (.ifCond .ne 5, 3) := by decide +kernel
theorem dX5_sum_8 : decode cX5_sum 8 = .ok (.iconst 0, 1) := by decide +kernel
theorem dX5_sum_9 : decode cX5_sum 9 = .ok (.ireturn, 1) := by decide +kernel
theorem dX5_sum_10 : decode cX5_sum 10 = .ok (.iconst 0, 1) := by decide +kernel
theorem dX5_sum_11 : decode cX5_sum 11 = .ok (.istore_n 2, 1) := by decide +kernel
theorem dX5_sum_12 : decode cX5_sum 12 = .ok (.iload_n 2, 1) := by decide +kernel
theorem dX5_sum_13 : decode cX5_sum 13 = .ok (.sipush 300, 3) := by decide +kernel
theorem dX5_sum_16 : decode cX5_sum 16 = .ok (.if_icmp .ge 52, 3) := by decide +kernel
theorem dX5_sum_19 : decode cX5_sum 19 = .ok (.aload_n 0, 1) := by decide +kernel
theorem dX5_sum_20 : decode cX5_sum 20 = .ok (.invokevirtual 42, 3) := by decide +kernel
theorem dX5_sum_23 : decode cX5_sum 23 = .ok (.istore_n 3, 1) := by decide +kernel
theorem dX5_sum_24 : decode cX5_sum 24 = .ok (.iload_n 3, 1) := by decide +kernel
theorem dX5_sum_25 : decode cX5_sum 25 = .ok (.bipush 39, 2) := by decide +kernel
theorem dX5_sum_27 : decode cX5_sum 27 = .ok (.if_icmp .eq 12, 3) := by decide +kernel
theorem dX5_sum_30 : decode cX5_sum 30 = .ok (.iload_n 3, 1) := by decide +kernel
theorem dX5_sum_31 : decode cX5_sum 31 = .ok (.bipush 40, 2) := by decide +kernel
theorem dX5_sum_33 : decode cX5_sum 33 = .ok (.if_icmp .eq 6, 3) := by decide +kernel
theorem dX5_sum_36 : decode cX5_sum 36 = .ok (.goto 32, 3) := by decide +kernel
theorem dX5_sum_39 : decode cX5_sum 39 = .ok (.aload_n 0, 1) := by decide +kernel
theorem dX5_sum_40 : decode cX5_sum 40 = .ok (.invokevirtual 62, 3) := by decide +kernel
theorem dX5_sum_43 : decode cX5_sum 43 = .ok (.aload_n 0, 1) := by decide +kernel
theorem dX5_sum_44 : decode cX5_sum 44 = .ok (.iload_n 1, 1) := by decide +kernel
theorem dX5_sum_45 : decode cX5_sum 45 = .ok (.invokevirtual 96, 3) := by decide +kernel
theorem dX5_sum_48 : decode cX5_sum 48 = .ok (.ifCond .ne 5, 3) := by decide +kernel
theorem dX5_sum_51 : decode cX5_sum 51 = .ok (.iconst 0, 1) := by decide +kernel
theorem dX5_sum_52 : decode cX5_sum 52 = .ok (.ireturn, 1) := by decide +kernel
theorem dX5_sum_53 : decode cX5_sum 53 = .ok (.aload_n 0, 1) := by decide +kernel
theorem dX5_sum_54 : decode cX5_sum 54 = .ok (.getfield 18, 3) := by decide +kernel
theorem dX5_sum_57 : decode cX5_sum 57 = .ok (.iload_n 3, 1) := by decide +kernel
theorem dX5_sum_58 : decode cX5_sum 58 = .ok (.iconst 0, 1) := by decide +kernel
theorem dX5_sum_59 : decode cX5_sum 59 = .ok (.invokevirtual 99, 3) := by decide +kernel
theorem dX5_sum_62 : decode cX5_sum 62 = .ok (.iinc 2 1, 3) := by decide +kernel
theorem dX5_sum_65 : decode cX5_sum 65 = .ok (.goto (-53), 3) := by decide +kernel
theorem dX5_sum_68 : decode cX5_sum 68 = .ok (.iconst 1, 1) := by decide +kernel
theorem dX5_sum_69 : decode cX5_sum 69 = .ok (.ireturn, 1) := by decide +kernel
theorem dX5_product_0 : decode cX5_product 0 = .ok (.aload_n 0, 1) := by decide +kernel
theorem dX5_product_1 : decode cX5_product 1 = .ok (.iload_n 1, 1) := by decide +kernel
theorem dX5_product_2 : decode cX5_product 2 = .ok (.invokevirtual 103, 3) := by decide +kernel
theorem dX5_product_5 : decode cX5_product 5 = .ok (.ifCond .ne 5, 3) := by decide +kernel
theorem dX5_product_8 : decode cX5_product 8 = .ok (.iconst 0, 1) := by decide +kernel
theorem dX5_product_9 : decode cX5_product 9 = .ok (.ireturn, 1) := by decide +kernel
theorem dX5_product_10 : decode cX5_product 10 = .ok (.iconst 0, 1) := by decide +kernel
theorem dX5_product_11 : decode cX5_product 11 = .ok (.istore_n 2, 1) := by decide +kernel
theorem dX5_product_12 : decode cX5_product 12 = .ok (.iload_n 2, 1) := by decide +kernel
theorem dX5_product_13 : decode cX5_product 13 = .ok (.sipush 300, 3) := by decide +kernel
theorem dX5_product_16 : decode cX5_product 16 = .ok (.if_icmp .ge 52, 3) := by decide +kernel
theorem dX5_product_19 : decode cX5_product 19 = .ok (.aload_n 0, 1) := by decide +kernel
theorem dX5_product_20 : decode cX5_product 20 = .ok (.invokevirtual 42, 3) := by decide +kernel
theorem dX5_product_23 : decode cX5_product 23 = .ok (.istore_n 3, 1) := by decide +kernel
theorem dX5_product_24 : decode cX5_product 24 = .ok (.iload_n 3, 1) := by decide +kernel
theorem dX5_product_25 : decode cX5_product 25 = .ok (.bipush 41, 2) := by decide +kernel
theorem dX5_product_27 : decode cX5_product 27 = .ok (.if_icmp .eq 12, 3) := by decide +kernel
theorem dX5_product_30 : decode cX5_product 30 = .ok (.iload_n 3, 1) := by decide +kernel
theorem dX5_product_31 : decode cX5_product 31 = .ok (.bipush 42, 2) := by decide +kernel
theorem dX5_product_33 : decode cX5_product 33 = .ok (.if_icmp .eq 6, 3) := by decide +kernel
theorem dX5_product_36 : decode cX5_product 36 = .ok (.goto 32, 3) := by decide +kernel
theorem dX5_product_39 : decode cX5_product 39 = .ok (.aload_n 0, 1) := by decide +kernel
theorem dX5_product_40 : decode cX5_product 40 = .ok (.invokevirtual 62, 3) := by decide +kernel
theorem dX5_product_43 : decode cX5_product 43 = .ok (.aload_n 0, 1) := by decide +kernel
theorem dX5_product_44 : decode cX5_product 44 = .ok (.iload_n 1, 1) := by decide +kernel
theorem dX5_product_45 : decode cX5_product 45 = .ok (.invokevirtual 103, 3) := by decide +kernel
theorem dX5_product_48 : decode cX5_product 48 = .ok (.ifCond .ne 5, 3) := by decide +kernel
theorem dX5_product_51 : decode cX5_product 51 = .ok (.iconst 0, 1) := by decide +kernel
theorem dX5_product_52 : decode cX5_product 52 = .ok (.ireturn, 1) := by decide +kernel
theorem dX5_product_53 : decode cX5_product 53 = .ok (.aload_n 0, 1) := by decide +kernel
theorem dX5_product_54 : decode cX5_product 54 = .ok (.getfield 18, 3) := by decide +kernel
theorem dX5_product_57 : decode cX5_product 57 = .ok (.iload_n 3, 1) := by decide +kernel
theorem dX5_product_58 : decode cX5_product 58 = .ok (.iconst 0, 1) := by decide +kernel
theorem dX5_product_59 : decode cX5_product 59 = .ok (.invokevirtual 99, 3) := by decide +kernel
theorem dX5_product_62 : decode cX5_product 62 = .ok (.iinc 2 1, 3) := by decide +kernel
theorem dX5_product_65 : decode cX5_product 65 = .ok (.goto (-53), 3) := by decide +kernel
theorem dX5_product_68 : decode cX5_product 68 = .ok (.iconst 1, 1) := by decide +kernel
theorem dX5_product_69 : decode cX5_product 69 = .ok (.ireturn, 1) := by decide +kernel
theorem dX5_one_0 : decode cX5_one 0 = .ok (.aload_n 0, 1) := by decide +kernel
theorem dX5_one_1 : decode cX5_one 1 = .ok (.invokevirtual 42, 3) := by decide +kernel
theorem dX5_one_4 : decode cX5_one 4 = .ok (.istore_n 2, 1) := by decide +kernel
theorem dX5_one_5 : decode cX5_one 5 = .ok (.iload_n 2, 1) := by decide +kernel
theorem dX5_one_6 : decode cX5_one 6 = .ok (.bipush 46, 2) := by decide +kernel
theorem dX5_one_8 : decode cX5_one 8 = .ok (.if_icmp .eq 15, 3) := by decide +kernel
theorem dX5_one_11 : decode cX5_one 11 = .ok (.iload_n 2, 1) := by decide +kernel
theorem dX5_one_12 : decode cX5_one 12 = .ok (.bipush 11, 2) := by decide +kernel
theorem dX5_one_14 : decode cX5_one 14 = .ok (.if_icmp .lt 15, 3) := by decide +kernel
theorem dX5_one_17 : decode cX5_one 17 = .ok (.iload_n 2, 1) := by decide +kernel
theorem dX5_one_18 : decode cX5_one 18 = .ok (.bipush 20, 2) := by decide +kernel
theorem dX5_one_20 : decode cX5_one 20 = .ok (.if_icmp .gt 9, 3) := by decide +kernel
theorem dX5_one_23 : decode cX5_one 23 = .ok (.aload_n 0, 1) := by decide +kernel
theorem dX5_one_24 : decode cX5_one 24 = .ok (.iload_n 2, 1) := by decide +kernel
theorem dX5_one_25 : decode cX5_one 25 = .ok (.invokevirtual 106, 3) := by decide +kernel
theorem dX5_one_28 : decode cX5_one 28 = .ok (.ireturn, 1) := by decide +kernel
theorem dX5_one_29 : decode cX5_one 29 = .ok (.iload_n 2, 1) := by decide +kernel
theorem dX5_one_30 : decode cX5_one 30 = .ok (.bipush 40, 2) := by decide +kernel
theorem dX5_one_32 : decode cX5_one 32 = .ok (.if_icmp .eq 15, 3) := by decide +kernel
theorem dX5_one_35 : decode cX5_one 35 = .ok (.iload_n 2, 1) := by decide +kernel
theorem dX5_one_36 : decode cX5_one 36 = .ok (.bipush 24, 2) := by decide +kernel
theorem dX5_one_38 : decode cX5_one 38 = .ok (.if_icmp .eq 9, 3) := by decide +kernel
theorem dX5_one_41 : decode cX5_one 41 = .ok (.iload_n 2, 1) := by decide +kernel
theorem dX5_one_42 : decode cX5_one 42 = .ok (.bipush 25, 2) := by decide +kernel
theorem dX5_one_44 : decode cX5_one 44 = .ok (.if_icmp .ne 7, 3) := by decide +kernel
theorem dX5_one_47 : decode cX5_one 47 = .ok (.iconst 1, 1) := by decide +kernel
theorem dX5_one_48 : decode cX5_one 48 = .ok (.goto 4, 3) := by decide +kernel
theorem dX5_one_51 : decode cX5_one 51 = .ok (.iconst 0, 1) := by decide +kernel
theorem dX5_one_52 : decode cX5_one 52 = .ok (.istore_n 3, 1) := by decide +kernel
theorem dX5_one_53 : decode cX5_one 53 = .ok (.iload_n 3, 1) := by decide +kernel
theorem dX5_one_54 : decode cX5_one 54 = .ok (.ifCond .ne 21, 3) := by decide +kernel
theorem dX5_one_57 : decode cX5_one 57 = .ok (.iload_n 2, 1) := by decide +kernel
theorem dX5_one_58 : decode cX5_one 58 = .ok (.bipush 43, 2) := by decide +kernel
theorem dX5_one_60 : decode cX5_one 60 = .ok (.if_icmp .eq 15, 3) := by decide +kernel
theorem dX5_one_63 : decode cX5_one 63 = .ok (.iload_n 2, 1) := by decide +kernel
theorem dX5_one_64 : decode cX5_one 64 = .ok (.bipush 26, 2) := by decide +kernel
theorem dX5_one_66 : decode cX5_one 66 = .ok (.if_icmp .eq 9, 3) := by decide +kernel
theorem dX5_one_69 : decode cX5_one 69 = .ok (.aload_n 0, 1) := by decide +kernel
theorem dX5_one_70 : decode cX5_one 70 = .ok (.iconst 1, 1) := by decide +kernel
theorem dX5_one_71 : decode cX5_one 71 = .ok (.invokevirtual 59, 3) := by decide +kernel
theorem dX5_one_74 : decode cX5_one 74 = .ok (.ireturn, 1) := by decide +kernel
theorem dX5_one_75 : decode cX5_one 75 = .ok (.iload_n 1, 1) := by decide +kernel
theorem dX5_one_76 : decode cX5_one 76 = .ok (.bipush 8, 2) := by decide +kernel
theorem dX5_one_78 : decode cX5_one 78 = .ok (.if_icmp .lt 9, 3) := by decide +kernel
theorem dX5_one_81 : decode cX5_one 81 = .ok (.aload_n 0, 1) := by decide +kernel
theorem dX5_one_82 : decode cX5_one 82 = .ok (.iconst 3, 1) := by decide +kernel
theorem dX5_one_83 : decode cX5_one 83 = .ok (.invokevirtual 59, 3) := by decide +kernel
theorem dX5_one_86 : decode cX5_one 86 = .ok (.ireturn, 1) := by decide +kernel
theorem dX5_one_87 : decode cX5_one 87 = .ok (.aload_n 0, 1) := by decide +kernel
theorem dX5_one_88 : decode cX5_one 88 = .ok (.invokevirtual 62, 3) := by decide +kernel
theorem dX5_one_91 : decode cX5_one 91 = .ok (.iload_n 2, 1) := by decide +kernel
theorem dX5_one_92 : decode cX5_one 92 = .ok (.bipush 43, 2) := by decide +kernel
theorem dX5_one_94 : decode cX5_one 94 = .ok (.if_icmp .ne 28, 3) := by decide +kernel
theorem dX5_one_97 : decode cX5_one 97 = .ok (.aload_n 0, 1) := by decide +kernel
theorem dX5_one_98 : decode cX5_one 98 = .ok (.iload_n 1, 1) := by decide +kernel
theorem dX5_one_99 : decode cX5_one 99 = .ok (.iconst 1, 1) := by decide +kernel
theorem dX5_one_100 : decode cX5_one 100 = .ok (.iadd, 1) := by decide +kernel
theorem dX5_one_101 : decode cX5_one 101 = .ok (.invokevirtual 81, 3) := by decide +kernel
theorem dX5_one_104 : decode cX5_one 104 = .ok (.ifCond .eq 16, 3) := by decide +kernel
theorem dX5_one_107 : decode cX5_one 107 = .ok (.aload_n 0, 1) := by decide +kernel
theorem dX5_one_108 : decode cX5_one 108 = .ok (.bipush 44, 2) := by decide +kernel
theorem dX5_one_110 : decode cX5_one 110 = .ok (.invokevirtual 78, 3) := by decide +kernel
theorem dX5_one_113 : decode cX5_one 113 = .ok (.ifCond .eq 7, 3) := by decide +kernel
theorem dX5_one_116 : decode cX5_one 116 = .ok (.iconst 1, 1) := by decide +kernel
theorem dX5_one_117 : decode cX5_one 117 = .ok (.goto 4, 3) := by decide +kernel
theorem dX5_one_120 : decode cX5_one 120 = .ok (.iconst 0, 1) := by decide +kernel
theorem dX5_one_121 : decode cX5_one 121 = .ok (.ireturn, 1) := by decide +kernel
theorem dX5_one_122 : decode cX5_one 122 = .ok (.iload_n 2, 1) := by decide +kernel
theorem dX5_one_123 : decode cX5_one 123 = .ok (.bipush 26, 2) := by decide +kernel
theorem dX5_one_125 : decode cX5_one 125 = .ok (.if_icmp .ne 11, 3) := by decide +kernel
theorem dX5_one_128 : decode cX5_one 128 = .ok (.aload_n 0, 1) := by decide +kernel
theorem dX5_one_129 : decode cX5_one 129 = .ok (.iload_n 1, 1) := by decide +kernel
theorem dX5_one_130 : decode cX5_one 130 = .ok (.iconst 1, 1) := by decide +kernel
theorem dX5_one_131 : decode cX5_one 131 = .ok (.iadd, 1) := by decide +kernel
theorem dX5_one_132 : decode cX5_one 132 = .ok (.invokevirtual 109, 3) := by decide +kernel
theorem dX5_one_135 : decode cX5_one 135 = .ok (.ireturn, 1) := by decide +kernel
theorem dX5_one_136 : decode cX5_one 136 = .ok (.aload_n 0, 1) := by decide +kernel
theorem dX5_one_137 : decode cX5_one 137 = .ok (.iload_n 1, 1) := by decide +kernel
theorem dX5_one_138 : decode cX5_one 138 = .ok (.iconst 1, 1) := by decide +kernel
theorem dX5_one_139 : decode cX5_one 139 = .ok (.iadd, 1) := by decide +kernel
theorem dX5_one_140 : decode cX5_one 140 = .ok (.invokevirtual 103, 3) := by decide +kernel
theorem dX5_one_143 : decode cX5_one 143 = .ok (.ifCond .ne 5, 3) := by decide +kernel
theorem dX5_one_146 : decode cX5_one 146 = .ok (.iconst 0, 1) := by decide +kernel
theorem dX5_one_147 : decode cX5_one 147 = .ok (.ireturn, 1) := by decide +kernel
theorem dX5_one_148 : decode cX5_one 148 = .ok (.aload_n 0, 1) := by decide +kernel
theorem dX5_one_149 : decode cX5_one 149 = .ok (.getfield 18, 3) := by decide +kernel
theorem dX5_one_152 : decode cX5_one 152 = .ok (.iload_n 2, 1) := by decide +kernel
theorem dX5_one_153 : decode cX5_one 153 = .ok (.bipush 40, 2) := by decide +kernel
theorem dX5_one_155 : decode cX5_one 155 = .ok (.if_icmp .ne 8, 3) := by decide +kernel
theorem dX5_one_158 : decode cX5_one 158 = .ok (.bipush 49, 2) := by decide +kernel
theorem dX5_one_160 : decode cX5_one 160 = .ok (.goto 4, 3) := by decide +kernel
theorem dX5_one_163 : decode cX5_one 163 = .ok (.iload_n 2, 1) := by decide +kernel
theorem dX5_one_164 : decode cX5_one 164 = .ok (.iconst 0, 1) := by decide +kernel
theorem dX5_one_165 : decode cX5_one 165 = .ok (.invokevirtual 99, 3) := by decide +kernel
theorem dX5_one_168 : decode cX5_one 168 = .ok (.iconst 1, 1) := by decide +kernel
theorem dX5_one_169 : decode cX5_one 169 = .ok (.ireturn, 1) := by decide +kernel
theorem dX5_choice_0 : decode cX5_choice 0 = .ok (.aload_n 0, 1) := by decide +kernel
theorem dX5_choice_1 : decode cX5_choice 1 = .ok (.iload_n 1, 1) := by decide +kernel
theorem dX5_choice_2 : decode cX5_choice 2 = .ok (.invokevirtual 116, 3) := by decide +kernel
theorem dX5_choice_5 : decode cX5_choice 5 = .ok (.ifCond .eq 12, 3) := by decide +kernel
theorem dX5_choice_8 : decode cX5_choice 8 = .ok (.aload_n 0, 1) := by decide +kernel
theorem dX5_choice_9 : decode cX5_choice 9 = .ok (.bipush 27, 2) := by decide +kernel
theorem dX5_choice_11 : decode cX5_choice 11 = .ok (.invokevirtual 78, 3) := by decide +kernel
theorem dX5_choice_14 : decode cX5_choice 14 = .ok (.ifCond .ne 5, 3) := by decide +kernel
theorem dX5_choice_17 : decode cX5_choice 17 = .ok (.iconst 0, 1) := by decide +kernel
theorem dX5_choice_18 : decode cX5_choice 18 = .ok (.ireturn, 1) := by decide +kernel
theorem dX5_choice_19 : decode cX5_choice 19 = .ok (.aload_n 0, 1) := by decide +kernel
theorem dX5_choice_20 : decode cX5_choice 20 = .ok (.getfield 18, 3) := by decide +kernel
theorem dX5_choice_23 : decode cX5_choice 23 = .ok (.bipush 27, 2) := by decide +kernel
theorem dX5_choice_25 : decode cX5_choice 25 = .ok (.invokevirtual 119, 3) := by decide +kernel
theorem dX5_choice_28 : decode cX5_choice 28 = .ok (.istore_n 2, 1) := by decide +kernel
theorem dX5_choice_29 : decode cX5_choice 29 = .ok (.aload_n 0, 1) := by decide +kernel
theorem dX5_choice_30 : decode cX5_choice 30 = .ok (.iload_n 1, 1) := by decide +kernel
theorem dX5_choice_31 : decode cX5_choice 31 = .ok (.invokevirtual 81, 3) := by decide +kernel
theorem dX5_choice_34 : decode cX5_choice 34 = .ok (.ifCond .eq 12, 3) := by decide +kernel
theorem dX5_choice_37 : decode cX5_choice 37 = .ok (.aload_n 0, 1) := by decide +kernel
theorem dX5_choice_38 : decode cX5_choice 38 = .ok (.bipush 28, 2) := by decide +kernel
theorem dX5_choice_40 : decode cX5_choice 40 = .ok (.invokevirtual 78, 3) := by decide +kernel
theorem dX5_choice_43 : decode cX5_choice 43 = .ok (.ifCond .ne 5, 3) := by decide +kernel
theorem dX5_choice_46 : decode cX5_choice 46 = .ok (.iconst 0, 1) := by decide +kernel
theorem dX5_choice_47 : decode cX5_choice 47 = .ok (.ireturn, 1) := by decide +kernel
theorem dX5_choice_48 : decode cX5_choice 48 = .ok (.aload_n 0, 1) := by decide +kernel
theorem dX5_choice_49 : decode cX5_choice 49 = .ok (.getfield 18, 3) := by decide +kernel
theorem dX5_choice_52 : decode cX5_choice 52 = .ok (.bipush 28, 2) := by decide +kernel
theorem dX5_choice_54 : decode cX5_choice 54 = .ok (.invokevirtual 119, 3) := by decide +kernel
theorem dX5_choice_57 : decode cX5_choice 57 = .ok (.istore_n 3, 1) := by decide +kernel
theorem dX5_choice_58 : decode cX5_choice 58 = .ok (.aload_n 0, 1) := by decide +kernel
theorem dX5_choice_59 : decode cX5_choice 59 = .ok (.getfield 18, 3) := by decide +kernel
theorem dX5_choice_62 : decode cX5_choice 62 = .ok (.iload_n 2, 1) := by decide +kernel
theorem dX5_choice_63 : decode cX5_choice 63 = .ok (.bipush 27, 2) := by decide +kernel
theorem dX5_choice_65 : decode cX5_choice 65 = .ok (.invokevirtual 122, 3) := by decide +kernel
theorem dX5_choice_68 : decode cX5_choice 68 = .ok (.aload_n 0, 1) := by decide +kernel
theorem dX5_choice_69 : decode cX5_choice 69 = .ok (.iload_n 1, 1) := by decide +kernel
theorem dX5_choice_70 : decode cX5_choice 70 = .ok (.invokevirtual 81, 3) := by decide +kernel
theorem dX5_choice_73 : decode cX5_choice 73 = .ok (.ifCond .eq 12, 3) := by decide +kernel
theorem dX5_choice_76 : decode cX5_choice 76 = .ok (.aload_n 0, 1) := by decide +kernel
theorem dX5_choice_77 : decode cX5_choice 77 = .ok (.bipush 29, 2) := by decide +kernel
theorem dX5_choice_79 : decode cX5_choice 79 = .ok (.invokevirtual 78, 3) := by decide +kernel
theorem dX5_choice_82 : decode cX5_choice 82 = .ok (.ifCond .ne 5, 3) := by decide +kernel
theorem dX5_choice_85 : decode cX5_choice 85 = .ok (.iconst 0, 1) := by decide +kernel
theorem dX5_choice_86 : decode cX5_choice 86 = .ok (.ireturn, 1) := by decide +kernel
theorem dX5_choice_87 : decode cX5_choice 87 = .ok (.aload_n 0, 1) := by decide +kernel
theorem dX5_choice_88 : decode cX5_choice 88 = .ok (.getfield 18, 3) := by decide +kernel
theorem dX5_choice_91 : decode cX5_choice 91 = .ok (.iload_n 3, 1) := by decide +kernel
theorem dX5_choice_92 : decode cX5_choice 92 = .ok (.bipush 28, 2) := by decide +kernel
theorem dX5_choice_94 : decode cX5_choice 94 = .ok (.invokevirtual 122, 3) := by decide +kernel
theorem dX5_choice_97 : decode cX5_choice 97 = .ok (.iconst 1, 1) := by decide +kernel
theorem dX5_choice_98 : decode cX5_choice 98 = .ok (.ireturn, 1) := by decide +kernel
theorem dX5_either_0 : decode cX5_either 0 = .ok (.aload_n 0, 1) := by decide +kernel
theorem dX5_either_1 : decode cX5_either 1 = .ok (.iload_n 1, 1) := by decide +kernel
theorem dX5_either_2 : decode cX5_either 2 = .ok (.invokevirtual 125, 3) := by decide +kernel
theorem dX5_either_5 : decode cX5_either 5 = .ok (.ifCond .ne 5, 3) := by decide +kernel
theorem dX5_either_8 : decode cX5_either 8 = .ok (.iconst 0, 1) := by decide +kernel
theorem dX5_either_9 : decode cX5_either 9 = .ok (.ireturn, 1) := by decide +kernel
theorem dX5_either_10 : decode cX5_either 10 = .ok (.iconst 0, 1) := by decide +kernel
theorem dX5_either_11 : decode cX5_either 11 = .ok (.istore_n 2, 1) := by decide +kernel
theorem dX5_either_12 : decode cX5_either 12 = .ok (.iload_n 2, 1) := by decide +kernel
theorem dX5_either_13 : decode cX5_either 13 = .ok (.sipush 300, 3) := by decide +kernel
theorem dX5_either_16 : decode cX5_either 16 = .ok (.if_icmp .ge 42, 3) := by decide +kernel
theorem dX5_either_19 : decode cX5_either 19 = .ok (.aload_n 0, 1) := by decide +kernel
theorem dX5_either_20 : decode cX5_either 20 = .ok (.invokevirtual 42, 3) := by decide +kernel
theorem dX5_either_23 : decode cX5_either 23 = .ok (.bipush 32, 2) := by decide +kernel
theorem dX5_either_25 : decode cX5_either 25 = .ok (.if_icmp .ne 33, 3) := by decide +kernel
theorem dX5_either_28 : decode cX5_either 28 = .ok (.aload_n 0, 1) := by decide +kernel
theorem dX5_either_29 : decode cX5_either 29 = .ok (.invokevirtual 62, 3) := by decide +kernel
theorem dX5_either_32 : decode cX5_either 32 = .ok (.aload_n 0, 1) := by decide +kernel
theorem dX5_either_33 : decode cX5_either 33 = .ok (.iload_n 1, 1) := by decide +kernel
theorem dX5_either_34 : decode cX5_either 34 = .ok (.invokevirtual 125, 3) := by decide +kernel
theorem dX5_either_37 : decode cX5_either 37 = .ok (.ifCond .ne 5, 3) := by decide +kernel
theorem dX5_either_40 : decode cX5_either 40 = .ok (.iconst 0, 1) := by decide +kernel
theorem dX5_either_41 : decode cX5_either 41 = .ok (.ireturn, 1) := by decide +kernel
theorem dX5_either_42 : decode cX5_either 42 = .ok (.aload_n 0, 1) := by decide +kernel
theorem dX5_either_43 : decode cX5_either 43 = .ok (.getfield 18, 3) := by decide +kernel
theorem dX5_either_46 : decode cX5_either 46 = .ok (.bipush 32, 2) := by decide +kernel
theorem dX5_either_48 : decode cX5_either 48 = .ok (.iconst 0, 1) := by decide +kernel
theorem dX5_either_49 : decode cX5_either 49 = .ok (.invokevirtual 99, 3) := by decide +kernel
theorem dX5_either_52 : decode cX5_either 52 = .ok (.iinc 2 1, 3) := by decide +kernel
theorem dX5_either_55 : decode cX5_either 55 = .ok (.goto (-43), 3) := by decide +kernel
theorem dX5_either_58 : decode cX5_either 58 = .ok (.iconst 1, 1) := by decide +kernel
theorem dX5_either_59 : decode cX5_either 59 = .ok (.ireturn, 1) := by decide +kernel
theorem dX5_both_0 : decode cX5_both 0 = .ok (.aload_n 0, 1) := by decide +kernel
theorem dX5_both_1 : decode cX5_both 1 = .ok (.iload_n 1, 1) := by decide +kernel
theorem dX5_both_2 : decode cX5_both 2 = .ok (.invokevirtual 128, 3) := by decide +kernel
theorem dX5_both_5 : decode cX5_both 5 = .ok (.ifCond .ne 5, 3) := by decide +kernel
theorem dX5_both_8 : decode cX5_both 8 = .ok (.iconst 0, 1) := by decide +kernel
theorem dX5_both_9 : decode cX5_both 9 = .ok (.ireturn, 1) := by decide +kernel
theorem dX5_both_10 : decode cX5_both 10 = .ok (.iconst 0, 1) := by decide +kernel
theorem dX5_both_11 : decode cX5_both 11 = .ok (.istore_n 2, 1) := by decide +kernel
theorem dX5_both_12 : decode cX5_both 12 = .ok (.iload_n 2, 1) := by decide +kernel
theorem dX5_both_13 : decode cX5_both 13 = .ok (.sipush 300, 3) := by decide +kernel
theorem dX5_both_16 : decode cX5_both 16 = .ok (.if_icmp .ge 42, 3) := by decide +kernel
theorem dX5_both_19 : decode cX5_both 19 = .ok (.aload_n 0, 1) := by decide +kernel
theorem dX5_both_20 : decode cX5_both 20 = .ok (.invokevirtual 42, 3) := by decide +kernel
theorem dX5_both_23 : decode cX5_both 23 = .ok (.bipush 31, 2) := by decide +kernel
theorem dX5_both_25 : decode cX5_both 25 = .ok (.if_icmp .ne 33, 3) := by decide +kernel
theorem dX5_both_28 : decode cX5_both 28 = .ok (.aload_n 0, 1) := by decide +kernel
theorem dX5_both_29 : decode cX5_both 29 = .ok (.invokevirtual 62, 3) := by decide +kernel
theorem dX5_both_32 : decode cX5_both 32 = .ok (.aload_n 0, 1) := by decide +kernel
theorem dX5_both_33 : decode cX5_both 33 = .ok (.iload_n 1, 1) := by decide +kernel
theorem dX5_both_34 : decode cX5_both 34 = .ok (.invokevirtual 128, 3) := by decide +kernel
theorem dX5_both_37 : decode cX5_both 37 = .ok (.ifCond .ne 5, 3) := by decide +kernel
theorem dX5_both_40 : decode cX5_both 40 = .ok (.iconst 0, 1) := by decide +kernel
theorem dX5_both_41 : decode cX5_both 41 = .ok (.ireturn, 1) := by decide +kernel
theorem dX5_both_42 : decode cX5_both 42 = .ok (.aload_n 0, 1) := by decide +kernel
theorem dX5_both_43 : decode cX5_both 43 = .ok (.getfield 18, 3) := by decide +kernel
theorem dX5_both_46 : decode cX5_both 46 = .ok (.bipush 31, 2) := by decide +kernel
theorem dX5_both_48 : decode cX5_both 48 = .ok (.iconst 0, 1) := by decide +kernel
theorem dX5_both_49 : decode cX5_both 49 = .ok (.invokevirtual 99, 3) := by decide +kernel
theorem dX5_both_52 : decode cX5_both 52 = .ok (.iinc 2 1, 3) := by decide +kernel
theorem dX5_both_55 : decode cX5_both 55 = .ok (.goto (-43), 3) := by decide +kernel
theorem dX5_both_58 : decode cX5_both 58 = .ok (.iconst 1, 1) := by decide +kernel
theorem dX5_both_59 : decode cX5_both 59 = .ok (.ireturn, 1) := by decide +kernel
theorem dX5_ask_0 : decode cX5_ask 0 = .ok (.aload_n 0, 1) := by decide +kernel
theorem dX5_ask_1 : decode cX5_ask 1 = .ok (.invokevirtual 42, 3) := by decide +kernel
theorem dX5_ask_4 : decode cX5_ask 4 = .ok (.bipush 30, 2) := by decide +kernel
theorem dX5_ask_6 : decode cX5_ask 6 = .ok (.if_icmp .ne 43, 3) := by decide +kernel
theorem dX5_ask_9 : decode cX5_ask 9 = .ok (.iload_n 1, 1) := by decide +kernel
theorem dX5_ask_10 : decode cX5_ask 10 = .ok (.bipush 8, 2) := by decide +kernel
theorem dX5_ask_12 : decode cX5_ask 12 = .ok (.if_icmp .lt 9, 3) := by decide +kernel
theorem dX5_ask_15 : decode cX5_ask 15 = .ok (.aload_n 0, 1) := by decide +kernel
theorem dX5_ask_16 : decode cX5_ask 16 = .ok (.iconst 3, 1) := by decide +kernel
theorem dX5_ask_17 : decode cX5_ask 17 = .ok (.invokevirtual 59, 3) := by decide +kernel
theorem dX5_ask_20 : decode cX5_ask 20 = .ok (.ireturn, 1) := by decide +kernel
theorem dX5_ask_21 : decode cX5_ask 21 = .ok (.aload_n 0, 1) := by decide +kernel
theorem dX5_ask_22 : decode cX5_ask 22 = .ok (.invokevirtual 62, 3) := by decide +kernel
theorem dX5_ask_25 : decode cX5_ask 25 = .ok (.aload_n 0, 1) := by decide +kernel
theorem dX5_ask_26 : decode cX5_ask 26 = .ok (.iload_n 1, 1) := by decide +kernel
theorem dX5_ask_27 : decode cX5_ask 27 = .ok (.iconst 1, 1) := by decide +kernel
theorem dX5_ask_28 : decode cX5_ask 28 = .ok (.iadd, 1) := by decide +kernel
theorem dX5_ask_29 : decode cX5_ask 29 = .ok (.invokevirtual 128, 3) := by decide +kernel
theorem dX5_ask_32 : decode cX5_ask 32 = .ok (.ifCond .ne 5, 3) := by decide +kernel
theorem dX5_ask_35 : decode cX5_ask 35 = .ok (.iconst 0, 1) := by decide +kernel
theorem dX5_ask_36 : decode cX5_ask 36 = .ok (.ireturn, 1) := by decide +kernel
theorem dX5_ask_37 : decode cX5_ask 37 = .ok (.aload_n 0, 1) := by decide +kernel
theorem dX5_ask_38 : decode cX5_ask 38 = .ok (.getfield 18, 3) := by decide +kernel
theorem dX5_ask_41 : decode cX5_ask 41 = .ok (.bipush 30, 2) := by decide +kernel
theorem dX5_ask_43 : decode cX5_ask 43 = .ok (.iconst 0, 1) := by decide +kernel
theorem dX5_ask_44 : decode cX5_ask 44 = .ok (.invokevirtual 99, 3) := by decide +kernel
theorem dX5_ask_47 : decode cX5_ask 47 = .ok (.iconst 1, 1) := by decide +kernel
theorem dX5_ask_48 : decode cX5_ask 48 = .ok (.ireturn, 1) := by decide +kernel
theorem dX5_ask_49 : decode cX5_ask 49 = .ok (.aload_n 0, 1) := by decide +kernel
theorem dX5_ask_50 : decode cX5_ask 50 = .ok (.iload_n 1, 1) := by decide +kernel
theorem dX5_ask_51 : decode cX5_ask 51 = .ok (.invokevirtual 81, 3) := by decide +kernel
theorem dX5_ask_54 : decode cX5_ask 54 = .ok (.ifCond .ne 5, 3) := by decide +kernel
theorem dX5_ask_57 : decode cX5_ask 57 = .ok (.iconst 0, 1) := by decide +kernel
theorem dX5_ask_58 : decode cX5_ask 58 = .ok (.ireturn, 1) := by decide +kernel
theorem dX5_ask_59 : decode cX5_ask 59 = .ok (.aload_n 0, 1) := by decide +kernel
theorem dX5_ask_60 : decode cX5_ask 60 = .ok (.invokevirtual 42, 3) := by decide +kernel
theorem dX5_ask_63 : decode cX5_ask 63 = .ok (.istore_n 2, 1) := by decide +kernel
theorem dX5_ask_64 : decode cX5_ask 64 = .ok (.iload_n 2, 1) := by decide +kernel
theorem dX5_ask_65 : decode cX5_ask 65 = .ok (.bipush 33, 2) := by decide +kernel
theorem dX5_ask_67 : decode cX5_ask 67 = .ok (.if_icmp .lt 9, 3) := by decide +kernel
theorem dX5_ask_70 : decode cX5_ask 70 = .ok (.iload_n 2, 1) := by decide +kernel
theorem dX5_ask_71 : decode cX5_ask 71 = .ok (.bipush 38, 2) := by decide +kernel
theorem dX5_ask_73 : decode cX5_ask 73 = .ok (.if_icmp .le 9, 3) := by decide +kernel
theorem dX5_ask_76 : decode cX5_ask 76 = .ok (.aload_n 0, 1) := by decide +kernel
theorem dX5_ask_77 : decode cX5_ask 77 = .ok (.iconst 1, 1) := by decide +kernel
theorem dX5_ask_78 : decode cX5_ask 78 = .ok (.invokevirtual 59, 3) := by decide +kernel
theorem dX5_ask_81 : decode cX5_ask 81 = .ok (.ireturn, 1) := by decide +kernel
theorem dX5_ask_82 : decode cX5_ask 82 = .ok (.aload_n 0, 1) := by decide +kernel
theorem dX5_ask_83 : decode cX5_ask 83 = .ok (.invokevirtual 62, 3) := by decide +kernel
theorem dX5_ask_86 : decode cX5_ask 86 = .ok (.aload_n 0, 1) := by decide +kernel
theorem dX5_ask_87 : decode cX5_ask 87 = .ok (.iload_n 1, 1) := by decide +kernel
theorem dX5_ask_88 : decode cX5_ask 88 = .ok (.invokevirtual 81, 3) := by decide +kernel
theorem dX5_ask_91 : decode cX5_ask 91 = .ok (.ifCond .ne 5, 3) := by decide +kernel
theorem dX5_ask_94 : decode cX5_ask 94 = .ok (.iconst 0, 1) := by decide +kernel
theorem dX5_ask_95 : decode cX5_ask 95 = .ok (.ireturn, 1) := by decide +kernel
theorem dX5_ask_96 : decode cX5_ask 96 = .ok (.aload_n 0, 1) := by decide +kernel
theorem dX5_ask_97 : decode cX5_ask 97 = .ok (.getfield 18, 3) := by decide +kernel
theorem dX5_ask_100 : decode cX5_ask 100 = .ok (.iload_n 2, 1) := by decide +kernel
theorem dX5_ask_101 : decode cX5_ask 101 = .ok (.iconst 0, 1) := by decide +kernel
theorem dX5_ask_102 : decode cX5_ask 102 = .ok (.invokevirtual 99, 3) := by decide +kernel
theorem dX5_ask_105 : decode cX5_ask 105 = .ok (.iconst 1, 1) := by decide +kernel
theorem dX5_ask_106 : decode cX5_ask 106 = .ok (.ireturn, 1) := by decide +kernel
def f_X5_sumB_39 (N : Nat) (rc : Nat → Int32 → Int32 → (Nat → Int32) → (Nat → Int32) → (Nat → Int32) → Int32 → (Nat → Int32) → Int32 → Int32 → Int32 → Int32 → Int32 → Option (Int32 × Int32 × (Nat → Int32) × Int32 × Int32 × Int32)) (k_12 : Int32 → Int32 → (Nat → Int32) → (Nat → Int32) → (Nat → Int32) → Int32 → (Nat → Int32) → Int32 → Int32 → Int32 → Int32 → Int32 → Int32 → Option (Int32 × Int32 × (Nat → Int32) × Int32 × Int32 × Int32)) (b_len : Int32) (b_tok : Int32) (b_ki : Nat → Int32) (b_pl : Nat → Int32) (b_nu : Nat → Int32) (x_ln : Int32) (x_code : Nat → Int32) (e_fault : Int32) (e_place : Int32) (e_at : Int32) (e_law : Int32) (x1 : Int32) (x2 : Int32) (x3 : Int32) : Option (Int32 × Int32 × (Nat → Int32) × Int32 × Int32 × Int32) := ob1 (f_X5_next N b_tok e_at) fun e_at_40 => ob6 (rc 1 b_len b_tok b_ki b_pl b_nu x_ln x_code e_fault e_place e_at_40 e_law x1) fun r45 x_ln_45 x_code_45 e_fault_45 e_place_45 e_at_45 => if r45 = 0 then (some ((0 : Int32), x_ln_45, x_code_45, e_fault_45, e_place_45, e_at_45)) else (ob2 (f_X9_put N x_ln_45 x_code_45 x3 (0 : Int32)) fun x_ln_59 x_code_59 => k_12 b_len b_tok b_ki b_pl b_nu x_ln_59 x_code_59 e_fault_45 e_place_45 e_at_45 e_law x1 (x2 + (1 : Int32)))
def f_X5_sumB_12 (N : Nat) (rc : Nat → Int32 → Int32 → (Nat → Int32) → (Nat → Int32) → (Nat → Int32) → Int32 → (Nat → Int32) → Int32 → Int32 → Int32 → Int32 → Int32 → Option (Int32 × Int32 × (Nat → Int32) × Int32 × Int32 × Int32)) : Nat → Int32 → Int32 → (Nat → Int32) → (Nat → Int32) → (Nat → Int32) → Int32 → (Nat → Int32) → Int32 → Int32 → Int32 → Int32 → Int32 → Int32 → Option (Int32 × Int32 × (Nat → Int32) × Int32 × Int32 × Int32)
  | 0, _, _, _, _, _, _, _, _, _, _, _, _, _ => none
  | n + 1, b_len, b_tok, b_ki, b_pl, b_nu, x_ln, x_code, e_fault, e_place, e_at, e_law, x1, x2 => if (300 : Int32) ≤ x2 then (some ((1 : Int32), x_ln, x_code, e_fault, e_place, e_at)) else (ob1 (f_X5_token N b_tok b_ki e_at) fun r20 => if r20 = (39 : Int32) then (f_X5_sumB_39 N rc (f_X5_sumB_12 N rc n) b_len b_tok b_ki b_pl b_nu x_ln x_code e_fault e_place e_at e_law x1 x2 r20) else (if r20 = (40 : Int32) then (f_X5_sumB_39 N rc (f_X5_sumB_12 N rc n) b_len b_tok b_ki b_pl b_nu x_ln x_code e_fault e_place e_at e_law x1 x2 r20) else (some ((1 : Int32), x_ln, x_code, e_fault, e_place, e_at))))
def f_X5_sumB (N : Nat) (rc : Nat → Int32 → Int32 → (Nat → Int32) → (Nat → Int32) → (Nat → Int32) → Int32 → (Nat → Int32) → Int32 → Int32 → Int32 → Int32 → Int32 → Option (Int32 × Int32 × (Nat → Int32) × Int32 × Int32 × Int32)) (b_len : Int32) (b_tok : Int32) (b_ki : Nat → Int32) (b_pl : Nat → Int32) (b_nu : Nat → Int32) (x_ln : Int32) (x_code : Nat → Int32) (e_fault : Int32) (e_place : Int32) (e_at : Int32) (e_law : Int32) (p1 : Int32) : Option (Int32 × Int32 × (Nat → Int32) × Int32 × Int32 × Int32) := ob6 (rc 1 b_len b_tok b_ki b_pl b_nu x_ln x_code e_fault e_place e_at e_law p1) fun r2 x_ln_2 x_code_2 e_fault_2 e_place_2 e_at_2 => if r2 = 0 then (some ((0 : Int32), x_ln_2, x_code_2, e_fault_2, e_place_2, e_at_2)) else (f_X5_sumB_12 N rc N b_len b_tok b_ki b_pl b_nu x_ln_2 x_code_2 e_fault_2 e_place_2 e_at_2 e_law p1 (0 : Int32))

def f_X5_productB_39 (N : Nat) (rc : Nat → Int32 → Int32 → (Nat → Int32) → (Nat → Int32) → (Nat → Int32) → Int32 → (Nat → Int32) → Int32 → Int32 → Int32 → Int32 → Int32 → Option (Int32 × Int32 × (Nat → Int32) × Int32 × Int32 × Int32)) (k_12 : Int32 → Int32 → (Nat → Int32) → (Nat → Int32) → (Nat → Int32) → Int32 → (Nat → Int32) → Int32 → Int32 → Int32 → Int32 → Int32 → Int32 → Option (Int32 × Int32 × (Nat → Int32) × Int32 × Int32 × Int32)) (b_len : Int32) (b_tok : Int32) (b_ki : Nat → Int32) (b_pl : Nat → Int32) (b_nu : Nat → Int32) (x_ln : Int32) (x_code : Nat → Int32) (e_fault : Int32) (e_place : Int32) (e_at : Int32) (e_law : Int32) (x1 : Int32) (x2 : Int32) (x3 : Int32) : Option (Int32 × Int32 × (Nat → Int32) × Int32 × Int32 × Int32) := ob1 (f_X5_next N b_tok e_at) fun e_at_40 => ob6 (rc 2 b_len b_tok b_ki b_pl b_nu x_ln x_code e_fault e_place e_at_40 e_law x1) fun r45 x_ln_45 x_code_45 e_fault_45 e_place_45 e_at_45 => if r45 = 0 then (some ((0 : Int32), x_ln_45, x_code_45, e_fault_45, e_place_45, e_at_45)) else (ob2 (f_X9_put N x_ln_45 x_code_45 x3 (0 : Int32)) fun x_ln_59 x_code_59 => k_12 b_len b_tok b_ki b_pl b_nu x_ln_59 x_code_59 e_fault_45 e_place_45 e_at_45 e_law x1 (x2 + (1 : Int32)))
def f_X5_productB_12 (N : Nat) (rc : Nat → Int32 → Int32 → (Nat → Int32) → (Nat → Int32) → (Nat → Int32) → Int32 → (Nat → Int32) → Int32 → Int32 → Int32 → Int32 → Int32 → Option (Int32 × Int32 × (Nat → Int32) × Int32 × Int32 × Int32)) : Nat → Int32 → Int32 → (Nat → Int32) → (Nat → Int32) → (Nat → Int32) → Int32 → (Nat → Int32) → Int32 → Int32 → Int32 → Int32 → Int32 → Int32 → Option (Int32 × Int32 × (Nat → Int32) × Int32 × Int32 × Int32)
  | 0, _, _, _, _, _, _, _, _, _, _, _, _, _ => none
  | n + 1, b_len, b_tok, b_ki, b_pl, b_nu, x_ln, x_code, e_fault, e_place, e_at, e_law, x1, x2 => if (300 : Int32) ≤ x2 then (some ((1 : Int32), x_ln, x_code, e_fault, e_place, e_at)) else (ob1 (f_X5_token N b_tok b_ki e_at) fun r20 => if r20 = (41 : Int32) then (f_X5_productB_39 N rc (f_X5_productB_12 N rc n) b_len b_tok b_ki b_pl b_nu x_ln x_code e_fault e_place e_at e_law x1 x2 r20) else (if r20 = (42 : Int32) then (f_X5_productB_39 N rc (f_X5_productB_12 N rc n) b_len b_tok b_ki b_pl b_nu x_ln x_code e_fault e_place e_at e_law x1 x2 r20) else (some ((1 : Int32), x_ln, x_code, e_fault, e_place, e_at))))
def f_X5_productB (N : Nat) (rc : Nat → Int32 → Int32 → (Nat → Int32) → (Nat → Int32) → (Nat → Int32) → Int32 → (Nat → Int32) → Int32 → Int32 → Int32 → Int32 → Int32 → Option (Int32 × Int32 × (Nat → Int32) × Int32 × Int32 × Int32)) (b_len : Int32) (b_tok : Int32) (b_ki : Nat → Int32) (b_pl : Nat → Int32) (b_nu : Nat → Int32) (x_ln : Int32) (x_code : Nat → Int32) (e_fault : Int32) (e_place : Int32) (e_at : Int32) (e_law : Int32) (p1 : Int32) : Option (Int32 × Int32 × (Nat → Int32) × Int32 × Int32 × Int32) := ob6 (rc 2 b_len b_tok b_ki b_pl b_nu x_ln x_code e_fault e_place e_at e_law p1) fun r2 x_ln_2 x_code_2 e_fault_2 e_place_2 e_at_2 => if r2 = 0 then (some ((0 : Int32), x_ln_2, x_code_2, e_fault_2, e_place_2, e_at_2)) else (f_X5_productB_12 N rc N b_len b_tok b_ki b_pl b_nu x_ln_2 x_code_2 e_fault_2 e_place_2 e_at_2 e_law p1 (0 : Int32))

def f_X5_oneB_23 (N : Nat) (rc : Nat → Int32 → Int32 → (Nat → Int32) → (Nat → Int32) → (Nat → Int32) → Int32 → (Nat → Int32) → Int32 → Int32 → Int32 → Int32 → Int32 → Option (Int32 × Int32 × (Nat → Int32) × Int32 × Int32 × Int32)) (b_len : Int32) (b_tok : Int32) (b_ki : Nat → Int32) (b_pl : Nat → Int32) (b_nu : Nat → Int32) (x_ln : Int32) (x_code : Nat → Int32) (e_fault : Int32) (e_place : Int32) (e_at : Int32) (e_law : Int32) (x2 : Int32) : Option (Int32 × Int32 × (Nat → Int32) × Int32 × Int32 × Int32) := ob6 (f_X5_leaf N b_len b_tok b_pl b_nu x_ln x_code e_fault e_place e_at e_law x2) fun r25 x_ln_25 x_code_25 e_fault_25 e_place_25 e_at_25 => some (r25, x_ln_25, x_code_25, e_fault_25, e_place_25, e_at_25)
def f_X5_oneB_164 (N : Nat) (rc : Nat → Int32 → Int32 → (Nat → Int32) → (Nat → Int32) → (Nat → Int32) → Int32 → (Nat → Int32) → Int32 → Int32 → Int32 → Int32 → Int32 → Option (Int32 × Int32 × (Nat → Int32) × Int32 × Int32 × Int32)) (b_len : Int32) (b_tok : Int32) (b_ki : Nat → Int32) (b_pl : Nat → Int32) (b_nu : Nat → Int32) (x_ln : Int32) (x_code : Nat → Int32) (e_fault : Int32) (e_place : Int32) (e_at : Int32) (e_law : Int32) (s1 : Int32) : Option (Int32 × Int32 × (Nat → Int32) × Int32 × Int32 × Int32) := ob2 (f_X9_put N x_ln x_code s1 (0 : Int32)) fun x_ln_165 x_code_165 => some ((1 : Int32), x_ln_165, x_code_165, e_fault, e_place, e_at)
def f_X5_oneB_75 (N : Nat) (rc : Nat → Int32 → Int32 → (Nat → Int32) → (Nat → Int32) → (Nat → Int32) → Int32 → (Nat → Int32) → Int32 → Int32 → Int32 → Int32 → Int32 → Option (Int32 × Int32 × (Nat → Int32) × Int32 × Int32 × Int32)) (b_len : Int32) (b_tok : Int32) (b_ki : Nat → Int32) (b_pl : Nat → Int32) (b_nu : Nat → Int32) (x_ln : Int32) (x_code : Nat → Int32) (e_fault : Int32) (e_place : Int32) (e_at : Int32) (e_law : Int32) (x1 : Int32) (x2 : Int32) : Option (Int32 × Int32 × (Nat → Int32) × Int32 × Int32 × Int32) := if x1 < (8 : Int32) then (ob1 (f_X5_next N b_tok e_at) fun e_at_88 => if x2 = (43 : Int32) then (ob6 (rc 0 b_len b_tok b_ki b_pl b_nu x_ln x_code e_fault e_place e_at_88 e_law (x1 + (1 : Int32))) fun r101 x_ln_101 x_code_101 e_fault_101 e_place_101 e_at_101 => if r101 = 0 then (some ((0 : Int32), x_ln_101, x_code_101, e_fault_101, e_place_101, e_at_101)) else (ob4 (f_X5_expect N b_len b_tok b_ki b_pl e_fault_101 e_place_101 e_at_101 (44 : Int32)) fun r110 e_fault_110 e_place_110 e_at_110 => if r110 = 0 then (some ((0 : Int32), x_ln_101, x_code_101, e_fault_110, e_place_110, e_at_110)) else (some ((1 : Int32), x_ln_101, x_code_101, e_fault_110, e_place_110, e_at_110)))) else (if x2 = (26 : Int32) then (ob6 (rc 3 b_len b_tok b_ki b_pl b_nu x_ln x_code e_fault e_place e_at_88 e_law (x1 + (1 : Int32))) fun r132 x_ln_132 x_code_132 e_fault_132 e_place_132 e_at_132 => some (r132, x_ln_132, x_code_132, e_fault_132, e_place_132, e_at_132)) else (ob6 (rc 2 b_len b_tok b_ki b_pl b_nu x_ln x_code e_fault e_place e_at_88 e_law (x1 + (1 : Int32))) fun r140 x_ln_140 x_code_140 e_fault_140 e_place_140 e_at_140 => if r140 = 0 then (some ((0 : Int32), x_ln_140, x_code_140, e_fault_140, e_place_140, e_at_140)) else (if x2 = (40 : Int32) then (f_X5_oneB_164 N rc b_len b_tok b_ki b_pl b_nu x_ln_140 x_code_140 e_fault_140 e_place_140 e_at_140 e_law (49 : Int32)) else (f_X5_oneB_164 N rc b_len b_tok b_ki b_pl b_nu x_ln_140 x_code_140 e_fault_140 e_place_140 e_at_140 e_law x2))))) else (ob3 (f_X5_fail N b_len b_tok b_pl e_fault e_place e_at (3 : Int32)) fun r83 e_fault_83 e_place_83 => some (r83, x_ln, x_code, e_fault_83, e_place_83, e_at))
def f_X5_oneB_52 (N : Nat) (rc : Nat → Int32 → Int32 → (Nat → Int32) → (Nat → Int32) → (Nat → Int32) → Int32 → (Nat → Int32) → Int32 → Int32 → Int32 → Int32 → Int32 → Option (Int32 × Int32 × (Nat → Int32) × Int32 × Int32 × Int32)) (b_len : Int32) (b_tok : Int32) (b_ki : Nat → Int32) (b_pl : Nat → Int32) (b_nu : Nat → Int32) (x_ln : Int32) (x_code : Nat → Int32) (e_fault : Int32) (e_place : Int32) (e_at : Int32) (e_law : Int32) (x1 : Int32) (x2 : Int32) (s0 : Int32) : Option (Int32 × Int32 × (Nat → Int32) × Int32 × Int32 × Int32) := if s0 = 0 then (if x2 = (43 : Int32) then (f_X5_oneB_75 N rc b_len b_tok b_ki b_pl b_nu x_ln x_code e_fault e_place e_at e_law x1 x2) else (if x2 = (26 : Int32) then (f_X5_oneB_75 N rc b_len b_tok b_ki b_pl b_nu x_ln x_code e_fault e_place e_at e_law x1 x2) else (ob3 (f_X5_fail N b_len b_tok b_pl e_fault e_place e_at (1 : Int32)) fun r71 e_fault_71 e_place_71 => some (r71, x_ln, x_code, e_fault_71, e_place_71, e_at)))) else (f_X5_oneB_75 N rc b_len b_tok b_ki b_pl b_nu x_ln x_code e_fault e_place e_at e_law x1 x2)
def f_X5_oneB_47 (N : Nat) (rc : Nat → Int32 → Int32 → (Nat → Int32) → (Nat → Int32) → (Nat → Int32) → Int32 → (Nat → Int32) → Int32 → Int32 → Int32 → Int32 → Int32 → Option (Int32 × Int32 × (Nat → Int32) × Int32 × Int32 × Int32)) (b_len : Int32) (b_tok : Int32) (b_ki : Nat → Int32) (b_pl : Nat → Int32) (b_nu : Nat → Int32) (x_ln : Int32) (x_code : Nat → Int32) (e_fault : Int32) (e_place : Int32) (e_at : Int32) (e_law : Int32) (x1 : Int32) (x2 : Int32) : Option (Int32 × Int32 × (Nat → Int32) × Int32 × Int32 × Int32) := f_X5_oneB_52 N rc b_len b_tok b_ki b_pl b_nu x_ln x_code e_fault e_place e_at e_law x1 x2 (1 : Int32)
def f_X5_oneB_29 (N : Nat) (rc : Nat → Int32 → Int32 → (Nat → Int32) → (Nat → Int32) → (Nat → Int32) → Int32 → (Nat → Int32) → Int32 → Int32 → Int32 → Int32 → Int32 → Option (Int32 × Int32 × (Nat → Int32) × Int32 × Int32 × Int32)) (b_len : Int32) (b_tok : Int32) (b_ki : Nat → Int32) (b_pl : Nat → Int32) (b_nu : Nat → Int32) (x_ln : Int32) (x_code : Nat → Int32) (e_fault : Int32) (e_place : Int32) (e_at : Int32) (e_law : Int32) (x1 : Int32) (x2 : Int32) : Option (Int32 × Int32 × (Nat → Int32) × Int32 × Int32 × Int32) := if x2 = (40 : Int32) then (f_X5_oneB_47 N rc b_len b_tok b_ki b_pl b_nu x_ln x_code e_fault e_place e_at e_law x1 x2) else (if x2 = (24 : Int32) then (f_X5_oneB_47 N rc b_len b_tok b_ki b_pl b_nu x_ln x_code e_fault e_place e_at e_law x1 x2) else (if x2 = (25 : Int32) then (f_X5_oneB_47 N rc b_len b_tok b_ki b_pl b_nu x_ln x_code e_fault e_place e_at e_law x1 x2) else (f_X5_oneB_52 N rc b_len b_tok b_ki b_pl b_nu x_ln x_code e_fault e_place e_at e_law x1 x2 (0 : Int32))))
def f_X5_oneB (N : Nat) (rc : Nat → Int32 → Int32 → (Nat → Int32) → (Nat → Int32) → (Nat → Int32) → Int32 → (Nat → Int32) → Int32 → Int32 → Int32 → Int32 → Int32 → Option (Int32 × Int32 × (Nat → Int32) × Int32 × Int32 × Int32)) (b_len : Int32) (b_tok : Int32) (b_ki : Nat → Int32) (b_pl : Nat → Int32) (b_nu : Nat → Int32) (x_ln : Int32) (x_code : Nat → Int32) (e_fault : Int32) (e_place : Int32) (e_at : Int32) (e_law : Int32) (p1 : Int32) : Option (Int32 × Int32 × (Nat → Int32) × Int32 × Int32 × Int32) := ob1 (f_X5_token N b_tok b_ki e_at) fun r1 => if r1 = (46 : Int32) then (f_X5_oneB_23 N rc b_len b_tok b_ki b_pl b_nu x_ln x_code e_fault e_place e_at e_law r1) else (if r1 < (11 : Int32) then (f_X5_oneB_29 N rc b_len b_tok b_ki b_pl b_nu x_ln x_code e_fault e_place e_at e_law p1 r1) else (if (20 : Int32) < r1 then (f_X5_oneB_29 N rc b_len b_tok b_ki b_pl b_nu x_ln x_code e_fault e_place e_at e_law p1 r1) else (f_X5_oneB_23 N rc b_len b_tok b_ki b_pl b_nu x_ln x_code e_fault e_place e_at e_law r1)))

def f_X5_choiceB (N : Nat) (rc : Nat → Int32 → Int32 → (Nat → Int32) → (Nat → Int32) → (Nat → Int32) → Int32 → (Nat → Int32) → Int32 → Int32 → Int32 → Int32 → Int32 → Option (Int32 × Int32 × (Nat → Int32) × Int32 × Int32 × Int32)) (b_len : Int32) (b_tok : Int32) (b_ki : Nat → Int32) (b_pl : Nat → Int32) (b_nu : Nat → Int32) (x_ln : Int32) (x_code : Nat → Int32) (e_fault : Int32) (e_place : Int32) (e_at : Int32) (e_law : Int32) (p1 : Int32) : Option (Int32 × Int32 × (Nat → Int32) × Int32 × Int32 × Int32) := ob6 (rc 4 b_len b_tok b_ki b_pl b_nu x_ln x_code e_fault e_place e_at e_law p1) fun r2 x_ln_2 x_code_2 e_fault_2 e_place_2 e_at_2 => if r2 = 0 then (some ((0 : Int32), x_ln_2, x_code_2, e_fault_2, e_place_2, e_at_2)) else (ob4 (f_X5_expect N b_len b_tok b_ki b_pl e_fault_2 e_place_2 e_at_2 (27 : Int32)) fun r11 e_fault_11 e_place_11 e_at_11 => if r11 = 0 then (some ((0 : Int32), x_ln_2, x_code_2, e_fault_11, e_place_11, e_at_11)) else (ob3 (f_X9_putLeap N x_ln_2 x_code_2 (27 : Int32)) fun r25 x_ln_25 x_code_25 => ob6 (rc 0 b_len b_tok b_ki b_pl b_nu x_ln_25 x_code_25 e_fault_11 e_place_11 e_at_11 e_law p1) fun r31 x_ln_31 x_code_31 e_fault_31 e_place_31 e_at_31 => if r31 = 0 then (some ((0 : Int32), x_ln_31, x_code_31, e_fault_31, e_place_31, e_at_31)) else (ob4 (f_X5_expect N b_len b_tok b_ki b_pl e_fault_31 e_place_31 e_at_31 (28 : Int32)) fun r40 e_fault_40 e_place_40 e_at_40 => if r40 = 0 then (some ((0 : Int32), x_ln_31, x_code_31, e_fault_40, e_place_40, e_at_40)) else (ob3 (f_X9_putLeap N x_ln_31 x_code_31 (28 : Int32)) fun r54 x_ln_54 x_code_54 => ob1 (f_X9_leapsHere N x_ln_54 x_code_54 r25 (27 : Int32)) fun x_code_65 => ob6 (rc 0 b_len b_tok b_ki b_pl b_nu x_ln_54 x_code_65 e_fault_40 e_place_40 e_at_40 e_law p1) fun r70 x_ln_70 x_code_70 e_fault_70 e_place_70 e_at_70 => if r70 = 0 then (some ((0 : Int32), x_ln_70, x_code_70, e_fault_70, e_place_70, e_at_70)) else (ob4 (f_X5_expect N b_len b_tok b_ki b_pl e_fault_70 e_place_70 e_at_70 (29 : Int32)) fun r79 e_fault_79 e_place_79 e_at_79 => if r79 = 0 then (some ((0 : Int32), x_ln_70, x_code_70, e_fault_79, e_place_79, e_at_79)) else (ob1 (f_X9_leapsHere N x_ln_70 x_code_70 r54 (28 : Int32)) fun x_code_94 => some ((1 : Int32), x_ln_70, x_code_94, e_fault_79, e_place_79, e_at_79)))))))

def f_X5_eitherB_12 (N : Nat) (rc : Nat → Int32 → Int32 → (Nat → Int32) → (Nat → Int32) → (Nat → Int32) → Int32 → (Nat → Int32) → Int32 → Int32 → Int32 → Int32 → Int32 → Option (Int32 × Int32 × (Nat → Int32) × Int32 × Int32 × Int32)) : Nat → Int32 → Int32 → (Nat → Int32) → (Nat → Int32) → (Nat → Int32) → Int32 → (Nat → Int32) → Int32 → Int32 → Int32 → Int32 → Int32 → Int32 → Option (Int32 × Int32 × (Nat → Int32) × Int32 × Int32 × Int32)
  | 0, _, _, _, _, _, _, _, _, _, _, _, _, _ => none
  | n + 1, b_len, b_tok, b_ki, b_pl, b_nu, x_ln, x_code, e_fault, e_place, e_at, e_law, x1, x2 => if (300 : Int32) ≤ x2 then (some ((1 : Int32), x_ln, x_code, e_fault, e_place, e_at)) else (ob1 (f_X5_token N b_tok b_ki e_at) fun r20 => if r20 = (32 : Int32) then (ob1 (f_X5_next N b_tok e_at) fun e_at_29 => ob6 (rc 5 b_len b_tok b_ki b_pl b_nu x_ln x_code e_fault e_place e_at_29 e_law x1) fun r34 x_ln_34 x_code_34 e_fault_34 e_place_34 e_at_34 => if r34 = 0 then (some ((0 : Int32), x_ln_34, x_code_34, e_fault_34, e_place_34, e_at_34)) else (ob2 (f_X9_put N x_ln_34 x_code_34 (32 : Int32) (0 : Int32)) fun x_ln_49 x_code_49 => (f_X5_eitherB_12 N rc n) b_len b_tok b_ki b_pl b_nu x_ln_49 x_code_49 e_fault_34 e_place_34 e_at_34 e_law x1 (x2 + (1 : Int32)))) else (some ((1 : Int32), x_ln, x_code, e_fault, e_place, e_at)))
def f_X5_eitherB (N : Nat) (rc : Nat → Int32 → Int32 → (Nat → Int32) → (Nat → Int32) → (Nat → Int32) → Int32 → (Nat → Int32) → Int32 → Int32 → Int32 → Int32 → Int32 → Option (Int32 × Int32 × (Nat → Int32) × Int32 × Int32 × Int32)) (b_len : Int32) (b_tok : Int32) (b_ki : Nat → Int32) (b_pl : Nat → Int32) (b_nu : Nat → Int32) (x_ln : Int32) (x_code : Nat → Int32) (e_fault : Int32) (e_place : Int32) (e_at : Int32) (e_law : Int32) (p1 : Int32) : Option (Int32 × Int32 × (Nat → Int32) × Int32 × Int32 × Int32) := ob6 (rc 5 b_len b_tok b_ki b_pl b_nu x_ln x_code e_fault e_place e_at e_law p1) fun r2 x_ln_2 x_code_2 e_fault_2 e_place_2 e_at_2 => if r2 = 0 then (some ((0 : Int32), x_ln_2, x_code_2, e_fault_2, e_place_2, e_at_2)) else (f_X5_eitherB_12 N rc N b_len b_tok b_ki b_pl b_nu x_ln_2 x_code_2 e_fault_2 e_place_2 e_at_2 e_law p1 (0 : Int32))

def f_X5_bothB_12 (N : Nat) (rc : Nat → Int32 → Int32 → (Nat → Int32) → (Nat → Int32) → (Nat → Int32) → Int32 → (Nat → Int32) → Int32 → Int32 → Int32 → Int32 → Int32 → Option (Int32 × Int32 × (Nat → Int32) × Int32 × Int32 × Int32)) : Nat → Int32 → Int32 → (Nat → Int32) → (Nat → Int32) → (Nat → Int32) → Int32 → (Nat → Int32) → Int32 → Int32 → Int32 → Int32 → Int32 → Int32 → Option (Int32 × Int32 × (Nat → Int32) × Int32 × Int32 × Int32)
  | 0, _, _, _, _, _, _, _, _, _, _, _, _, _ => none
  | n + 1, b_len, b_tok, b_ki, b_pl, b_nu, x_ln, x_code, e_fault, e_place, e_at, e_law, x1, x2 => if (300 : Int32) ≤ x2 then (some ((1 : Int32), x_ln, x_code, e_fault, e_place, e_at)) else (ob1 (f_X5_token N b_tok b_ki e_at) fun r20 => if r20 = (31 : Int32) then (ob1 (f_X5_next N b_tok e_at) fun e_at_29 => ob6 (rc 6 b_len b_tok b_ki b_pl b_nu x_ln x_code e_fault e_place e_at_29 e_law x1) fun r34 x_ln_34 x_code_34 e_fault_34 e_place_34 e_at_34 => if r34 = 0 then (some ((0 : Int32), x_ln_34, x_code_34, e_fault_34, e_place_34, e_at_34)) else (ob2 (f_X9_put N x_ln_34 x_code_34 (31 : Int32) (0 : Int32)) fun x_ln_49 x_code_49 => (f_X5_bothB_12 N rc n) b_len b_tok b_ki b_pl b_nu x_ln_49 x_code_49 e_fault_34 e_place_34 e_at_34 e_law x1 (x2 + (1 : Int32)))) else (some ((1 : Int32), x_ln, x_code, e_fault, e_place, e_at)))
def f_X5_bothB (N : Nat) (rc : Nat → Int32 → Int32 → (Nat → Int32) → (Nat → Int32) → (Nat → Int32) → Int32 → (Nat → Int32) → Int32 → Int32 → Int32 → Int32 → Int32 → Option (Int32 × Int32 × (Nat → Int32) × Int32 × Int32 × Int32)) (b_len : Int32) (b_tok : Int32) (b_ki : Nat → Int32) (b_pl : Nat → Int32) (b_nu : Nat → Int32) (x_ln : Int32) (x_code : Nat → Int32) (e_fault : Int32) (e_place : Int32) (e_at : Int32) (e_law : Int32) (p1 : Int32) : Option (Int32 × Int32 × (Nat → Int32) × Int32 × Int32 × Int32) := ob6 (rc 6 b_len b_tok b_ki b_pl b_nu x_ln x_code e_fault e_place e_at e_law p1) fun r2 x_ln_2 x_code_2 e_fault_2 e_place_2 e_at_2 => if r2 = 0 then (some ((0 : Int32), x_ln_2, x_code_2, e_fault_2, e_place_2, e_at_2)) else (f_X5_bothB_12 N rc N b_len b_tok b_ki b_pl b_nu x_ln_2 x_code_2 e_fault_2 e_place_2 e_at_2 e_law p1 (0 : Int32))

def f_X5_askB_76 (N : Nat) (rc : Nat → Int32 → Int32 → (Nat → Int32) → (Nat → Int32) → (Nat → Int32) → Int32 → (Nat → Int32) → Int32 → Int32 → Int32 → Int32 → Int32 → Option (Int32 × Int32 × (Nat → Int32) × Int32 × Int32 × Int32)) (b_len : Int32) (b_tok : Int32) (b_ki : Nat → Int32) (b_pl : Nat → Int32) (b_nu : Nat → Int32) (x_ln : Int32) (x_code : Nat → Int32) (e_fault : Int32) (e_place : Int32) (e_at : Int32) (e_law : Int32) : Option (Int32 × Int32 × (Nat → Int32) × Int32 × Int32 × Int32) := ob3 (f_X5_fail N b_len b_tok b_pl e_fault e_place e_at (1 : Int32)) fun r78 e_fault_78 e_place_78 => some (r78, x_ln, x_code, e_fault_78, e_place_78, e_at)
def f_X5_askB (N : Nat) (rc : Nat → Int32 → Int32 → (Nat → Int32) → (Nat → Int32) → (Nat → Int32) → Int32 → (Nat → Int32) → Int32 → Int32 → Int32 → Int32 → Int32 → Option (Int32 × Int32 × (Nat → Int32) × Int32 × Int32 × Int32)) (b_len : Int32) (b_tok : Int32) (b_ki : Nat → Int32) (b_pl : Nat → Int32) (b_nu : Nat → Int32) (x_ln : Int32) (x_code : Nat → Int32) (e_fault : Int32) (e_place : Int32) (e_at : Int32) (e_law : Int32) (p1 : Int32) : Option (Int32 × Int32 × (Nat → Int32) × Int32 × Int32 × Int32) := ob1 (f_X5_token N b_tok b_ki e_at) fun r1 => if r1 = (30 : Int32) then (if p1 < (8 : Int32) then (ob1 (f_X5_next N b_tok e_at) fun e_at_22 => ob6 (rc 6 b_len b_tok b_ki b_pl b_nu x_ln x_code e_fault e_place e_at_22 e_law (p1 + (1 : Int32))) fun r29 x_ln_29 x_code_29 e_fault_29 e_place_29 e_at_29 => if r29 = 0 then (some ((0 : Int32), x_ln_29, x_code_29, e_fault_29, e_place_29, e_at_29)) else (ob2 (f_X9_put N x_ln_29 x_code_29 (30 : Int32) (0 : Int32)) fun x_ln_44 x_code_44 => some ((1 : Int32), x_ln_44, x_code_44, e_fault_29, e_place_29, e_at_29))) else (ob3 (f_X5_fail N b_len b_tok b_pl e_fault e_place e_at (3 : Int32)) fun r17 e_fault_17 e_place_17 => some (r17, x_ln, x_code, e_fault_17, e_place_17, e_at))) else (ob6 (rc 0 b_len b_tok b_ki b_pl b_nu x_ln x_code e_fault e_place e_at e_law p1) fun r51 x_ln_51 x_code_51 e_fault_51 e_place_51 e_at_51 => if r51 = 0 then (some ((0 : Int32), x_ln_51, x_code_51, e_fault_51, e_place_51, e_at_51)) else (ob1 (f_X5_token N b_tok b_ki e_at_51) fun r60 => if r60 < (33 : Int32) then (f_X5_askB_76 N rc b_len b_tok b_ki b_pl b_nu x_ln_51 x_code_51 e_fault_51 e_place_51 e_at_51 e_law) else (if r60 ≤ (38 : Int32) then (ob1 (f_X5_next N b_tok e_at_51) fun e_at_83 => ob6 (rc 0 b_len b_tok b_ki b_pl b_nu x_ln_51 x_code_51 e_fault_51 e_place_51 e_at_83 e_law p1) fun r88 x_ln_88 x_code_88 e_fault_88 e_place_88 e_at_88 => if r88 = 0 then (some ((0 : Int32), x_ln_88, x_code_88, e_fault_88, e_place_88, e_at_88)) else (ob2 (f_X9_put N x_ln_88 x_code_88 r60 (0 : Int32)) fun x_ln_102 x_code_102 => some ((1 : Int32), x_ln_102, x_code_102, e_fault_88, e_place_88, e_at_88))) else (f_X5_askB_76 N rc b_len b_tok b_ki b_pl b_nu x_ln_51 x_code_51 e_fault_51 e_place_51 e_at_51 e_law))))

def f_RG (N : Nat) : Nat → Nat → Int32 → Int32 → (Nat → Int32) → (Nat → Int32) → (Nat → Int32) → Int32 → (Nat → Int32) → Int32 → Int32 → Int32 → Int32 → Int32 → Option (Int32 × Int32 × (Nat → Int32) × Int32 × Int32 × Int32)
  | 0, _, _, _, _, _, _, _, _, _, _, _, _, _ => none
  | n + 1, t, b_len, b_tok, b_ki, b_pl, b_nu, x_ln, x_code, e_fault, e_place, e_at, e_law, p1 => if t = 0 then f_X5_sumB N (f_RG N n) b_len b_tok b_ki b_pl b_nu x_ln x_code e_fault e_place e_at e_law p1 else if t = 1 then f_X5_productB N (f_RG N n) b_len b_tok b_ki b_pl b_nu x_ln x_code e_fault e_place e_at e_law p1 else if t = 2 then f_X5_oneB N (f_RG N n) b_len b_tok b_ki b_pl b_nu x_ln x_code e_fault e_place e_at e_law p1 else if t = 3 then f_X5_choiceB N (f_RG N n) b_len b_tok b_ki b_pl b_nu x_ln x_code e_fault e_place e_at e_law p1 else if t = 4 then f_X5_eitherB N (f_RG N n) b_len b_tok b_ki b_pl b_nu x_ln x_code e_fault e_place e_at e_law p1 else if t = 5 then f_X5_bothB N (f_RG N n) b_len b_tok b_ki b_pl b_nu x_ln x_code e_fault e_place e_at e_law p1 else if t = 6 then f_X5_askB N (f_RG N n) b_len b_tok b_ki b_pl b_nu x_ln x_code e_fault e_place e_at e_law p1 else none
def RG_ok (l : Launch) (N : Nat) (D : va_G) (cI cJ cZ cB cT : ClassId) (qb0 : Nat) (qb2 : Nat) (qb3 : Nat) (qb4 : Nat) (qx0 : Nat) (qx1 : Nat) (qe0 : Nat) (qb1 : Nat) (qx2 : Nat) (qx3 : Nat) (qx4 : Nat) (d t : Nat) (y : MethodName) (b : ByteArray) (n : Nat) : Prop := ∀ (b_len : Int32) (b_tok : Int32) (b_ki : Nat → Int32) (b_pl : Nat → Int32) (b_nu : Nat → Int32) (x_cl : Int32) (x_ln : Int32) (x_pt : Int32) (x_code : Nat → Int32) (e_fault : Int32) (e_place : Int32) (e_at : Int32) (e_law : Int32) (p1 : Int32) (o_r : Int32) (o_x_ln : Int32) (o_x_code : Nat → Int32) (o_e_fault : Int32) (o_e_place : Int32) (o_e_at : Int32), f_RG N d t b_len b_tok b_ki b_pl b_nu x_ln x_code e_fault e_place e_at e_law p1 = some (o_r, o_x_ln, o_x_code, o_e_fault, o_e_place, o_e_at) → ∀ sz, Met l y (mw y b n (some .boolean)) ({ frames := 6 + d, cells := 0, slots := 0, locals := 160 + 40 * d } : Room) (mPreE D (mT cI cJ cZ cB cT) (W_RD_0_2t6_10 qb0 qb2 qb3 qb4 qx0 qx1 qe0 qb1 qx2 qx3 qx4 cI cJ cZ cB cT b_len b_tok b_ki b_pl b_nu x_cl x_ln x_pt x_code e_fault e_place e_at e_law) sz [.ref qe0, .int p1]) ((mQi D (W_RD_0_2t6_10 qb0 qb2 qb3 qb4 qx0 qx1 qe0 qb1 qx2 qx3 qx4 cI cJ cZ cB cT b_len b_tok b_ki b_pl b_nu x_cl o_x_ln x_pt o_x_code o_e_fault o_e_place o_e_at e_law) o_r (mB o_r)) (va_A (W_RD_0_2t6_10 qb0 qb2 qb3 qb4 qx0 qx1 qe0 qb1 qx2 qx3 qx4 cI cJ cZ cB cT b_len b_tok b_ki b_pl b_nu x_cl x_ln x_pt x_code e_fault e_place e_at e_law) sz)) 0 0 (va_A (W_RD_0_2t6_10 qb0 qb2 qb3 qb4 qx0 qx1 qe0 qb1 qx2 qx3 qx4 cI cJ cZ cB cT b_len b_tok b_ki b_pl b_nu x_cl x_ln x_pt x_code e_fault e_place e_at e_law) sz)
set_option maxHeartbeats 4000000 in
set_option maxRecDepth 100000 in
theorem k_X5_sumB (l : Launch) (N : Nat) (D : va_G) (cI cJ cZ cB cT : ClassId) (qb0 : Nat) (qb2 : Nat) (qb3 : Nat) (qb4 : Nat) (qx0 : Nat) (qx1 : Nat) (qe0 : Nat) (qb1 : Nat) (qx2 : Nat) (qx3 : Nat) (qx4 : Nat) (d : Nat) (hg_0 : RG_ok l N D cI cJ cZ cB cT qb0 qb2 qb3 qb4 qx0 qx1 qe0 qb1 qx2 qx3 qx4 d 0 yX5_sum cX5_sum 4) (hg_1 : RG_ok l N D cI cJ cZ cB cT qb0 qb2 qb3 qb4 qx0 qx1 qe0 qb1 qx2 qx3 qx4 d 1 yX5_product cX5_product 4) (hg_2 : RG_ok l N D cI cJ cZ cB cT qb0 qb2 qb3 qb4 qx0 qx1 qe0 qb1 qx2 qx3 qx4 d 2 yX5_one cX5_one 4) (hg_3 : RG_ok l N D cI cJ cZ cB cT qb0 qb2 qb3 qb4 qx0 qx1 qe0 qb1 qx2 qx3 qx4 d 3 yX5_choice cX5_choice 4) (hg_4 : RG_ok l N D cI cJ cZ cB cT qb0 qb2 qb3 qb4 qx0 qx1 qe0 qb1 qx2 qx3 qx4 d 4 yX5_either cX5_either 3) (hg_5 : RG_ok l N D cI cJ cZ cB cT qb0 qb2 qb3 qb4 qx0 qx1 qe0 qb1 qx2 qx3 qx4 d 5 yX5_both cX5_both 3) (hg_6 : RG_ok l N D cI cJ cZ cB cT qb0 qb2 qb3 qb4 qx0 qx1 qe0 qb1 qx2 qx3 qx4 d 6 yX5_ask cX5_ask 3) (b_len : Int32) (b_tok : Int32) (b_ki : Nat → Int32) (b_pl : Nat → Int32) (b_nu : Nat → Int32) (x_cl : Int32) (x_ln : Int32) (x_pt : Int32) (x_code : Nat → Int32) (e_fault : Int32) (e_place : Int32) (e_at : Int32) (e_law : Int32) (p1 : Int32) (o_r : Int32) (o_x_ln : Int32) (o_x_code : Nat → Int32) (o_e_fault : Int32) (o_e_place : Int32) (o_e_at : Int32) (hf : f_X5_sumB N (f_RG N d) b_len b_tok b_ki b_pl b_nu x_ln x_code e_fault e_place e_at e_law p1 = some (o_r, o_x_ln, o_x_code, o_e_fault, o_e_place, o_e_at)) : ∀ sz, Met l yX5_sum (mw yX5_sum cX5_sum 4 (some .boolean)) ({ frames := 6 + (d + 1), cells := 0, slots := 0, locals := 160 + 40 * (d + 1) } : Room) (mPreE D (mT cI cJ cZ cB cT) (W_RD_0_2t6_10 qb0 qb2 qb3 qb4 qx0 qx1 qe0 qb1 qx2 qx3 qx4 cI cJ cZ cB cT b_len b_tok b_ki b_pl b_nu x_cl x_ln x_pt x_code e_fault e_place e_at e_law) sz [.ref qe0, .int p1]) ((mQi D (W_RD_0_2t6_10 qb0 qb2 qb3 qb4 qx0 qx1 qe0 qb1 qx2 qx3 qx4 cI cJ cZ cB cT b_len b_tok b_ki b_pl b_nu x_cl o_x_ln x_pt o_x_code o_e_fault o_e_place o_e_at e_law) o_r (mB o_r)) (va_A (W_RD_0_2t6_10 qb0 qb2 qb3 qb4 qx0 qx1 qe0 qb1 qx2 qx3 qx4 cI cJ cZ cB cT b_len b_tok b_ki b_pl b_nu x_cl x_ln x_pt x_code e_fault e_place e_at e_law) sz)) 0 0 (va_A (W_RD_0_2t6_10 qb0 qb2 qb3 qb4 qx0 qx1 qe0 qb1 qx2 qx3 qx4 cI cJ cZ cB cT b_len b_tok b_ki b_pl b_nu x_cl x_ln x_pt x_code e_fault e_place e_at e_law) sz) := by
  refine mMetE (Qc := (mQi D (W_RD_0_2t6_10 qb0 qb2 qb3 qb4 qx0 qx1 qe0 qb1 qx2 qx3 qx4 cI cJ cZ cB cT b_len b_tok b_ki b_pl b_nu x_cl o_x_ln x_pt o_x_code o_e_fault o_e_place o_e_at e_law) o_r (mB o_r))) (by decide) (Nat.le_of_ble_eq_true rfl) (fun p e s m below meth c A ls hx hb hr hml hts hown hlocks hK hA hP hD hl hE => ?_)
  have hown : s.vm.findClass RX5 = some m.cls := hown
  have hl : lv_has ls 4 [(0, .ref qe0), (1, .int p1)] := hl
  have hS : va_S A s.heap s.heap [] := va_S.rf
  obtain ⟨⟨tM, hZM, hTM⟩, ⟨tL, hZL, hTL⟩, ⟨hNX4, hNX10⟩, tS, tV, hRS, hZC, hZF, hKS⟩ := id hE
  have b12 : ∀ n12 : Nat, ∀ (x_ln : Int32) (x_code : Nat → Int32) (e_fault : Int32) (e_place : Int32) (e_at : Int32) (x1 : Int32) (x2 : Int32) (H : Heap) (locs : List Loc) (ls : Array Slot), f_X5_sumB_12 N (f_RG N d) n12 b_len b_tok b_ki b_pl b_nu x_ln x_code e_fault e_place e_at e_law x1 x2 = some (o_r, o_x_ln, o_x_code, o_e_fault, o_e_place, o_e_at) → va_P D vwCl (W_RD_0_2t6_10 qb0 qb2 qb3 qb4 qx0 qx1 qe0 qb1 qx2 qx3 qx4 cI cJ cZ cB cT b_len b_tok b_ki b_pl b_nu x_cl x_ln x_pt x_code e_fault e_place e_at e_law) H → va_D A (W_RD_0_2t6_10 qb0 qb2 qb3 qb4 qx0 qx1 qe0 qb1 qx2 qx3 qx4 cI cJ cZ cB cT b_len b_tok b_ki b_pl b_nu x_cl x_ln x_pt x_code e_fault e_place e_at e_law) → va_S A s.heap H locs → lv_has ls 4 [(0, .ref qe0), (1, .int x1), (2, .int x2)] → W p l e ({ frames := 6 + (d + 1), cells := 0, slots := 0, locals := 160 + 40 * (d + 1) } : Room) s m ([.ref qe0, .int p1] : List Value).toArray below meth c H locs 0 0 (MQ below ((mQi D (W_RD_0_2t6_10 qb0 qb2 qb3 qb4 qx0 qx1 qe0 qb1 qx2 qx3 qx4 cI cJ cZ cB cT b_len b_tok b_ki b_pl b_nu x_cl o_x_ln x_pt o_x_code o_e_fault o_e_place o_e_at e_law) o_r (mB o_r)) A) ([.ref qe0, .int p1] : List Value).toArray s 0 0 A) (F0 m 12 ls []) := by
    intro n12
    induction n12 with
    | zero =>
      intro x_ln x_code e_fault e_place e_at x1 x2 H locs ls hf hP hD hS hl
      simp [f_X5_sumB_12] at hf
    | succ n12 ih12 =>
      have b39 : ∀ (x_ln : Int32) (x_code : Nat → Int32) (e_fault : Int32) (e_place : Int32) (e_at : Int32) (x1 : Int32) (x2 : Int32) (x3 : Int32) (H : Heap) (locs : List Loc) (ls : Array Slot), f_X5_sumB_39 N (f_RG N d) (f_X5_sumB_12 N (f_RG N d) n12) b_len b_tok b_ki b_pl b_nu x_ln x_code e_fault e_place e_at e_law x1 x2 x3 = some (o_r, o_x_ln, o_x_code, o_e_fault, o_e_place, o_e_at) → va_P D vwCl (W_RD_0_2t6_10 qb0 qb2 qb3 qb4 qx0 qx1 qe0 qb1 qx2 qx3 qx4 cI cJ cZ cB cT b_len b_tok b_ki b_pl b_nu x_cl x_ln x_pt x_code e_fault e_place e_at e_law) H → va_D A (W_RD_0_2t6_10 qb0 qb2 qb3 qb4 qx0 qx1 qe0 qb1 qx2 qx3 qx4 cI cJ cZ cB cT b_len b_tok b_ki b_pl b_nu x_cl x_ln x_pt x_code e_fault e_place e_at e_law) → va_S A s.heap H locs → lv_has ls 4 [(0, .ref qe0), (1, .int x1), (2, .int x2), (3, .int x3)] → W p l e ({ frames := 6 + (d + 1), cells := 0, slots := 0, locals := 160 + 40 * (d + 1) } : Room) s m ([.ref qe0, .int p1] : List Value).toArray below meth c H locs 0 0 (MQ below ((mQi D (W_RD_0_2t6_10 qb0 qb2 qb3 qb4 qx0 qx1 qe0 qb1 qx2 qx3 qx4 cI cJ cZ cB cT b_len b_tok b_ki b_pl b_nu x_cl o_x_ln x_pt o_x_code o_e_fault o_e_place o_e_at e_law) o_r (mB o_r)) A) ([.ref qe0, .int p1] : List Value).toArray s 0 0 A) (F0 m 39 ls []) := by
        intro x_ln x_code e_fault e_place e_at x1 x2 x3 H locs ls hf hP hD hS hl
        unfold f_X5_sumB_39 at hf
        refine lv_aload_n hx hb dX5_sum_39 rfl (lv_at hl 0 rfl) ?_
        obtain ⟨e_at_40, hg40, hf⟩ := ob1_some hf
        refine mcV_v (wr := [(qb2, .inl (cI, 301, .inl b_ki)), (qb3, .inl (cI, 301, .inl b_pl)), (qb4, .inl (cI, 301, .inl b_nu)), (qx0, .inr (9, [.int x_cl, .int x_ln, .int x_pt, .ref qx1, .ref qx2, .ref qx3, .ref qx4])), (qx1, .inl (cI, 301, .inl x_code))]) (As := []) (rest := []) hx hb hml hown hts hK hP hD hS hA (k_X5_next l N D cI cJ cZ cB cT qb0 qe0 qb1 qb2 qb3 qb4 qx0 b_len b_tok e_fault e_place e_at e_law e_at_40 hg40) (kwX5_62 hts rfl rfl ⟨by dsimp only; omega, by dsimp only; omega⟩) [0, 6] [1, 2, 3, 4, 5] rfl rfl rfl (by decide) rfl 1 rfl rfl rfl rfl hl.1 rfl (Nat.le_of_ble_eq_true rfl) dX5_sum_40 ⟨Nat.zero_le _, Nat.zero_le _⟩ (fun H locs hP hD hS => ?_)
        have hP := mP_sub (wc := (W_RD_0_2t6_10 qb0 qb2 qb3 qb4 qx0 qx1 qe0 qb1 qx2 qx3 qx4 cI cJ cZ cB cT b_len b_tok b_ki b_pl b_nu x_cl x_ln x_pt x_code e_fault e_place e_at_40 e_law)) hP [5, 0, 1, 2, 3, 4, 6] rfl
        have hD := hD.sub (ws' := (W_RD_0_2t6_10 qb0 qb2 qb3 qb4 qx0 qx1 qe0 qb1 qx2 qx3 qx4 cI cJ cZ cB cT b_len b_tok b_ki b_pl b_nu x_cl x_ln x_pt x_code e_fault e_place e_at_40 e_law)) [5, 0, 1, 2, 3, 4, 6] rfl rfl
        refine lv_aload_n hx hb dX5_sum_43 rfl (lv_at hl 0 rfl) ?_
        refine lv_iload_n hx hb dX5_sum_44 rfl (lv_at hl 1 rfl) ?_
        obtain ⟨r45, x_ln_45, x_code_45, e_fault_45, e_place_45, e_at_45, hg45, hf⟩ := ob6_some hf
        refine mcV1E_i (As := [.int x1]) (rest := []) hx hb hml hown hts hK hP hD hS hA hE (hg_1 b_len b_tok b_ki b_pl b_nu x_cl x_ln x_pt x_code e_fault e_place e_at_40 e_law x1 r45 x_ln_45 x_code_45 e_fault_45 e_place_45 e_at_45 hg45) (kwX5_96 hts rfl rfl ⟨by dsimp only; omega, by dsimp only; omega⟩) 6 rfl rfl rfl rfl hl.1 rfl (Nat.le_of_ble_eq_true rfl) dX5_sum_45 ⟨Nat.zero_le _, Nat.zero_le _⟩ (fun hB45 H locs hP hD hS => ?_)
        have hP : va_P D vwCl (W_RD_0_2t6_10 qb0 qb2 qb3 qb4 qx0 qx1 qe0 qb1 qx2 qx3 qx4 cI cJ cZ cB cT b_len b_tok b_ki b_pl b_nu x_cl x_ln_45 x_pt x_code_45 e_fault_45 e_place_45 e_at_45 e_law) H := hP
        have hD : va_D A (W_RD_0_2t6_10 qb0 qb2 qb3 qb4 qx0 qx1 qe0 qb1 qx2 qx3 qx4 cI cJ cZ cB cT b_len b_tok b_ki b_pl b_nu x_cl x_ln_45 x_pt x_code_45 e_fault_45 e_place_45 e_at_45 e_law) := hD
        refine xif_ne hx hb 53 dX5_sum_48 (by decide) hf (fun hf => ?_) (fun hf => ?_)
        · refine lv_iconst (v := (0 : Int32)) hx hb dX5_sum_51 (by decide) ?_
          cases hf
          exact mret_z hx hb hr hlocks hP hD hS dX5_sum_52 rfl rfl
        · refine lv_aload_n hx hb dX5_sum_53 rfl (lv_at hl 0 rfl) ?_
          refine gfX5_18 hx hb hts hown hK hP 6 rfl rfl dX5_sum_54 ?_
          refine lv_iload_n hx hb dX5_sum_57 rfl (lv_at hl 3 rfl) ?_
          refine lv_iconst (v := (0 : Int32)) hx hb dX5_sum_58 (by decide) ?_
          obtain ⟨x_ln_59, x_code_59, hg59, hf⟩ := ob2_some hf
          refine mcV_v (wr := [(qb0, .inr (8, [.int b_len, .int b_tok, .ref qb1, .ref qb2, .ref qb3, .ref qb4])), (qb2, .inl (cI, 301, .inl b_ki)), (qb3, .inl (cI, 301, .inl b_pl)), (qb4, .inl (cI, 301, .inl b_nu)), (qe0, .inr (5, [.int e_fault_45, .int e_place_45, .ref qb0, .ref qx0, .int e_at_45, .int e_law]))]) (As := [.int x3, .int (0 : Int32)]) (rest := []) hx hb hml hown hts hK hP hD hS hA (k_X9_put l N D cI cJ cZ cB cT qx0 qx1 qx2 qx3 qx4 x_cl x_ln_45 x_pt x_code_45 x3 (0 : Int32) x_ln_59 x_code_59 hg59) (kwX5_99 hts rfl rfl ⟨by dsimp only; omega, by dsimp only; omega⟩) [4, 5] [0, 1, 2, 3, 6] rfl rfl rfl (by decide) rfl 0 rfl rfl rfl rfl hl.1 rfl (Nat.le_of_ble_eq_true rfl) dX5_sum_59 ⟨Nat.zero_le _, Nat.zero_le _⟩ (fun H locs hP hD hS => ?_)
          have hP := mP_sub (wc := (W_RD_0_2t6_10 qb0 qb2 qb3 qb4 qx0 qx1 qe0 qb1 qx2 qx3 qx4 cI cJ cZ cB cT b_len b_tok b_ki b_pl b_nu x_cl x_ln_59 x_pt x_code_59 e_fault_45 e_place_45 e_at_45 e_law)) hP [0, 1, 2, 3, 5, 6, 4] rfl
          have hD := hD.sub (ws' := (W_RD_0_2t6_10 qb0 qb2 qb3 qb4 qx0 qx1 qe0 qb1 qx2 qx3 qx4 cI cJ cZ cB cT b_len b_tok b_ki b_pl b_nu x_cl x_ln_59 x_pt x_code_59 e_fault_45 e_place_45 e_at_45 e_law)) [0, 1, 2, 3, 5, 6, 4] rfl rfl
          refine lv_iinc (v := (x2 + (1 : Int32))) (lv' := [(2, .int (x2 + (1 : Int32))), (0, .ref qe0), (1, .int x1), (3, .int x3)]) hx hb dX5_sum_62 hl (k := 2) rfl rfl (by decide) rfl (fun ls hl => ?_)
          refine lv_goto (tgt := 12) hx hb dX5_sum_65 (by decide) ?_
          exact ih12 x_ln_59 x_code_59 e_fault_45 e_place_45 e_at_45 x1 (x2 + (1 : Int32)) _ _ _ hf hP hD hS (lv_sub hl [1, 2, 0] rfl)
      intro x_ln x_code e_fault e_place e_at x1 x2 H locs ls hf hP hD hS hl
      rw [f_X5_sumB_12.eq_2] at hf
      refine lv_iload_n hx hb dX5_sum_12 rfl (lv_at hl 2 rfl) ?_
      refine lv_sipush (v := (300 : Int32)) hx hb dX5_sum_13 (by decide) ?_
      refine xicmp_ge hx hb 68 dX5_sum_16 (by decide) hf (fun hf => ?_) (fun hf => ?_)
      · refine lv_iconst (v := (1 : Int32)) hx hb dX5_sum_68 (by decide) ?_
        cases hf
        exact mret_z hx hb hr hlocks hP hD hS dX5_sum_69 rfl rfl
      · refine lv_aload_n hx hb dX5_sum_19 rfl (lv_at hl 0 rfl) ?_
        obtain ⟨r20, hg20, hf⟩ := ob1_some hf
        refine mcV_i (wr := [(qb3, .inl (cI, 301, .inl b_pl)), (qb4, .inl (cI, 301, .inl b_nu)), (qx0, .inr (9, [.int x_cl, .int x_ln, .int x_pt, .ref qx1, .ref qx2, .ref qx3, .ref qx4])), (qx1, .inl (cI, 301, .inl x_code))]) (As := []) (rest := []) hx hb hml hown hts hK hP hD hS hA (k_X5_token l N D cI cJ cZ cB cT qb0 qb2 qe0 qb1 qb3 qb4 qx0 b_len b_tok b_ki e_fault e_place e_at e_law r20 hg20) (kwX5_42 hts rfl rfl ⟨by dsimp only; omega, by dsimp only; omega⟩) [0, 1, 6] [2, 3, 4, 5] rfl rfl rfl (by decide) rfl 2 rfl rfl rfl rfl hl.1 rfl (Nat.le_of_ble_eq_true rfl) dX5_sum_20 ⟨Nat.zero_le _, Nat.zero_le _⟩ (fun hB20 H locs hP hD hS => ?_)
        have hP := mP_sub (wc := (W_RD_0_2t6_10 qb0 qb2 qb3 qb4 qx0 qx1 qe0 qb1 qx2 qx3 qx4 cI cJ cZ cB cT b_len b_tok b_ki b_pl b_nu x_cl x_ln x_pt x_code e_fault e_place e_at e_law)) hP [4, 5, 0, 1, 2, 3, 6] rfl
        have hD := hD.sub (ws' := (W_RD_0_2t6_10 qb0 qb2 qb3 qb4 qx0 qx1 qe0 qb1 qx2 qx3 qx4 cI cJ cZ cB cT b_len b_tok b_ki b_pl b_nu x_cl x_ln x_pt x_code e_fault e_place e_at e_law)) [4, 5, 0, 1, 2, 3, 6] rfl rfl
        refine lv_istore_n (lv' := [(3, .int r20), (0, .ref qe0), (1, .int x1), (2, .int x2)]) hx hb dX5_sum_23 rfl hl (by decide) rfl (fun ls hl => ?_)
        refine lv_iload_n hx hb dX5_sum_24 rfl (lv_at hl 0 rfl) ?_
        refine lv_bipush (v := (39 : Int32)) hx hb dX5_sum_25 (by decide) ?_
        refine xicmp_eq hx hb 39 dX5_sum_27 (by decide) hf (fun hf => ?_) (fun hf => ?_)
        · exact b39 x_ln x_code e_fault e_place e_at x1 x2 r20 _ _ _ hf hP hD hS (lv_sub hl [1, 2, 3, 0] rfl)
        · refine lv_iload_n hx hb dX5_sum_30 rfl (lv_at hl 0 rfl) ?_
          refine lv_bipush (v := (40 : Int32)) hx hb dX5_sum_31 (by decide) ?_
          refine xicmp_eq hx hb 39 dX5_sum_33 (by decide) hf (fun hf => ?_) (fun hf => ?_)
          · exact b39 x_ln x_code e_fault e_place e_at x1 x2 r20 _ _ _ hf hP hD hS (lv_sub hl [1, 2, 3, 0] rfl)
          · refine lv_goto (tgt := 68) hx hb dX5_sum_36 (by decide) ?_
            refine lv_iconst (v := (1 : Int32)) hx hb dX5_sum_68 (by decide) ?_
            cases hf
            exact mret_z hx hb hr hlocks hP hD hS dX5_sum_69 rfl rfl
  unfold f_X5_sumB at hf
  refine lv_aload_n hx hb dX5_sum_0 rfl (lv_at hl 0 rfl) ?_
  refine lv_iload_n hx hb dX5_sum_1 rfl (lv_at hl 1 rfl) ?_
  obtain ⟨r2, x_ln_2, x_code_2, e_fault_2, e_place_2, e_at_2, hg2, hf⟩ := ob6_some hf
  refine mcV1E_i (As := [.int p1]) (rest := []) hx hb hml hown hts hK hP hD hS hA hE (hg_1 b_len b_tok b_ki b_pl b_nu x_cl x_ln x_pt x_code e_fault e_place e_at e_law p1 r2 x_ln_2 x_code_2 e_fault_2 e_place_2 e_at_2 hg2) (kwX5_96 hts rfl rfl ⟨by dsimp only; omega, by dsimp only; omega⟩) 6 rfl rfl rfl rfl hl.1 rfl (Nat.le_of_ble_eq_true rfl) dX5_sum_2 ⟨Nat.zero_le _, Nat.zero_le _⟩ (fun hB2 H locs hP hD hS => ?_)
  have hP : va_P D vwCl (W_RD_0_2t6_10 qb0 qb2 qb3 qb4 qx0 qx1 qe0 qb1 qx2 qx3 qx4 cI cJ cZ cB cT b_len b_tok b_ki b_pl b_nu x_cl x_ln_2 x_pt x_code_2 e_fault_2 e_place_2 e_at_2 e_law) H := hP
  have hD : va_D A (W_RD_0_2t6_10 qb0 qb2 qb3 qb4 qx0 qx1 qe0 qb1 qx2 qx3 qx4 cI cJ cZ cB cT b_len b_tok b_ki b_pl b_nu x_cl x_ln_2 x_pt x_code_2 e_fault_2 e_place_2 e_at_2 e_law) := hD
  refine xif_ne hx hb 10 dX5_sum_5 (by decide) hf (fun hf => ?_) (fun hf => ?_)
  · refine lv_iconst (v := (0 : Int32)) hx hb dX5_sum_8 (by decide) ?_
    cases hf
    exact mret_z hx hb hr hlocks hP hD hS dX5_sum_9 rfl rfl
  · refine lv_iconst (v := (0 : Int32)) hx hb dX5_sum_10 (by decide) ?_
    refine lv_istore_n (lv' := [(2, .int (0 : Int32)), (0, .ref qe0), (1, .int p1)]) hx hb dX5_sum_11 rfl hl (by decide) rfl (fun ls hl => ?_)
    exact b12 N x_ln_2 x_code_2 e_fault_2 e_place_2 e_at_2 p1 (0 : Int32) _ _ _ hf hP hD hS (lv_sub hl [1, 2, 0] rfl)
set_option maxHeartbeats 4000000 in
set_option maxRecDepth 100000 in
theorem k_X5_productB (l : Launch) (N : Nat) (D : va_G) (cI cJ cZ cB cT : ClassId) (qb0 : Nat) (qb2 : Nat) (qb3 : Nat) (qb4 : Nat) (qx0 : Nat) (qx1 : Nat) (qe0 : Nat) (qb1 : Nat) (qx2 : Nat) (qx3 : Nat) (qx4 : Nat) (d : Nat) (hg_0 : RG_ok l N D cI cJ cZ cB cT qb0 qb2 qb3 qb4 qx0 qx1 qe0 qb1 qx2 qx3 qx4 d 0 yX5_sum cX5_sum 4) (hg_1 : RG_ok l N D cI cJ cZ cB cT qb0 qb2 qb3 qb4 qx0 qx1 qe0 qb1 qx2 qx3 qx4 d 1 yX5_product cX5_product 4) (hg_2 : RG_ok l N D cI cJ cZ cB cT qb0 qb2 qb3 qb4 qx0 qx1 qe0 qb1 qx2 qx3 qx4 d 2 yX5_one cX5_one 4) (hg_3 : RG_ok l N D cI cJ cZ cB cT qb0 qb2 qb3 qb4 qx0 qx1 qe0 qb1 qx2 qx3 qx4 d 3 yX5_choice cX5_choice 4) (hg_4 : RG_ok l N D cI cJ cZ cB cT qb0 qb2 qb3 qb4 qx0 qx1 qe0 qb1 qx2 qx3 qx4 d 4 yX5_either cX5_either 3) (hg_5 : RG_ok l N D cI cJ cZ cB cT qb0 qb2 qb3 qb4 qx0 qx1 qe0 qb1 qx2 qx3 qx4 d 5 yX5_both cX5_both 3) (hg_6 : RG_ok l N D cI cJ cZ cB cT qb0 qb2 qb3 qb4 qx0 qx1 qe0 qb1 qx2 qx3 qx4 d 6 yX5_ask cX5_ask 3) (b_len : Int32) (b_tok : Int32) (b_ki : Nat → Int32) (b_pl : Nat → Int32) (b_nu : Nat → Int32) (x_cl : Int32) (x_ln : Int32) (x_pt : Int32) (x_code : Nat → Int32) (e_fault : Int32) (e_place : Int32) (e_at : Int32) (e_law : Int32) (p1 : Int32) (o_r : Int32) (o_x_ln : Int32) (o_x_code : Nat → Int32) (o_e_fault : Int32) (o_e_place : Int32) (o_e_at : Int32) (hf : f_X5_productB N (f_RG N d) b_len b_tok b_ki b_pl b_nu x_ln x_code e_fault e_place e_at e_law p1 = some (o_r, o_x_ln, o_x_code, o_e_fault, o_e_place, o_e_at)) : ∀ sz, Met l yX5_product (mw yX5_product cX5_product 4 (some .boolean)) ({ frames := 6 + (d + 1), cells := 0, slots := 0, locals := 160 + 40 * (d + 1) } : Room) (mPreE D (mT cI cJ cZ cB cT) (W_RD_0_2t6_10 qb0 qb2 qb3 qb4 qx0 qx1 qe0 qb1 qx2 qx3 qx4 cI cJ cZ cB cT b_len b_tok b_ki b_pl b_nu x_cl x_ln x_pt x_code e_fault e_place e_at e_law) sz [.ref qe0, .int p1]) ((mQi D (W_RD_0_2t6_10 qb0 qb2 qb3 qb4 qx0 qx1 qe0 qb1 qx2 qx3 qx4 cI cJ cZ cB cT b_len b_tok b_ki b_pl b_nu x_cl o_x_ln x_pt o_x_code o_e_fault o_e_place o_e_at e_law) o_r (mB o_r)) (va_A (W_RD_0_2t6_10 qb0 qb2 qb3 qb4 qx0 qx1 qe0 qb1 qx2 qx3 qx4 cI cJ cZ cB cT b_len b_tok b_ki b_pl b_nu x_cl x_ln x_pt x_code e_fault e_place e_at e_law) sz)) 0 0 (va_A (W_RD_0_2t6_10 qb0 qb2 qb3 qb4 qx0 qx1 qe0 qb1 qx2 qx3 qx4 cI cJ cZ cB cT b_len b_tok b_ki b_pl b_nu x_cl x_ln x_pt x_code e_fault e_place e_at e_law) sz) := by
  refine mMetE (Qc := (mQi D (W_RD_0_2t6_10 qb0 qb2 qb3 qb4 qx0 qx1 qe0 qb1 qx2 qx3 qx4 cI cJ cZ cB cT b_len b_tok b_ki b_pl b_nu x_cl o_x_ln x_pt o_x_code o_e_fault o_e_place o_e_at e_law) o_r (mB o_r))) (by decide) (Nat.le_of_ble_eq_true rfl) (fun p e s m below meth c A ls hx hb hr hml hts hown hlocks hK hA hP hD hl hE => ?_)
  have hown : s.vm.findClass RX5 = some m.cls := hown
  have hl : lv_has ls 4 [(0, .ref qe0), (1, .int p1)] := hl
  have hS : va_S A s.heap s.heap [] := va_S.rf
  obtain ⟨⟨tM, hZM, hTM⟩, ⟨tL, hZL, hTL⟩, ⟨hNX4, hNX10⟩, tS, tV, hRS, hZC, hZF, hKS⟩ := id hE
  have b12 : ∀ n12 : Nat, ∀ (x_ln : Int32) (x_code : Nat → Int32) (e_fault : Int32) (e_place : Int32) (e_at : Int32) (x1 : Int32) (x2 : Int32) (H : Heap) (locs : List Loc) (ls : Array Slot), f_X5_productB_12 N (f_RG N d) n12 b_len b_tok b_ki b_pl b_nu x_ln x_code e_fault e_place e_at e_law x1 x2 = some (o_r, o_x_ln, o_x_code, o_e_fault, o_e_place, o_e_at) → va_P D vwCl (W_RD_0_2t6_10 qb0 qb2 qb3 qb4 qx0 qx1 qe0 qb1 qx2 qx3 qx4 cI cJ cZ cB cT b_len b_tok b_ki b_pl b_nu x_cl x_ln x_pt x_code e_fault e_place e_at e_law) H → va_D A (W_RD_0_2t6_10 qb0 qb2 qb3 qb4 qx0 qx1 qe0 qb1 qx2 qx3 qx4 cI cJ cZ cB cT b_len b_tok b_ki b_pl b_nu x_cl x_ln x_pt x_code e_fault e_place e_at e_law) → va_S A s.heap H locs → lv_has ls 4 [(0, .ref qe0), (1, .int x1), (2, .int x2)] → W p l e ({ frames := 6 + (d + 1), cells := 0, slots := 0, locals := 160 + 40 * (d + 1) } : Room) s m ([.ref qe0, .int p1] : List Value).toArray below meth c H locs 0 0 (MQ below ((mQi D (W_RD_0_2t6_10 qb0 qb2 qb3 qb4 qx0 qx1 qe0 qb1 qx2 qx3 qx4 cI cJ cZ cB cT b_len b_tok b_ki b_pl b_nu x_cl o_x_ln x_pt o_x_code o_e_fault o_e_place o_e_at e_law) o_r (mB o_r)) A) ([.ref qe0, .int p1] : List Value).toArray s 0 0 A) (F0 m 12 ls []) := by
    intro n12
    induction n12 with
    | zero =>
      intro x_ln x_code e_fault e_place e_at x1 x2 H locs ls hf hP hD hS hl
      simp [f_X5_productB_12] at hf
    | succ n12 ih12 =>
      have b39 : ∀ (x_ln : Int32) (x_code : Nat → Int32) (e_fault : Int32) (e_place : Int32) (e_at : Int32) (x1 : Int32) (x2 : Int32) (x3 : Int32) (H : Heap) (locs : List Loc) (ls : Array Slot), f_X5_productB_39 N (f_RG N d) (f_X5_productB_12 N (f_RG N d) n12) b_len b_tok b_ki b_pl b_nu x_ln x_code e_fault e_place e_at e_law x1 x2 x3 = some (o_r, o_x_ln, o_x_code, o_e_fault, o_e_place, o_e_at) → va_P D vwCl (W_RD_0_2t6_10 qb0 qb2 qb3 qb4 qx0 qx1 qe0 qb1 qx2 qx3 qx4 cI cJ cZ cB cT b_len b_tok b_ki b_pl b_nu x_cl x_ln x_pt x_code e_fault e_place e_at e_law) H → va_D A (W_RD_0_2t6_10 qb0 qb2 qb3 qb4 qx0 qx1 qe0 qb1 qx2 qx3 qx4 cI cJ cZ cB cT b_len b_tok b_ki b_pl b_nu x_cl x_ln x_pt x_code e_fault e_place e_at e_law) → va_S A s.heap H locs → lv_has ls 4 [(0, .ref qe0), (1, .int x1), (2, .int x2), (3, .int x3)] → W p l e ({ frames := 6 + (d + 1), cells := 0, slots := 0, locals := 160 + 40 * (d + 1) } : Room) s m ([.ref qe0, .int p1] : List Value).toArray below meth c H locs 0 0 (MQ below ((mQi D (W_RD_0_2t6_10 qb0 qb2 qb3 qb4 qx0 qx1 qe0 qb1 qx2 qx3 qx4 cI cJ cZ cB cT b_len b_tok b_ki b_pl b_nu x_cl o_x_ln x_pt o_x_code o_e_fault o_e_place o_e_at e_law) o_r (mB o_r)) A) ([.ref qe0, .int p1] : List Value).toArray s 0 0 A) (F0 m 39 ls []) := by
        intro x_ln x_code e_fault e_place e_at x1 x2 x3 H locs ls hf hP hD hS hl
        unfold f_X5_productB_39 at hf
        refine lv_aload_n hx hb dX5_product_39 rfl (lv_at hl 0 rfl) ?_
        obtain ⟨e_at_40, hg40, hf⟩ := ob1_some hf
        refine mcV_v (wr := [(qb2, .inl (cI, 301, .inl b_ki)), (qb3, .inl (cI, 301, .inl b_pl)), (qb4, .inl (cI, 301, .inl b_nu)), (qx0, .inr (9, [.int x_cl, .int x_ln, .int x_pt, .ref qx1, .ref qx2, .ref qx3, .ref qx4])), (qx1, .inl (cI, 301, .inl x_code))]) (As := []) (rest := []) hx hb hml hown hts hK hP hD hS hA (k_X5_next l N D cI cJ cZ cB cT qb0 qe0 qb1 qb2 qb3 qb4 qx0 b_len b_tok e_fault e_place e_at e_law e_at_40 hg40) (kwX5_62 hts rfl rfl ⟨by dsimp only; omega, by dsimp only; omega⟩) [0, 6] [1, 2, 3, 4, 5] rfl rfl rfl (by decide) rfl 1 rfl rfl rfl rfl hl.1 rfl (Nat.le_of_ble_eq_true rfl) dX5_product_40 ⟨Nat.zero_le _, Nat.zero_le _⟩ (fun H locs hP hD hS => ?_)
        have hP := mP_sub (wc := (W_RD_0_2t6_10 qb0 qb2 qb3 qb4 qx0 qx1 qe0 qb1 qx2 qx3 qx4 cI cJ cZ cB cT b_len b_tok b_ki b_pl b_nu x_cl x_ln x_pt x_code e_fault e_place e_at_40 e_law)) hP [5, 0, 1, 2, 3, 4, 6] rfl
        have hD := hD.sub (ws' := (W_RD_0_2t6_10 qb0 qb2 qb3 qb4 qx0 qx1 qe0 qb1 qx2 qx3 qx4 cI cJ cZ cB cT b_len b_tok b_ki b_pl b_nu x_cl x_ln x_pt x_code e_fault e_place e_at_40 e_law)) [5, 0, 1, 2, 3, 4, 6] rfl rfl
        refine lv_aload_n hx hb dX5_product_43 rfl (lv_at hl 0 rfl) ?_
        refine lv_iload_n hx hb dX5_product_44 rfl (lv_at hl 1 rfl) ?_
        obtain ⟨r45, x_ln_45, x_code_45, e_fault_45, e_place_45, e_at_45, hg45, hf⟩ := ob6_some hf
        refine mcV1E_i (As := [.int x1]) (rest := []) hx hb hml hown hts hK hP hD hS hA hE (hg_2 b_len b_tok b_ki b_pl b_nu x_cl x_ln x_pt x_code e_fault e_place e_at_40 e_law x1 r45 x_ln_45 x_code_45 e_fault_45 e_place_45 e_at_45 hg45) (kwX5_103 hts rfl rfl ⟨by dsimp only; omega, by dsimp only; omega⟩) 6 rfl rfl rfl rfl hl.1 rfl (Nat.le_of_ble_eq_true rfl) dX5_product_45 ⟨Nat.zero_le _, Nat.zero_le _⟩ (fun hB45 H locs hP hD hS => ?_)
        have hP : va_P D vwCl (W_RD_0_2t6_10 qb0 qb2 qb3 qb4 qx0 qx1 qe0 qb1 qx2 qx3 qx4 cI cJ cZ cB cT b_len b_tok b_ki b_pl b_nu x_cl x_ln_45 x_pt x_code_45 e_fault_45 e_place_45 e_at_45 e_law) H := hP
        have hD : va_D A (W_RD_0_2t6_10 qb0 qb2 qb3 qb4 qx0 qx1 qe0 qb1 qx2 qx3 qx4 cI cJ cZ cB cT b_len b_tok b_ki b_pl b_nu x_cl x_ln_45 x_pt x_code_45 e_fault_45 e_place_45 e_at_45 e_law) := hD
        refine xif_ne hx hb 53 dX5_product_48 (by decide) hf (fun hf => ?_) (fun hf => ?_)
        · refine lv_iconst (v := (0 : Int32)) hx hb dX5_product_51 (by decide) ?_
          cases hf
          exact mret_z hx hb hr hlocks hP hD hS dX5_product_52 rfl rfl
        · refine lv_aload_n hx hb dX5_product_53 rfl (lv_at hl 0 rfl) ?_
          refine gfX5_18 hx hb hts hown hK hP 6 rfl rfl dX5_product_54 ?_
          refine lv_iload_n hx hb dX5_product_57 rfl (lv_at hl 3 rfl) ?_
          refine lv_iconst (v := (0 : Int32)) hx hb dX5_product_58 (by decide) ?_
          obtain ⟨x_ln_59, x_code_59, hg59, hf⟩ := ob2_some hf
          refine mcV_v (wr := [(qb0, .inr (8, [.int b_len, .int b_tok, .ref qb1, .ref qb2, .ref qb3, .ref qb4])), (qb2, .inl (cI, 301, .inl b_ki)), (qb3, .inl (cI, 301, .inl b_pl)), (qb4, .inl (cI, 301, .inl b_nu)), (qe0, .inr (5, [.int e_fault_45, .int e_place_45, .ref qb0, .ref qx0, .int e_at_45, .int e_law]))]) (As := [.int x3, .int (0 : Int32)]) (rest := []) hx hb hml hown hts hK hP hD hS hA (k_X9_put l N D cI cJ cZ cB cT qx0 qx1 qx2 qx3 qx4 x_cl x_ln_45 x_pt x_code_45 x3 (0 : Int32) x_ln_59 x_code_59 hg59) (kwX5_99 hts rfl rfl ⟨by dsimp only; omega, by dsimp only; omega⟩) [4, 5] [0, 1, 2, 3, 6] rfl rfl rfl (by decide) rfl 0 rfl rfl rfl rfl hl.1 rfl (Nat.le_of_ble_eq_true rfl) dX5_product_59 ⟨Nat.zero_le _, Nat.zero_le _⟩ (fun H locs hP hD hS => ?_)
          have hP := mP_sub (wc := (W_RD_0_2t6_10 qb0 qb2 qb3 qb4 qx0 qx1 qe0 qb1 qx2 qx3 qx4 cI cJ cZ cB cT b_len b_tok b_ki b_pl b_nu x_cl x_ln_59 x_pt x_code_59 e_fault_45 e_place_45 e_at_45 e_law)) hP [0, 1, 2, 3, 5, 6, 4] rfl
          have hD := hD.sub (ws' := (W_RD_0_2t6_10 qb0 qb2 qb3 qb4 qx0 qx1 qe0 qb1 qx2 qx3 qx4 cI cJ cZ cB cT b_len b_tok b_ki b_pl b_nu x_cl x_ln_59 x_pt x_code_59 e_fault_45 e_place_45 e_at_45 e_law)) [0, 1, 2, 3, 5, 6, 4] rfl rfl
          refine lv_iinc (v := (x2 + (1 : Int32))) (lv' := [(2, .int (x2 + (1 : Int32))), (0, .ref qe0), (1, .int x1), (3, .int x3)]) hx hb dX5_product_62 hl (k := 2) rfl rfl (by decide) rfl (fun ls hl => ?_)
          refine lv_goto (tgt := 12) hx hb dX5_product_65 (by decide) ?_
          exact ih12 x_ln_59 x_code_59 e_fault_45 e_place_45 e_at_45 x1 (x2 + (1 : Int32)) _ _ _ hf hP hD hS (lv_sub hl [1, 2, 0] rfl)
      intro x_ln x_code e_fault e_place e_at x1 x2 H locs ls hf hP hD hS hl
      rw [f_X5_productB_12.eq_2] at hf
      refine lv_iload_n hx hb dX5_product_12 rfl (lv_at hl 2 rfl) ?_
      refine lv_sipush (v := (300 : Int32)) hx hb dX5_product_13 (by decide) ?_
      refine xicmp_ge hx hb 68 dX5_product_16 (by decide) hf (fun hf => ?_) (fun hf => ?_)
      · refine lv_iconst (v := (1 : Int32)) hx hb dX5_product_68 (by decide) ?_
        cases hf
        exact mret_z hx hb hr hlocks hP hD hS dX5_product_69 rfl rfl
      · refine lv_aload_n hx hb dX5_product_19 rfl (lv_at hl 0 rfl) ?_
        obtain ⟨r20, hg20, hf⟩ := ob1_some hf
        refine mcV_i (wr := [(qb3, .inl (cI, 301, .inl b_pl)), (qb4, .inl (cI, 301, .inl b_nu)), (qx0, .inr (9, [.int x_cl, .int x_ln, .int x_pt, .ref qx1, .ref qx2, .ref qx3, .ref qx4])), (qx1, .inl (cI, 301, .inl x_code))]) (As := []) (rest := []) hx hb hml hown hts hK hP hD hS hA (k_X5_token l N D cI cJ cZ cB cT qb0 qb2 qe0 qb1 qb3 qb4 qx0 b_len b_tok b_ki e_fault e_place e_at e_law r20 hg20) (kwX5_42 hts rfl rfl ⟨by dsimp only; omega, by dsimp only; omega⟩) [0, 1, 6] [2, 3, 4, 5] rfl rfl rfl (by decide) rfl 2 rfl rfl rfl rfl hl.1 rfl (Nat.le_of_ble_eq_true rfl) dX5_product_20 ⟨Nat.zero_le _, Nat.zero_le _⟩ (fun hB20 H locs hP hD hS => ?_)
        have hP := mP_sub (wc := (W_RD_0_2t6_10 qb0 qb2 qb3 qb4 qx0 qx1 qe0 qb1 qx2 qx3 qx4 cI cJ cZ cB cT b_len b_tok b_ki b_pl b_nu x_cl x_ln x_pt x_code e_fault e_place e_at e_law)) hP [4, 5, 0, 1, 2, 3, 6] rfl
        have hD := hD.sub (ws' := (W_RD_0_2t6_10 qb0 qb2 qb3 qb4 qx0 qx1 qe0 qb1 qx2 qx3 qx4 cI cJ cZ cB cT b_len b_tok b_ki b_pl b_nu x_cl x_ln x_pt x_code e_fault e_place e_at e_law)) [4, 5, 0, 1, 2, 3, 6] rfl rfl
        refine lv_istore_n (lv' := [(3, .int r20), (0, .ref qe0), (1, .int x1), (2, .int x2)]) hx hb dX5_product_23 rfl hl (by decide) rfl (fun ls hl => ?_)
        refine lv_iload_n hx hb dX5_product_24 rfl (lv_at hl 0 rfl) ?_
        refine lv_bipush (v := (41 : Int32)) hx hb dX5_product_25 (by decide) ?_
        refine xicmp_eq hx hb 39 dX5_product_27 (by decide) hf (fun hf => ?_) (fun hf => ?_)
        · exact b39 x_ln x_code e_fault e_place e_at x1 x2 r20 _ _ _ hf hP hD hS (lv_sub hl [1, 2, 3, 0] rfl)
        · refine lv_iload_n hx hb dX5_product_30 rfl (lv_at hl 0 rfl) ?_
          refine lv_bipush (v := (42 : Int32)) hx hb dX5_product_31 (by decide) ?_
          refine xicmp_eq hx hb 39 dX5_product_33 (by decide) hf (fun hf => ?_) (fun hf => ?_)
          · exact b39 x_ln x_code e_fault e_place e_at x1 x2 r20 _ _ _ hf hP hD hS (lv_sub hl [1, 2, 3, 0] rfl)
          · refine lv_goto (tgt := 68) hx hb dX5_product_36 (by decide) ?_
            refine lv_iconst (v := (1 : Int32)) hx hb dX5_product_68 (by decide) ?_
            cases hf
            exact mret_z hx hb hr hlocks hP hD hS dX5_product_69 rfl rfl
  unfold f_X5_productB at hf
  refine lv_aload_n hx hb dX5_product_0 rfl (lv_at hl 0 rfl) ?_
  refine lv_iload_n hx hb dX5_product_1 rfl (lv_at hl 1 rfl) ?_
  obtain ⟨r2, x_ln_2, x_code_2, e_fault_2, e_place_2, e_at_2, hg2, hf⟩ := ob6_some hf
  refine mcV1E_i (As := [.int p1]) (rest := []) hx hb hml hown hts hK hP hD hS hA hE (hg_2 b_len b_tok b_ki b_pl b_nu x_cl x_ln x_pt x_code e_fault e_place e_at e_law p1 r2 x_ln_2 x_code_2 e_fault_2 e_place_2 e_at_2 hg2) (kwX5_103 hts rfl rfl ⟨by dsimp only; omega, by dsimp only; omega⟩) 6 rfl rfl rfl rfl hl.1 rfl (Nat.le_of_ble_eq_true rfl) dX5_product_2 ⟨Nat.zero_le _, Nat.zero_le _⟩ (fun hB2 H locs hP hD hS => ?_)
  have hP : va_P D vwCl (W_RD_0_2t6_10 qb0 qb2 qb3 qb4 qx0 qx1 qe0 qb1 qx2 qx3 qx4 cI cJ cZ cB cT b_len b_tok b_ki b_pl b_nu x_cl x_ln_2 x_pt x_code_2 e_fault_2 e_place_2 e_at_2 e_law) H := hP
  have hD : va_D A (W_RD_0_2t6_10 qb0 qb2 qb3 qb4 qx0 qx1 qe0 qb1 qx2 qx3 qx4 cI cJ cZ cB cT b_len b_tok b_ki b_pl b_nu x_cl x_ln_2 x_pt x_code_2 e_fault_2 e_place_2 e_at_2 e_law) := hD
  refine xif_ne hx hb 10 dX5_product_5 (by decide) hf (fun hf => ?_) (fun hf => ?_)
  · refine lv_iconst (v := (0 : Int32)) hx hb dX5_product_8 (by decide) ?_
    cases hf
    exact mret_z hx hb hr hlocks hP hD hS dX5_product_9 rfl rfl
  · refine lv_iconst (v := (0 : Int32)) hx hb dX5_product_10 (by decide) ?_
    refine lv_istore_n (lv' := [(2, .int (0 : Int32)), (0, .ref qe0), (1, .int p1)]) hx hb dX5_product_11 rfl hl (by decide) rfl (fun ls hl => ?_)
    exact b12 N x_ln_2 x_code_2 e_fault_2 e_place_2 e_at_2 p1 (0 : Int32) _ _ _ hf hP hD hS (lv_sub hl [1, 2, 0] rfl)
set_option maxHeartbeats 4000000 in
set_option maxRecDepth 100000 in
theorem k_X5_oneB (l : Launch) (N : Nat) (D : va_G) (cI cJ cZ cB cT : ClassId) (qb0 : Nat) (qb2 : Nat) (qb3 : Nat) (qb4 : Nat) (qx0 : Nat) (qx1 : Nat) (qe0 : Nat) (qb1 : Nat) (qx2 : Nat) (qx3 : Nat) (qx4 : Nat) (d : Nat) (hg_0 : RG_ok l N D cI cJ cZ cB cT qb0 qb2 qb3 qb4 qx0 qx1 qe0 qb1 qx2 qx3 qx4 d 0 yX5_sum cX5_sum 4) (hg_1 : RG_ok l N D cI cJ cZ cB cT qb0 qb2 qb3 qb4 qx0 qx1 qe0 qb1 qx2 qx3 qx4 d 1 yX5_product cX5_product 4) (hg_2 : RG_ok l N D cI cJ cZ cB cT qb0 qb2 qb3 qb4 qx0 qx1 qe0 qb1 qx2 qx3 qx4 d 2 yX5_one cX5_one 4) (hg_3 : RG_ok l N D cI cJ cZ cB cT qb0 qb2 qb3 qb4 qx0 qx1 qe0 qb1 qx2 qx3 qx4 d 3 yX5_choice cX5_choice 4) (hg_4 : RG_ok l N D cI cJ cZ cB cT qb0 qb2 qb3 qb4 qx0 qx1 qe0 qb1 qx2 qx3 qx4 d 4 yX5_either cX5_either 3) (hg_5 : RG_ok l N D cI cJ cZ cB cT qb0 qb2 qb3 qb4 qx0 qx1 qe0 qb1 qx2 qx3 qx4 d 5 yX5_both cX5_both 3) (hg_6 : RG_ok l N D cI cJ cZ cB cT qb0 qb2 qb3 qb4 qx0 qx1 qe0 qb1 qx2 qx3 qx4 d 6 yX5_ask cX5_ask 3) (b_len : Int32) (b_tok : Int32) (b_ki : Nat → Int32) (b_pl : Nat → Int32) (b_nu : Nat → Int32) (x_cl : Int32) (x_ln : Int32) (x_pt : Int32) (x_code : Nat → Int32) (e_fault : Int32) (e_place : Int32) (e_at : Int32) (e_law : Int32) (p1 : Int32) (o_r : Int32) (o_x_ln : Int32) (o_x_code : Nat → Int32) (o_e_fault : Int32) (o_e_place : Int32) (o_e_at : Int32) (hf : f_X5_oneB N (f_RG N d) b_len b_tok b_ki b_pl b_nu x_ln x_code e_fault e_place e_at e_law p1 = some (o_r, o_x_ln, o_x_code, o_e_fault, o_e_place, o_e_at)) : ∀ sz, Met l yX5_one (mw yX5_one cX5_one 4 (some .boolean)) ({ frames := 6 + (d + 1), cells := 0, slots := 0, locals := 160 + 40 * (d + 1) } : Room) (mPreE D (mT cI cJ cZ cB cT) (W_RD_0_2t6_10 qb0 qb2 qb3 qb4 qx0 qx1 qe0 qb1 qx2 qx3 qx4 cI cJ cZ cB cT b_len b_tok b_ki b_pl b_nu x_cl x_ln x_pt x_code e_fault e_place e_at e_law) sz [.ref qe0, .int p1]) ((mQi D (W_RD_0_2t6_10 qb0 qb2 qb3 qb4 qx0 qx1 qe0 qb1 qx2 qx3 qx4 cI cJ cZ cB cT b_len b_tok b_ki b_pl b_nu x_cl o_x_ln x_pt o_x_code o_e_fault o_e_place o_e_at e_law) o_r (mB o_r)) (va_A (W_RD_0_2t6_10 qb0 qb2 qb3 qb4 qx0 qx1 qe0 qb1 qx2 qx3 qx4 cI cJ cZ cB cT b_len b_tok b_ki b_pl b_nu x_cl x_ln x_pt x_code e_fault e_place e_at e_law) sz)) 0 0 (va_A (W_RD_0_2t6_10 qb0 qb2 qb3 qb4 qx0 qx1 qe0 qb1 qx2 qx3 qx4 cI cJ cZ cB cT b_len b_tok b_ki b_pl b_nu x_cl x_ln x_pt x_code e_fault e_place e_at e_law) sz) := by
  refine mMetE (Qc := (mQi D (W_RD_0_2t6_10 qb0 qb2 qb3 qb4 qx0 qx1 qe0 qb1 qx2 qx3 qx4 cI cJ cZ cB cT b_len b_tok b_ki b_pl b_nu x_cl o_x_ln x_pt o_x_code o_e_fault o_e_place o_e_at e_law) o_r (mB o_r))) (by decide) (Nat.le_of_ble_eq_true rfl) (fun p e s m below meth c A ls hx hb hr hml hts hown hlocks hK hA hP hD hl hE => ?_)
  have hown : s.vm.findClass RX5 = some m.cls := hown
  have hl : lv_has ls 4 [(0, .ref qe0), (1, .int p1)] := hl
  have hS : va_S A s.heap s.heap [] := va_S.rf
  obtain ⟨⟨tM, hZM, hTM⟩, ⟨tL, hZL, hTL⟩, ⟨hNX4, hNX10⟩, tS, tV, hRS, hZC, hZF, hKS⟩ := id hE
  have b23 : ∀ (x_ln : Int32) (x_code : Nat → Int32) (e_fault : Int32) (e_place : Int32) (e_at : Int32) (x2 : Int32) (H : Heap) (locs : List Loc) (ls : Array Slot), f_X5_oneB_23 N (f_RG N d) b_len b_tok b_ki b_pl b_nu x_ln x_code e_fault e_place e_at e_law x2 = some (o_r, o_x_ln, o_x_code, o_e_fault, o_e_place, o_e_at) → va_P D vwCl (W_RD_0_2t6_10 qb0 qb2 qb3 qb4 qx0 qx1 qe0 qb1 qx2 qx3 qx4 cI cJ cZ cB cT b_len b_tok b_ki b_pl b_nu x_cl x_ln x_pt x_code e_fault e_place e_at e_law) H → va_D A (W_RD_0_2t6_10 qb0 qb2 qb3 qb4 qx0 qx1 qe0 qb1 qx2 qx3 qx4 cI cJ cZ cB cT b_len b_tok b_ki b_pl b_nu x_cl x_ln x_pt x_code e_fault e_place e_at e_law) → va_S A s.heap H locs → lv_has ls 4 [(0, .ref qe0), (2, .int x2)] → W p l e ({ frames := 6 + (d + 1), cells := 0, slots := 0, locals := 160 + 40 * (d + 1) } : Room) s m ([.ref qe0, .int p1] : List Value).toArray below meth c H locs 0 0 (MQ below ((mQi D (W_RD_0_2t6_10 qb0 qb2 qb3 qb4 qx0 qx1 qe0 qb1 qx2 qx3 qx4 cI cJ cZ cB cT b_len b_tok b_ki b_pl b_nu x_cl o_x_ln x_pt o_x_code o_e_fault o_e_place o_e_at e_law) o_r (mB o_r)) A) ([.ref qe0, .int p1] : List Value).toArray s 0 0 A) (F0 m 23 ls []) := by
    intro x_ln x_code e_fault e_place e_at x2 H locs ls hf hP hD hS hl
    unfold f_X5_oneB_23 at hf
    refine lv_aload_n hx hb dX5_one_23 rfl (lv_at hl 0 rfl) ?_
    refine lv_iload_n hx hb dX5_one_24 rfl (lv_at hl 1 rfl) ?_
    obtain ⟨r25, x_ln_25, x_code_25, e_fault_25, e_place_25, e_at_25, hg25, hf⟩ := ob6_some hf
    refine mcVE_i (wr := [(qb2, .inl (cI, 301, .inl b_ki))]) (As := [.int x2]) (rest := []) hx hb hml hown hts hK hP hD hS hA hE (k_X5_leaf l N D cI cJ cZ cB cT qb0 qb3 qb4 qx0 qx1 qe0 qb1 qb2 qx2 qx3 qx4 b_len b_tok b_pl b_nu x_cl x_ln x_pt x_code e_fault e_place e_at e_law x2 r25 x_ln_25 x_code_25 e_fault_25 e_place_25 e_at_25 hg25) (kwX5_106 hts rfl rfl ⟨by dsimp only; omega, by dsimp only; omega⟩) [0, 2, 3, 4, 5, 6] [1] rfl rfl rfl (by decide) rfl 5 rfl rfl rfl rfl hl.1 rfl (Nat.le_of_ble_eq_true rfl) dX5_one_25 ⟨Nat.zero_le _, Nat.zero_le _⟩ (fun hB25 H locs hP hD hS => ?_)
    have hP := mP_sub (wc := (W_RD_0_2t6_10 qb0 qb2 qb3 qb4 qx0 qx1 qe0 qb1 qx2 qx3 qx4 cI cJ cZ cB cT b_len b_tok b_ki b_pl b_nu x_cl x_ln_25 x_pt x_code_25 e_fault_25 e_place_25 e_at_25 e_law)) hP [1, 0, 2, 3, 4, 5, 6] rfl
    have hD := hD.sub (ws' := (W_RD_0_2t6_10 qb0 qb2 qb3 qb4 qx0 qx1 qe0 qb1 qx2 qx3 qx4 cI cJ cZ cB cT b_len b_tok b_ki b_pl b_nu x_cl x_ln_25 x_pt x_code_25 e_fault_25 e_place_25 e_at_25 e_law)) [1, 0, 2, 3, 4, 5, 6] rfl rfl
    cases hf
    exact mret_z hx hb hr hlocks hP hD hS dX5_one_28 rfl hB25
  have b164 : ∀ (x_ln : Int32) (x_code : Nat → Int32) (e_fault : Int32) (e_place : Int32) (e_at : Int32) (s1 : Int32) (H : Heap) (locs : List Loc) (ls : Array Slot), f_X5_oneB_164 N (f_RG N d) b_len b_tok b_ki b_pl b_nu x_ln x_code e_fault e_place e_at e_law s1 = some (o_r, o_x_ln, o_x_code, o_e_fault, o_e_place, o_e_at) → va_P D vwCl (W_RD_0_2t6_10 qb0 qb2 qb3 qb4 qx0 qx1 qe0 qb1 qx2 qx3 qx4 cI cJ cZ cB cT b_len b_tok b_ki b_pl b_nu x_cl x_ln x_pt x_code e_fault e_place e_at e_law) H → va_D A (W_RD_0_2t6_10 qb0 qb2 qb3 qb4 qx0 qx1 qe0 qb1 qx2 qx3 qx4 cI cJ cZ cB cT b_len b_tok b_ki b_pl b_nu x_cl x_ln x_pt x_code e_fault e_place e_at e_law) → va_S A s.heap H locs → lv_has ls 4 [] → W p l e ({ frames := 6 + (d + 1), cells := 0, slots := 0, locals := 160 + 40 * (d + 1) } : Room) s m ([.ref qe0, .int p1] : List Value).toArray below meth c H locs 0 0 (MQ below ((mQi D (W_RD_0_2t6_10 qb0 qb2 qb3 qb4 qx0 qx1 qe0 qb1 qx2 qx3 qx4 cI cJ cZ cB cT b_len b_tok b_ki b_pl b_nu x_cl o_x_ln x_pt o_x_code o_e_fault o_e_place o_e_at e_law) o_r (mB o_r)) A) ([.ref qe0, .int p1] : List Value).toArray s 0 0 A) (F0 m 164 ls [.int s1, .ref qx0]) := by
    intro x_ln x_code e_fault e_place e_at s1 H locs ls hf hP hD hS hl
    unfold f_X5_oneB_164 at hf
    refine lv_iconst (v := (0 : Int32)) hx hb dX5_one_164 (by decide) ?_
    obtain ⟨x_ln_165, x_code_165, hg165, hf⟩ := ob2_some hf
    refine mcV_v (wr := [(qb0, .inr (8, [.int b_len, .int b_tok, .ref qb1, .ref qb2, .ref qb3, .ref qb4])), (qb2, .inl (cI, 301, .inl b_ki)), (qb3, .inl (cI, 301, .inl b_pl)), (qb4, .inl (cI, 301, .inl b_nu)), (qe0, .inr (5, [.int e_fault, .int e_place, .ref qb0, .ref qx0, .int e_at, .int e_law]))]) (As := [.int s1, .int (0 : Int32)]) (rest := []) hx hb hml hown hts hK hP hD hS hA (k_X9_put l N D cI cJ cZ cB cT qx0 qx1 qx2 qx3 qx4 x_cl x_ln x_pt x_code s1 (0 : Int32) x_ln_165 x_code_165 hg165) (kwX5_99 hts rfl rfl ⟨by dsimp only; omega, by dsimp only; omega⟩) [4, 5] [0, 1, 2, 3, 6] rfl rfl rfl (by decide) rfl 0 rfl rfl rfl rfl hl.1 rfl (Nat.le_of_ble_eq_true rfl) dX5_one_165 ⟨Nat.zero_le _, Nat.zero_le _⟩ (fun H locs hP hD hS => ?_)
    have hP := mP_sub (wc := (W_RD_0_2t6_10 qb0 qb2 qb3 qb4 qx0 qx1 qe0 qb1 qx2 qx3 qx4 cI cJ cZ cB cT b_len b_tok b_ki b_pl b_nu x_cl x_ln_165 x_pt x_code_165 e_fault e_place e_at e_law)) hP [0, 1, 2, 3, 5, 6, 4] rfl
    have hD := hD.sub (ws' := (W_RD_0_2t6_10 qb0 qb2 qb3 qb4 qx0 qx1 qe0 qb1 qx2 qx3 qx4 cI cJ cZ cB cT b_len b_tok b_ki b_pl b_nu x_cl x_ln_165 x_pt x_code_165 e_fault e_place e_at e_law)) [0, 1, 2, 3, 5, 6, 4] rfl rfl
    refine lv_iconst (v := (1 : Int32)) hx hb dX5_one_168 (by decide) ?_
    cases hf
    exact mret_z hx hb hr hlocks hP hD hS dX5_one_169 rfl rfl
  have b75 : ∀ (x_ln : Int32) (x_code : Nat → Int32) (e_fault : Int32) (e_place : Int32) (e_at : Int32) (x1 : Int32) (x2 : Int32) (H : Heap) (locs : List Loc) (ls : Array Slot), f_X5_oneB_75 N (f_RG N d) b_len b_tok b_ki b_pl b_nu x_ln x_code e_fault e_place e_at e_law x1 x2 = some (o_r, o_x_ln, o_x_code, o_e_fault, o_e_place, o_e_at) → va_P D vwCl (W_RD_0_2t6_10 qb0 qb2 qb3 qb4 qx0 qx1 qe0 qb1 qx2 qx3 qx4 cI cJ cZ cB cT b_len b_tok b_ki b_pl b_nu x_cl x_ln x_pt x_code e_fault e_place e_at e_law) H → va_D A (W_RD_0_2t6_10 qb0 qb2 qb3 qb4 qx0 qx1 qe0 qb1 qx2 qx3 qx4 cI cJ cZ cB cT b_len b_tok b_ki b_pl b_nu x_cl x_ln x_pt x_code e_fault e_place e_at e_law) → va_S A s.heap H locs → lv_has ls 4 [(0, .ref qe0), (1, .int x1), (2, .int x2)] → W p l e ({ frames := 6 + (d + 1), cells := 0, slots := 0, locals := 160 + 40 * (d + 1) } : Room) s m ([.ref qe0, .int p1] : List Value).toArray below meth c H locs 0 0 (MQ below ((mQi D (W_RD_0_2t6_10 qb0 qb2 qb3 qb4 qx0 qx1 qe0 qb1 qx2 qx3 qx4 cI cJ cZ cB cT b_len b_tok b_ki b_pl b_nu x_cl o_x_ln x_pt o_x_code o_e_fault o_e_place o_e_at e_law) o_r (mB o_r)) A) ([.ref qe0, .int p1] : List Value).toArray s 0 0 A) (F0 m 75 ls []) := by
    intro x_ln x_code e_fault e_place e_at x1 x2 H locs ls hf hP hD hS hl
    unfold f_X5_oneB_75 at hf
    refine lv_iload_n hx hb dX5_one_75 rfl (lv_at hl 1 rfl) ?_
    refine lv_bipush (v := (8 : Int32)) hx hb dX5_one_76 (by decide) ?_
    refine xicmp_lt hx hb 87 dX5_one_78 (by decide) hf (fun hf => ?_) (fun hf => ?_)
    · refine lv_aload_n hx hb dX5_one_87 rfl (lv_at hl 0 rfl) ?_
      obtain ⟨e_at_88, hg88, hf⟩ := ob1_some hf
      refine mcV_v (wr := [(qb2, .inl (cI, 301, .inl b_ki)), (qb3, .inl (cI, 301, .inl b_pl)), (qb4, .inl (cI, 301, .inl b_nu)), (qx0, .inr (9, [.int x_cl, .int x_ln, .int x_pt, .ref qx1, .ref qx2, .ref qx3, .ref qx4])), (qx1, .inl (cI, 301, .inl x_code))]) (As := []) (rest := []) hx hb hml hown hts hK hP hD hS hA (k_X5_next l N D cI cJ cZ cB cT qb0 qe0 qb1 qb2 qb3 qb4 qx0 b_len b_tok e_fault e_place e_at e_law e_at_88 hg88) (kwX5_62 hts rfl rfl ⟨by dsimp only; omega, by dsimp only; omega⟩) [0, 6] [1, 2, 3, 4, 5] rfl rfl rfl (by decide) rfl 1 rfl rfl rfl rfl hl.1 rfl (Nat.le_of_ble_eq_true rfl) dX5_one_88 ⟨Nat.zero_le _, Nat.zero_le _⟩ (fun H locs hP hD hS => ?_)
      have hP := mP_sub (wc := (W_RD_0_2t6_10 qb0 qb2 qb3 qb4 qx0 qx1 qe0 qb1 qx2 qx3 qx4 cI cJ cZ cB cT b_len b_tok b_ki b_pl b_nu x_cl x_ln x_pt x_code e_fault e_place e_at_88 e_law)) hP [5, 0, 1, 2, 3, 4, 6] rfl
      have hD := hD.sub (ws' := (W_RD_0_2t6_10 qb0 qb2 qb3 qb4 qx0 qx1 qe0 qb1 qx2 qx3 qx4 cI cJ cZ cB cT b_len b_tok b_ki b_pl b_nu x_cl x_ln x_pt x_code e_fault e_place e_at_88 e_law)) [5, 0, 1, 2, 3, 4, 6] rfl rfl
      refine lv_iload_n hx hb dX5_one_91 rfl (lv_at hl 2 rfl) ?_
      refine lv_bipush (v := (43 : Int32)) hx hb dX5_one_92 (by decide) ?_
      refine xicmp_ne hx hb 122 dX5_one_94 (by decide) hf (fun hf => ?_) (fun hf => ?_)
      · refine lv_aload_n hx hb dX5_one_97 rfl (lv_at hl 0 rfl) ?_
        refine lv_iload_n hx hb dX5_one_98 rfl (lv_at hl 1 rfl) ?_
        refine lv_iconst (v := (1 : Int32)) hx hb dX5_one_99 (by decide) ?_
        refine lv_iadd hx hb dX5_one_100 ?_
        obtain ⟨r101, x_ln_101, x_code_101, e_fault_101, e_place_101, e_at_101, hg101, hf⟩ := ob6_some hf
        refine mcV1E_i (As := [.int (x1 + (1 : Int32))]) (rest := []) hx hb hml hown hts hK hP hD hS hA hE (hg_0 b_len b_tok b_ki b_pl b_nu x_cl x_ln x_pt x_code e_fault e_place e_at_88 e_law (x1 + (1 : Int32)) r101 x_ln_101 x_code_101 e_fault_101 e_place_101 e_at_101 hg101) (kwX5_81 hts rfl rfl ⟨by dsimp only; omega, by dsimp only; omega⟩) 6 rfl rfl rfl rfl hl.1 rfl (Nat.le_of_ble_eq_true rfl) dX5_one_101 ⟨Nat.zero_le _, Nat.zero_le _⟩ (fun hB101 H locs hP hD hS => ?_)
        have hP : va_P D vwCl (W_RD_0_2t6_10 qb0 qb2 qb3 qb4 qx0 qx1 qe0 qb1 qx2 qx3 qx4 cI cJ cZ cB cT b_len b_tok b_ki b_pl b_nu x_cl x_ln_101 x_pt x_code_101 e_fault_101 e_place_101 e_at_101 e_law) H := hP
        have hD : va_D A (W_RD_0_2t6_10 qb0 qb2 qb3 qb4 qx0 qx1 qe0 qb1 qx2 qx3 qx4 cI cJ cZ cB cT b_len b_tok b_ki b_pl b_nu x_cl x_ln_101 x_pt x_code_101 e_fault_101 e_place_101 e_at_101 e_law) := hD
        refine xif_eq hx hb 120 dX5_one_104 (by decide) hf (fun hf => ?_) (fun hf => ?_)
        · refine lv_iconst (v := (0 : Int32)) hx hb dX5_one_120 (by decide) ?_
          cases hf
          exact mret_z hx hb hr hlocks hP hD hS dX5_one_121 rfl rfl
        · refine lv_aload_n hx hb dX5_one_107 rfl (lv_at hl 0 rfl) ?_
          refine lv_bipush (v := (44 : Int32)) hx hb dX5_one_108 (by decide) ?_
          obtain ⟨r110, e_fault_110, e_place_110, e_at_110, hg110, hf⟩ := ob4_some hf
          refine mcV_i (wr := [(qb4, .inl (cI, 301, .inl b_nu)), (qx0, .inr (9, [.int x_cl, .int x_ln_101, .int x_pt, .ref qx1, .ref qx2, .ref qx3, .ref qx4])), (qx1, .inl (cI, 301, .inl x_code_101))]) (As := [.int (44 : Int32)]) (rest := []) hx hb hml hown hts hK hP hD hS hA (k_X5_expect l N D cI cJ cZ cB cT qb0 qb2 qb3 qe0 qb1 qb4 qx0 b_len b_tok b_ki b_pl e_fault_101 e_place_101 e_at_101 e_law (44 : Int32) r110 e_fault_110 e_place_110 e_at_110 hg110) (kwX5_78 hts rfl rfl ⟨by dsimp only; omega, by dsimp only; omega⟩) [0, 1, 2, 6] [3, 4, 5] rfl rfl rfl (by decide) rfl 3 rfl rfl rfl rfl hl.1 rfl (Nat.le_of_ble_eq_true rfl) dX5_one_110 ⟨Nat.zero_le _, Nat.zero_le _⟩ (fun hB110 H locs hP hD hS => ?_)
          have hP := mP_sub (wc := (W_RD_0_2t6_10 qb0 qb2 qb3 qb4 qx0 qx1 qe0 qb1 qx2 qx3 qx4 cI cJ cZ cB cT b_len b_tok b_ki b_pl b_nu x_cl x_ln_101 x_pt x_code_101 e_fault_110 e_place_110 e_at_110 e_law)) hP [3, 4, 5, 0, 1, 2, 6] rfl
          have hD := hD.sub (ws' := (W_RD_0_2t6_10 qb0 qb2 qb3 qb4 qx0 qx1 qe0 qb1 qx2 qx3 qx4 cI cJ cZ cB cT b_len b_tok b_ki b_pl b_nu x_cl x_ln_101 x_pt x_code_101 e_fault_110 e_place_110 e_at_110 e_law)) [3, 4, 5, 0, 1, 2, 6] rfl rfl
          refine xif_eq hx hb 120 dX5_one_113 (by decide) hf (fun hf => ?_) (fun hf => ?_)
          · refine lv_iconst (v := (0 : Int32)) hx hb dX5_one_120 (by decide) ?_
            cases hf
            exact mret_z hx hb hr hlocks hP hD hS dX5_one_121 rfl rfl
          · refine lv_iconst (v := (1 : Int32)) hx hb dX5_one_116 (by decide) ?_
            refine lv_goto (tgt := 121) hx hb dX5_one_117 (by decide) ?_
            cases hf
            exact mret_z hx hb hr hlocks hP hD hS dX5_one_121 rfl rfl
      · refine lv_iload_n hx hb dX5_one_122 rfl (lv_at hl 2 rfl) ?_
        refine lv_bipush (v := (26 : Int32)) hx hb dX5_one_123 (by decide) ?_
        refine xicmp_ne hx hb 136 dX5_one_125 (by decide) hf (fun hf => ?_) (fun hf => ?_)
        · refine lv_aload_n hx hb dX5_one_128 rfl (lv_at hl 0 rfl) ?_
          refine lv_iload_n hx hb dX5_one_129 rfl (lv_at hl 1 rfl) ?_
          refine lv_iconst (v := (1 : Int32)) hx hb dX5_one_130 (by decide) ?_
          refine lv_iadd hx hb dX5_one_131 ?_
          obtain ⟨r132, x_ln_132, x_code_132, e_fault_132, e_place_132, e_at_132, hg132, hf⟩ := ob6_some hf
          refine mcV1E_i (As := [.int (x1 + (1 : Int32))]) (rest := []) hx hb hml hown hts hK hP hD hS hA hE (hg_3 b_len b_tok b_ki b_pl b_nu x_cl x_ln x_pt x_code e_fault e_place e_at_88 e_law (x1 + (1 : Int32)) r132 x_ln_132 x_code_132 e_fault_132 e_place_132 e_at_132 hg132) (kwX5_109 hts rfl rfl ⟨by dsimp only; omega, by dsimp only; omega⟩) 6 rfl rfl rfl rfl hl.1 rfl (Nat.le_of_ble_eq_true rfl) dX5_one_132 ⟨Nat.zero_le _, Nat.zero_le _⟩ (fun hB132 H locs hP hD hS => ?_)
          have hP : va_P D vwCl (W_RD_0_2t6_10 qb0 qb2 qb3 qb4 qx0 qx1 qe0 qb1 qx2 qx3 qx4 cI cJ cZ cB cT b_len b_tok b_ki b_pl b_nu x_cl x_ln_132 x_pt x_code_132 e_fault_132 e_place_132 e_at_132 e_law) H := hP
          have hD : va_D A (W_RD_0_2t6_10 qb0 qb2 qb3 qb4 qx0 qx1 qe0 qb1 qx2 qx3 qx4 cI cJ cZ cB cT b_len b_tok b_ki b_pl b_nu x_cl x_ln_132 x_pt x_code_132 e_fault_132 e_place_132 e_at_132 e_law) := hD
          cases hf
          exact mret_z hx hb hr hlocks hP hD hS dX5_one_135 rfl hB132
        · refine lv_aload_n hx hb dX5_one_136 rfl (lv_at hl 0 rfl) ?_
          refine lv_iload_n hx hb dX5_one_137 rfl (lv_at hl 1 rfl) ?_
          refine lv_iconst (v := (1 : Int32)) hx hb dX5_one_138 (by decide) ?_
          refine lv_iadd hx hb dX5_one_139 ?_
          obtain ⟨r140, x_ln_140, x_code_140, e_fault_140, e_place_140, e_at_140, hg140, hf⟩ := ob6_some hf
          refine mcV1E_i (As := [.int (x1 + (1 : Int32))]) (rest := []) hx hb hml hown hts hK hP hD hS hA hE (hg_2 b_len b_tok b_ki b_pl b_nu x_cl x_ln x_pt x_code e_fault e_place e_at_88 e_law (x1 + (1 : Int32)) r140 x_ln_140 x_code_140 e_fault_140 e_place_140 e_at_140 hg140) (kwX5_103 hts rfl rfl ⟨by dsimp only; omega, by dsimp only; omega⟩) 6 rfl rfl rfl rfl hl.1 rfl (Nat.le_of_ble_eq_true rfl) dX5_one_140 ⟨Nat.zero_le _, Nat.zero_le _⟩ (fun hB140 H locs hP hD hS => ?_)
          have hP : va_P D vwCl (W_RD_0_2t6_10 qb0 qb2 qb3 qb4 qx0 qx1 qe0 qb1 qx2 qx3 qx4 cI cJ cZ cB cT b_len b_tok b_ki b_pl b_nu x_cl x_ln_140 x_pt x_code_140 e_fault_140 e_place_140 e_at_140 e_law) H := hP
          have hD : va_D A (W_RD_0_2t6_10 qb0 qb2 qb3 qb4 qx0 qx1 qe0 qb1 qx2 qx3 qx4 cI cJ cZ cB cT b_len b_tok b_ki b_pl b_nu x_cl x_ln_140 x_pt x_code_140 e_fault_140 e_place_140 e_at_140 e_law) := hD
          refine xif_ne hx hb 148 dX5_one_143 (by decide) hf (fun hf => ?_) (fun hf => ?_)
          · refine lv_iconst (v := (0 : Int32)) hx hb dX5_one_146 (by decide) ?_
            cases hf
            exact mret_z hx hb hr hlocks hP hD hS dX5_one_147 rfl rfl
          · refine lv_aload_n hx hb dX5_one_148 rfl (lv_at hl 0 rfl) ?_
            refine gfX5_18 hx hb hts hown hK hP 6 rfl rfl dX5_one_149 ?_
            refine lv_iload_n hx hb dX5_one_152 rfl (lv_at hl 2 rfl) ?_
            refine lv_bipush (v := (40 : Int32)) hx hb dX5_one_153 (by decide) ?_
            refine xicmp_ne hx hb 163 dX5_one_155 (by decide) hf (fun hf => ?_) (fun hf => ?_)
            · refine lv_bipush (v := (49 : Int32)) hx hb dX5_one_158 (by decide) ?_
              refine lv_goto (tgt := 164) hx hb dX5_one_160 (by decide) ?_
              exact b164 x_ln_140 x_code_140 e_fault_140 e_place_140 e_at_140 (49 : Int32) _ _ _ hf hP hD hS (lv_sub hl [] rfl)
            · refine lv_iload_n hx hb dX5_one_163 rfl (lv_at hl 2 rfl) ?_
              exact b164 x_ln_140 x_code_140 e_fault_140 e_place_140 e_at_140 x2 _ _ _ hf hP hD hS (lv_sub hl [] rfl)
    · refine lv_aload_n hx hb dX5_one_81 rfl (lv_at hl 0 rfl) ?_
      refine lv_iconst (v := (3 : Int32)) hx hb dX5_one_82 (by decide) ?_
      obtain ⟨r83, e_fault_83, e_place_83, hg83, hf⟩ := ob3_some hf
      refine mcV_i (wr := [(qb2, .inl (cI, 301, .inl b_ki)), (qb4, .inl (cI, 301, .inl b_nu)), (qx0, .inr (9, [.int x_cl, .int x_ln, .int x_pt, .ref qx1, .ref qx2, .ref qx3, .ref qx4])), (qx1, .inl (cI, 301, .inl x_code))]) (As := [.int (3 : Int32)]) (rest := []) hx hb hml hown hts hK hP hD hS hA (k_X5_fail l N D cI cJ cZ cB cT qb0 qb3 qe0 qb1 qb2 qb4 qx0 b_len b_tok b_pl e_fault e_place e_at e_law (3 : Int32) r83 e_fault_83 e_place_83 hg83) (kwX5_59 hts rfl rfl ⟨by dsimp only; omega, by dsimp only; omega⟩) [0, 2, 6] [1, 3, 4, 5] rfl rfl rfl (by decide) rfl 2 rfl rfl rfl rfl hl.1 rfl (Nat.le_of_ble_eq_true rfl) dX5_one_83 ⟨Nat.zero_le _, Nat.zero_le _⟩ (fun hB83 H locs hP hD hS => ?_)
      have hP := mP_sub (wc := (W_RD_0_2t6_10 qb0 qb2 qb3 qb4 qx0 qx1 qe0 qb1 qx2 qx3 qx4 cI cJ cZ cB cT b_len b_tok b_ki b_pl b_nu x_cl x_ln x_pt x_code e_fault_83 e_place_83 e_at e_law)) hP [4, 0, 5, 1, 2, 3, 6] rfl
      have hD := hD.sub (ws' := (W_RD_0_2t6_10 qb0 qb2 qb3 qb4 qx0 qx1 qe0 qb1 qx2 qx3 qx4 cI cJ cZ cB cT b_len b_tok b_ki b_pl b_nu x_cl x_ln x_pt x_code e_fault_83 e_place_83 e_at e_law)) [4, 0, 5, 1, 2, 3, 6] rfl rfl
      cases hf
      exact mret_z hx hb hr hlocks hP hD hS dX5_one_86 rfl hB83
  have b52 : ∀ (x_ln : Int32) (x_code : Nat → Int32) (e_fault : Int32) (e_place : Int32) (e_at : Int32) (x1 : Int32) (x2 : Int32) (s0 : Int32) (H : Heap) (locs : List Loc) (ls : Array Slot), f_X5_oneB_52 N (f_RG N d) b_len b_tok b_ki b_pl b_nu x_ln x_code e_fault e_place e_at e_law x1 x2 s0 = some (o_r, o_x_ln, o_x_code, o_e_fault, o_e_place, o_e_at) → va_P D vwCl (W_RD_0_2t6_10 qb0 qb2 qb3 qb4 qx0 qx1 qe0 qb1 qx2 qx3 qx4 cI cJ cZ cB cT b_len b_tok b_ki b_pl b_nu x_cl x_ln x_pt x_code e_fault e_place e_at e_law) H → va_D A (W_RD_0_2t6_10 qb0 qb2 qb3 qb4 qx0 qx1 qe0 qb1 qx2 qx3 qx4 cI cJ cZ cB cT b_len b_tok b_ki b_pl b_nu x_cl x_ln x_pt x_code e_fault e_place e_at e_law) → va_S A s.heap H locs → lv_has ls 4 [(0, .ref qe0), (1, .int x1), (2, .int x2)] → W p l e ({ frames := 6 + (d + 1), cells := 0, slots := 0, locals := 160 + 40 * (d + 1) } : Room) s m ([.ref qe0, .int p1] : List Value).toArray below meth c H locs 0 0 (MQ below ((mQi D (W_RD_0_2t6_10 qb0 qb2 qb3 qb4 qx0 qx1 qe0 qb1 qx2 qx3 qx4 cI cJ cZ cB cT b_len b_tok b_ki b_pl b_nu x_cl o_x_ln x_pt o_x_code o_e_fault o_e_place o_e_at e_law) o_r (mB o_r)) A) ([.ref qe0, .int p1] : List Value).toArray s 0 0 A) (F0 m 52 ls [.int s0]) := by
    intro x_ln x_code e_fault e_place e_at x1 x2 s0 H locs ls hf hP hD hS hl
    unfold f_X5_oneB_52 at hf
    refine lv_istore_n (lv' := [(3, .int s0), (0, .ref qe0), (1, .int x1), (2, .int x2)]) hx hb dX5_one_52 rfl hl (by decide) rfl (fun ls hl => ?_)
    refine lv_iload_n hx hb dX5_one_53 rfl (lv_at hl 0 rfl) ?_
    refine xif_ne hx hb 75 dX5_one_54 (by decide) hf (fun hf => ?_) (fun hf => ?_)
    · refine lv_iload_n hx hb dX5_one_57 rfl (lv_at hl 3 rfl) ?_
      refine lv_bipush (v := (43 : Int32)) hx hb dX5_one_58 (by decide) ?_
      refine xicmp_eq hx hb 75 dX5_one_60 (by decide) hf (fun hf => ?_) (fun hf => ?_)
      · exact b75 x_ln x_code e_fault e_place e_at x1 x2 _ _ _ hf hP hD hS (lv_sub hl [1, 2, 3] rfl)
      · refine lv_iload_n hx hb dX5_one_63 rfl (lv_at hl 3 rfl) ?_
        refine lv_bipush (v := (26 : Int32)) hx hb dX5_one_64 (by decide) ?_
        refine xicmp_eq hx hb 75 dX5_one_66 (by decide) hf (fun hf => ?_) (fun hf => ?_)
        · exact b75 x_ln x_code e_fault e_place e_at x1 x2 _ _ _ hf hP hD hS (lv_sub hl [1, 2, 3] rfl)
        · refine lv_aload_n hx hb dX5_one_69 rfl (lv_at hl 1 rfl) ?_
          refine lv_iconst (v := (1 : Int32)) hx hb dX5_one_70 (by decide) ?_
          obtain ⟨r71, e_fault_71, e_place_71, hg71, hf⟩ := ob3_some hf
          refine mcV_i (wr := [(qb2, .inl (cI, 301, .inl b_ki)), (qb4, .inl (cI, 301, .inl b_nu)), (qx0, .inr (9, [.int x_cl, .int x_ln, .int x_pt, .ref qx1, .ref qx2, .ref qx3, .ref qx4])), (qx1, .inl (cI, 301, .inl x_code))]) (As := [.int (1 : Int32)]) (rest := []) hx hb hml hown hts hK hP hD hS hA (k_X5_fail l N D cI cJ cZ cB cT qb0 qb3 qe0 qb1 qb2 qb4 qx0 b_len b_tok b_pl e_fault e_place e_at e_law (1 : Int32) r71 e_fault_71 e_place_71 hg71) (kwX5_59 hts rfl rfl ⟨by dsimp only; omega, by dsimp only; omega⟩) [0, 2, 6] [1, 3, 4, 5] rfl rfl rfl (by decide) rfl 2 rfl rfl rfl rfl hl.1 rfl (Nat.le_of_ble_eq_true rfl) dX5_one_71 ⟨Nat.zero_le _, Nat.zero_le _⟩ (fun hB71 H locs hP hD hS => ?_)
          have hP := mP_sub (wc := (W_RD_0_2t6_10 qb0 qb2 qb3 qb4 qx0 qx1 qe0 qb1 qx2 qx3 qx4 cI cJ cZ cB cT b_len b_tok b_ki b_pl b_nu x_cl x_ln x_pt x_code e_fault_71 e_place_71 e_at e_law)) hP [4, 0, 5, 1, 2, 3, 6] rfl
          have hD := hD.sub (ws' := (W_RD_0_2t6_10 qb0 qb2 qb3 qb4 qx0 qx1 qe0 qb1 qx2 qx3 qx4 cI cJ cZ cB cT b_len b_tok b_ki b_pl b_nu x_cl x_ln x_pt x_code e_fault_71 e_place_71 e_at e_law)) [4, 0, 5, 1, 2, 3, 6] rfl rfl
          cases hf
          exact mret_z hx hb hr hlocks hP hD hS dX5_one_74 rfl hB71
    · exact b75 x_ln x_code e_fault e_place e_at x1 x2 _ _ _ hf hP hD hS (lv_sub hl [1, 2, 3] rfl)
  have b47 : ∀ (x_ln : Int32) (x_code : Nat → Int32) (e_fault : Int32) (e_place : Int32) (e_at : Int32) (x1 : Int32) (x2 : Int32) (H : Heap) (locs : List Loc) (ls : Array Slot), f_X5_oneB_47 N (f_RG N d) b_len b_tok b_ki b_pl b_nu x_ln x_code e_fault e_place e_at e_law x1 x2 = some (o_r, o_x_ln, o_x_code, o_e_fault, o_e_place, o_e_at) → va_P D vwCl (W_RD_0_2t6_10 qb0 qb2 qb3 qb4 qx0 qx1 qe0 qb1 qx2 qx3 qx4 cI cJ cZ cB cT b_len b_tok b_ki b_pl b_nu x_cl x_ln x_pt x_code e_fault e_place e_at e_law) H → va_D A (W_RD_0_2t6_10 qb0 qb2 qb3 qb4 qx0 qx1 qe0 qb1 qx2 qx3 qx4 cI cJ cZ cB cT b_len b_tok b_ki b_pl b_nu x_cl x_ln x_pt x_code e_fault e_place e_at e_law) → va_S A s.heap H locs → lv_has ls 4 [(0, .ref qe0), (1, .int x1), (2, .int x2)] → W p l e ({ frames := 6 + (d + 1), cells := 0, slots := 0, locals := 160 + 40 * (d + 1) } : Room) s m ([.ref qe0, .int p1] : List Value).toArray below meth c H locs 0 0 (MQ below ((mQi D (W_RD_0_2t6_10 qb0 qb2 qb3 qb4 qx0 qx1 qe0 qb1 qx2 qx3 qx4 cI cJ cZ cB cT b_len b_tok b_ki b_pl b_nu x_cl o_x_ln x_pt o_x_code o_e_fault o_e_place o_e_at e_law) o_r (mB o_r)) A) ([.ref qe0, .int p1] : List Value).toArray s 0 0 A) (F0 m 47 ls []) := by
    intro x_ln x_code e_fault e_place e_at x1 x2 H locs ls hf hP hD hS hl
    unfold f_X5_oneB_47 at hf
    refine lv_iconst (v := (1 : Int32)) hx hb dX5_one_47 (by decide) ?_
    refine lv_goto (tgt := 52) hx hb dX5_one_48 (by decide) ?_
    exact b52 x_ln x_code e_fault e_place e_at x1 x2 (1 : Int32) _ _ _ hf hP hD hS (lv_sub hl [0, 1, 2] rfl)
  have b29 : ∀ (x_ln : Int32) (x_code : Nat → Int32) (e_fault : Int32) (e_place : Int32) (e_at : Int32) (x1 : Int32) (x2 : Int32) (H : Heap) (locs : List Loc) (ls : Array Slot), f_X5_oneB_29 N (f_RG N d) b_len b_tok b_ki b_pl b_nu x_ln x_code e_fault e_place e_at e_law x1 x2 = some (o_r, o_x_ln, o_x_code, o_e_fault, o_e_place, o_e_at) → va_P D vwCl (W_RD_0_2t6_10 qb0 qb2 qb3 qb4 qx0 qx1 qe0 qb1 qx2 qx3 qx4 cI cJ cZ cB cT b_len b_tok b_ki b_pl b_nu x_cl x_ln x_pt x_code e_fault e_place e_at e_law) H → va_D A (W_RD_0_2t6_10 qb0 qb2 qb3 qb4 qx0 qx1 qe0 qb1 qx2 qx3 qx4 cI cJ cZ cB cT b_len b_tok b_ki b_pl b_nu x_cl x_ln x_pt x_code e_fault e_place e_at e_law) → va_S A s.heap H locs → lv_has ls 4 [(0, .ref qe0), (1, .int x1), (2, .int x2)] → W p l e ({ frames := 6 + (d + 1), cells := 0, slots := 0, locals := 160 + 40 * (d + 1) } : Room) s m ([.ref qe0, .int p1] : List Value).toArray below meth c H locs 0 0 (MQ below ((mQi D (W_RD_0_2t6_10 qb0 qb2 qb3 qb4 qx0 qx1 qe0 qb1 qx2 qx3 qx4 cI cJ cZ cB cT b_len b_tok b_ki b_pl b_nu x_cl o_x_ln x_pt o_x_code o_e_fault o_e_place o_e_at e_law) o_r (mB o_r)) A) ([.ref qe0, .int p1] : List Value).toArray s 0 0 A) (F0 m 29 ls []) := by
    intro x_ln x_code e_fault e_place e_at x1 x2 H locs ls hf hP hD hS hl
    unfold f_X5_oneB_29 at hf
    refine lv_iload_n hx hb dX5_one_29 rfl (lv_at hl 2 rfl) ?_
    refine lv_bipush (v := (40 : Int32)) hx hb dX5_one_30 (by decide) ?_
    refine xicmp_eq hx hb 47 dX5_one_32 (by decide) hf (fun hf => ?_) (fun hf => ?_)
    · exact b47 x_ln x_code e_fault e_place e_at x1 x2 _ _ _ hf hP hD hS (lv_sub hl [0, 1, 2] rfl)
    · refine lv_iload_n hx hb dX5_one_35 rfl (lv_at hl 2 rfl) ?_
      refine lv_bipush (v := (24 : Int32)) hx hb dX5_one_36 (by decide) ?_
      refine xicmp_eq hx hb 47 dX5_one_38 (by decide) hf (fun hf => ?_) (fun hf => ?_)
      · exact b47 x_ln x_code e_fault e_place e_at x1 x2 _ _ _ hf hP hD hS (lv_sub hl [0, 1, 2] rfl)
      · refine lv_iload_n hx hb dX5_one_41 rfl (lv_at hl 2 rfl) ?_
        refine lv_bipush (v := (25 : Int32)) hx hb dX5_one_42 (by decide) ?_
        refine xicmp_ne hx hb 51 dX5_one_44 (by decide) hf (fun hf => ?_) (fun hf => ?_)
        · exact b47 x_ln x_code e_fault e_place e_at x1 x2 _ _ _ hf hP hD hS (lv_sub hl [0, 1, 2] rfl)
        · refine lv_iconst (v := (0 : Int32)) hx hb dX5_one_51 (by decide) ?_
          exact b52 x_ln x_code e_fault e_place e_at x1 x2 (0 : Int32) _ _ _ hf hP hD hS (lv_sub hl [0, 1, 2] rfl)
  unfold f_X5_oneB at hf
  refine lv_aload_n hx hb dX5_one_0 rfl (lv_at hl 0 rfl) ?_
  obtain ⟨r1, hg1, hf⟩ := ob1_some hf
  refine mcV_i (wr := [(qb3, .inl (cI, 301, .inl b_pl)), (qb4, .inl (cI, 301, .inl b_nu)), (qx0, .inr (9, [.int x_cl, .int x_ln, .int x_pt, .ref qx1, .ref qx2, .ref qx3, .ref qx4])), (qx1, .inl (cI, 301, .inl x_code))]) (As := []) (rest := []) hx hb hml hown hts hK hP hD hS hA (k_X5_token l N D cI cJ cZ cB cT qb0 qb2 qe0 qb1 qb3 qb4 qx0 b_len b_tok b_ki e_fault e_place e_at e_law r1 hg1) (kwX5_42 hts rfl rfl ⟨by dsimp only; omega, by dsimp only; omega⟩) [0, 1, 6] [2, 3, 4, 5] rfl rfl rfl (by decide) rfl 2 rfl rfl rfl rfl hl.1 rfl (Nat.le_of_ble_eq_true rfl) dX5_one_1 ⟨Nat.zero_le _, Nat.zero_le _⟩ (fun hB1 H locs hP hD hS => ?_)
  have hP := mP_sub (wc := (W_RD_0_2t6_10 qb0 qb2 qb3 qb4 qx0 qx1 qe0 qb1 qx2 qx3 qx4 cI cJ cZ cB cT b_len b_tok b_ki b_pl b_nu x_cl x_ln x_pt x_code e_fault e_place e_at e_law)) hP [4, 5, 0, 1, 2, 3, 6] rfl
  have hD := hD.sub (ws' := (W_RD_0_2t6_10 qb0 qb2 qb3 qb4 qx0 qx1 qe0 qb1 qx2 qx3 qx4 cI cJ cZ cB cT b_len b_tok b_ki b_pl b_nu x_cl x_ln x_pt x_code e_fault e_place e_at e_law)) [4, 5, 0, 1, 2, 3, 6] rfl rfl
  refine lv_istore_n (lv' := [(2, .int r1), (0, .ref qe0), (1, .int p1)]) hx hb dX5_one_4 rfl hl (by decide) rfl (fun ls hl => ?_)
  refine lv_iload_n hx hb dX5_one_5 rfl (lv_at hl 0 rfl) ?_
  refine lv_bipush (v := (46 : Int32)) hx hb dX5_one_6 (by decide) ?_
  refine xicmp_eq hx hb 23 dX5_one_8 (by decide) hf (fun hf => ?_) (fun hf => ?_)
  · exact b23 x_ln x_code e_fault e_place e_at r1 _ _ _ hf hP hD hS (lv_sub hl [1, 0] rfl)
  · refine lv_iload_n hx hb dX5_one_11 rfl (lv_at hl 0 rfl) ?_
    refine lv_bipush (v := (11 : Int32)) hx hb dX5_one_12 (by decide) ?_
    refine xicmp_lt hx hb 29 dX5_one_14 (by decide) hf (fun hf => ?_) (fun hf => ?_)
    · exact b29 x_ln x_code e_fault e_place e_at p1 r1 _ _ _ hf hP hD hS (lv_sub hl [1, 2, 0] rfl)
    · refine lv_iload_n hx hb dX5_one_17 rfl (lv_at hl 0 rfl) ?_
      refine lv_bipush (v := (20 : Int32)) hx hb dX5_one_18 (by decide) ?_
      refine xicmp_gt hx hb 29 dX5_one_20 (by decide) hf (fun hf => ?_) (fun hf => ?_)
      · exact b29 x_ln x_code e_fault e_place e_at p1 r1 _ _ _ hf hP hD hS (lv_sub hl [1, 2, 0] rfl)
      · exact b23 x_ln x_code e_fault e_place e_at r1 _ _ _ hf hP hD hS (lv_sub hl [1, 0] rfl)
set_option maxHeartbeats 4000000 in
set_option maxRecDepth 100000 in
theorem k_X5_choiceB (l : Launch) (N : Nat) (D : va_G) (cI cJ cZ cB cT : ClassId) (qb0 : Nat) (qb2 : Nat) (qb3 : Nat) (qb4 : Nat) (qx0 : Nat) (qx1 : Nat) (qe0 : Nat) (qb1 : Nat) (qx2 : Nat) (qx3 : Nat) (qx4 : Nat) (d : Nat) (hg_0 : RG_ok l N D cI cJ cZ cB cT qb0 qb2 qb3 qb4 qx0 qx1 qe0 qb1 qx2 qx3 qx4 d 0 yX5_sum cX5_sum 4) (hg_1 : RG_ok l N D cI cJ cZ cB cT qb0 qb2 qb3 qb4 qx0 qx1 qe0 qb1 qx2 qx3 qx4 d 1 yX5_product cX5_product 4) (hg_2 : RG_ok l N D cI cJ cZ cB cT qb0 qb2 qb3 qb4 qx0 qx1 qe0 qb1 qx2 qx3 qx4 d 2 yX5_one cX5_one 4) (hg_3 : RG_ok l N D cI cJ cZ cB cT qb0 qb2 qb3 qb4 qx0 qx1 qe0 qb1 qx2 qx3 qx4 d 3 yX5_choice cX5_choice 4) (hg_4 : RG_ok l N D cI cJ cZ cB cT qb0 qb2 qb3 qb4 qx0 qx1 qe0 qb1 qx2 qx3 qx4 d 4 yX5_either cX5_either 3) (hg_5 : RG_ok l N D cI cJ cZ cB cT qb0 qb2 qb3 qb4 qx0 qx1 qe0 qb1 qx2 qx3 qx4 d 5 yX5_both cX5_both 3) (hg_6 : RG_ok l N D cI cJ cZ cB cT qb0 qb2 qb3 qb4 qx0 qx1 qe0 qb1 qx2 qx3 qx4 d 6 yX5_ask cX5_ask 3) (b_len : Int32) (b_tok : Int32) (b_ki : Nat → Int32) (b_pl : Nat → Int32) (b_nu : Nat → Int32) (x_cl : Int32) (x_ln : Int32) (x_pt : Int32) (x_code : Nat → Int32) (e_fault : Int32) (e_place : Int32) (e_at : Int32) (e_law : Int32) (p1 : Int32) (o_r : Int32) (o_x_ln : Int32) (o_x_code : Nat → Int32) (o_e_fault : Int32) (o_e_place : Int32) (o_e_at : Int32) (hf : f_X5_choiceB N (f_RG N d) b_len b_tok b_ki b_pl b_nu x_ln x_code e_fault e_place e_at e_law p1 = some (o_r, o_x_ln, o_x_code, o_e_fault, o_e_place, o_e_at)) : ∀ sz, Met l yX5_choice (mw yX5_choice cX5_choice 4 (some .boolean)) ({ frames := 6 + (d + 1), cells := 0, slots := 0, locals := 160 + 40 * (d + 1) } : Room) (mPreE D (mT cI cJ cZ cB cT) (W_RD_0_2t6_10 qb0 qb2 qb3 qb4 qx0 qx1 qe0 qb1 qx2 qx3 qx4 cI cJ cZ cB cT b_len b_tok b_ki b_pl b_nu x_cl x_ln x_pt x_code e_fault e_place e_at e_law) sz [.ref qe0, .int p1]) ((mQi D (W_RD_0_2t6_10 qb0 qb2 qb3 qb4 qx0 qx1 qe0 qb1 qx2 qx3 qx4 cI cJ cZ cB cT b_len b_tok b_ki b_pl b_nu x_cl o_x_ln x_pt o_x_code o_e_fault o_e_place o_e_at e_law) o_r (mB o_r)) (va_A (W_RD_0_2t6_10 qb0 qb2 qb3 qb4 qx0 qx1 qe0 qb1 qx2 qx3 qx4 cI cJ cZ cB cT b_len b_tok b_ki b_pl b_nu x_cl x_ln x_pt x_code e_fault e_place e_at e_law) sz)) 0 0 (va_A (W_RD_0_2t6_10 qb0 qb2 qb3 qb4 qx0 qx1 qe0 qb1 qx2 qx3 qx4 cI cJ cZ cB cT b_len b_tok b_ki b_pl b_nu x_cl x_ln x_pt x_code e_fault e_place e_at e_law) sz) := by
  refine mMetE (Qc := (mQi D (W_RD_0_2t6_10 qb0 qb2 qb3 qb4 qx0 qx1 qe0 qb1 qx2 qx3 qx4 cI cJ cZ cB cT b_len b_tok b_ki b_pl b_nu x_cl o_x_ln x_pt o_x_code o_e_fault o_e_place o_e_at e_law) o_r (mB o_r))) (by decide) (Nat.le_of_ble_eq_true rfl) (fun p e s m below meth c A ls hx hb hr hml hts hown hlocks hK hA hP hD hl hE => ?_)
  have hown : s.vm.findClass RX5 = some m.cls := hown
  have hl : lv_has ls 4 [(0, .ref qe0), (1, .int p1)] := hl
  have hS : va_S A s.heap s.heap [] := va_S.rf
  obtain ⟨⟨tM, hZM, hTM⟩, ⟨tL, hZL, hTL⟩, ⟨hNX4, hNX10⟩, tS, tV, hRS, hZC, hZF, hKS⟩ := id hE
  unfold f_X5_choiceB at hf
  refine lv_aload_n hx hb dX5_choice_0 rfl (lv_at hl 0 rfl) ?_
  refine lv_iload_n hx hb dX5_choice_1 rfl (lv_at hl 1 rfl) ?_
  obtain ⟨r2, x_ln_2, x_code_2, e_fault_2, e_place_2, e_at_2, hg2, hf⟩ := ob6_some hf
  refine mcV1E_i (As := [.int p1]) (rest := []) hx hb hml hown hts hK hP hD hS hA hE (hg_4 b_len b_tok b_ki b_pl b_nu x_cl x_ln x_pt x_code e_fault e_place e_at e_law p1 r2 x_ln_2 x_code_2 e_fault_2 e_place_2 e_at_2 hg2) (kwX5_116 hts rfl rfl ⟨by dsimp only; omega, by dsimp only; omega⟩) 6 rfl rfl rfl rfl hl.1 rfl (Nat.le_of_ble_eq_true rfl) dX5_choice_2 ⟨Nat.zero_le _, Nat.zero_le _⟩ (fun hB2 H locs hP hD hS => ?_)
  have hP : va_P D vwCl (W_RD_0_2t6_10 qb0 qb2 qb3 qb4 qx0 qx1 qe0 qb1 qx2 qx3 qx4 cI cJ cZ cB cT b_len b_tok b_ki b_pl b_nu x_cl x_ln_2 x_pt x_code_2 e_fault_2 e_place_2 e_at_2 e_law) H := hP
  have hD : va_D A (W_RD_0_2t6_10 qb0 qb2 qb3 qb4 qx0 qx1 qe0 qb1 qx2 qx3 qx4 cI cJ cZ cB cT b_len b_tok b_ki b_pl b_nu x_cl x_ln_2 x_pt x_code_2 e_fault_2 e_place_2 e_at_2 e_law) := hD
  refine xif_eq hx hb 17 dX5_choice_5 (by decide) hf (fun hf => ?_) (fun hf => ?_)
  · refine lv_iconst (v := (0 : Int32)) hx hb dX5_choice_17 (by decide) ?_
    cases hf
    exact mret_z hx hb hr hlocks hP hD hS dX5_choice_18 rfl rfl
  · refine lv_aload_n hx hb dX5_choice_8 rfl (lv_at hl 0 rfl) ?_
    refine lv_bipush (v := (27 : Int32)) hx hb dX5_choice_9 (by decide) ?_
    obtain ⟨r11, e_fault_11, e_place_11, e_at_11, hg11, hf⟩ := ob4_some hf
    refine mcV_i (wr := [(qb4, .inl (cI, 301, .inl b_nu)), (qx0, .inr (9, [.int x_cl, .int x_ln_2, .int x_pt, .ref qx1, .ref qx2, .ref qx3, .ref qx4])), (qx1, .inl (cI, 301, .inl x_code_2))]) (As := [.int (27 : Int32)]) (rest := []) hx hb hml hown hts hK hP hD hS hA (k_X5_expect l N D cI cJ cZ cB cT qb0 qb2 qb3 qe0 qb1 qb4 qx0 b_len b_tok b_ki b_pl e_fault_2 e_place_2 e_at_2 e_law (27 : Int32) r11 e_fault_11 e_place_11 e_at_11 hg11) (kwX5_78 hts rfl rfl ⟨by dsimp only; omega, by dsimp only; omega⟩) [0, 1, 2, 6] [3, 4, 5] rfl rfl rfl (by decide) rfl 3 rfl rfl rfl rfl hl.1 rfl (Nat.le_of_ble_eq_true rfl) dX5_choice_11 ⟨Nat.zero_le _, Nat.zero_le _⟩ (fun hB11 H locs hP hD hS => ?_)
    have hP := mP_sub (wc := (W_RD_0_2t6_10 qb0 qb2 qb3 qb4 qx0 qx1 qe0 qb1 qx2 qx3 qx4 cI cJ cZ cB cT b_len b_tok b_ki b_pl b_nu x_cl x_ln_2 x_pt x_code_2 e_fault_11 e_place_11 e_at_11 e_law)) hP [3, 4, 5, 0, 1, 2, 6] rfl
    have hD := hD.sub (ws' := (W_RD_0_2t6_10 qb0 qb2 qb3 qb4 qx0 qx1 qe0 qb1 qx2 qx3 qx4 cI cJ cZ cB cT b_len b_tok b_ki b_pl b_nu x_cl x_ln_2 x_pt x_code_2 e_fault_11 e_place_11 e_at_11 e_law)) [3, 4, 5, 0, 1, 2, 6] rfl rfl
    refine xif_ne hx hb 19 dX5_choice_14 (by decide) hf (fun hf => ?_) (fun hf => ?_)
    · refine lv_iconst (v := (0 : Int32)) hx hb dX5_choice_17 (by decide) ?_
      cases hf
      exact mret_z hx hb hr hlocks hP hD hS dX5_choice_18 rfl rfl
    · refine lv_aload_n hx hb dX5_choice_19 rfl (lv_at hl 0 rfl) ?_
      refine gfX5_18 hx hb hts hown hK hP 6 rfl rfl dX5_choice_20 ?_
      refine lv_bipush (v := (27 : Int32)) hx hb dX5_choice_23 (by decide) ?_
      obtain ⟨r25, x_ln_25, x_code_25, hg25, hf⟩ := ob3_some hf
      refine mcV_i (wr := [(qb0, .inr (8, [.int b_len, .int b_tok, .ref qb1, .ref qb2, .ref qb3, .ref qb4])), (qb2, .inl (cI, 301, .inl b_ki)), (qb3, .inl (cI, 301, .inl b_pl)), (qb4, .inl (cI, 301, .inl b_nu)), (qe0, .inr (5, [.int e_fault_11, .int e_place_11, .ref qb0, .ref qx0, .int e_at_11, .int e_law]))]) (As := [.int (27 : Int32)]) (rest := []) hx hb hml hown hts hK hP hD hS hA (k_X9_putLeap l N D cI cJ cZ cB cT qx0 qx1 qx2 qx3 qx4 x_cl x_ln_2 x_pt x_code_2 (27 : Int32) r25 x_ln_25 x_code_25 hg25) (kwX5_119 hts rfl rfl ⟨by dsimp only; omega, by dsimp only; omega⟩) [4, 5] [0, 1, 2, 3, 6] rfl rfl rfl (by decide) rfl 0 rfl rfl rfl rfl hl.1 rfl (Nat.le_of_ble_eq_true rfl) dX5_choice_25 ⟨Nat.zero_le _, Nat.zero_le _⟩ (fun hB25 H locs hP hD hS => ?_)
      have hP := mP_sub (wc := (W_RD_0_2t6_10 qb0 qb2 qb3 qb4 qx0 qx1 qe0 qb1 qx2 qx3 qx4 cI cJ cZ cB cT b_len b_tok b_ki b_pl b_nu x_cl x_ln_25 x_pt x_code_25 e_fault_11 e_place_11 e_at_11 e_law)) hP [0, 1, 2, 3, 5, 6, 4] rfl
      have hD := hD.sub (ws' := (W_RD_0_2t6_10 qb0 qb2 qb3 qb4 qx0 qx1 qe0 qb1 qx2 qx3 qx4 cI cJ cZ cB cT b_len b_tok b_ki b_pl b_nu x_cl x_ln_25 x_pt x_code_25 e_fault_11 e_place_11 e_at_11 e_law)) [0, 1, 2, 3, 5, 6, 4] rfl rfl
      refine lv_istore_n (lv' := [(2, .int r25), (0, .ref qe0), (1, .int p1)]) hx hb dX5_choice_28 rfl hl (by decide) rfl (fun ls hl => ?_)
      refine lv_aload_n hx hb dX5_choice_29 rfl (lv_at hl 1 rfl) ?_
      refine lv_iload_n hx hb dX5_choice_30 rfl (lv_at hl 2 rfl) ?_
      obtain ⟨r31, x_ln_31, x_code_31, e_fault_31, e_place_31, e_at_31, hg31, hf⟩ := ob6_some hf
      refine mcV1E_i (As := [.int p1]) (rest := []) hx hb hml hown hts hK hP hD hS hA hE (hg_0 b_len b_tok b_ki b_pl b_nu x_cl x_ln_25 x_pt x_code_25 e_fault_11 e_place_11 e_at_11 e_law p1 r31 x_ln_31 x_code_31 e_fault_31 e_place_31 e_at_31 hg31) (kwX5_81 hts rfl rfl ⟨by dsimp only; omega, by dsimp only; omega⟩) 6 rfl rfl rfl rfl hl.1 rfl (Nat.le_of_ble_eq_true rfl) dX5_choice_31 ⟨Nat.zero_le _, Nat.zero_le _⟩ (fun hB31 H locs hP hD hS => ?_)
      have hP : va_P D vwCl (W_RD_0_2t6_10 qb0 qb2 qb3 qb4 qx0 qx1 qe0 qb1 qx2 qx3 qx4 cI cJ cZ cB cT b_len b_tok b_ki b_pl b_nu x_cl x_ln_31 x_pt x_code_31 e_fault_31 e_place_31 e_at_31 e_law) H := hP
      have hD : va_D A (W_RD_0_2t6_10 qb0 qb2 qb3 qb4 qx0 qx1 qe0 qb1 qx2 qx3 qx4 cI cJ cZ cB cT b_len b_tok b_ki b_pl b_nu x_cl x_ln_31 x_pt x_code_31 e_fault_31 e_place_31 e_at_31 e_law) := hD
      refine xif_eq hx hb 46 dX5_choice_34 (by decide) hf (fun hf => ?_) (fun hf => ?_)
      · refine lv_iconst (v := (0 : Int32)) hx hb dX5_choice_46 (by decide) ?_
        cases hf
        exact mret_z hx hb hr hlocks hP hD hS dX5_choice_47 rfl rfl
      · refine lv_aload_n hx hb dX5_choice_37 rfl (lv_at hl 1 rfl) ?_
        refine lv_bipush (v := (28 : Int32)) hx hb dX5_choice_38 (by decide) ?_
        obtain ⟨r40, e_fault_40, e_place_40, e_at_40, hg40, hf⟩ := ob4_some hf
        refine mcV_i (wr := [(qb4, .inl (cI, 301, .inl b_nu)), (qx0, .inr (9, [.int x_cl, .int x_ln_31, .int x_pt, .ref qx1, .ref qx2, .ref qx3, .ref qx4])), (qx1, .inl (cI, 301, .inl x_code_31))]) (As := [.int (28 : Int32)]) (rest := []) hx hb hml hown hts hK hP hD hS hA (k_X5_expect l N D cI cJ cZ cB cT qb0 qb2 qb3 qe0 qb1 qb4 qx0 b_len b_tok b_ki b_pl e_fault_31 e_place_31 e_at_31 e_law (28 : Int32) r40 e_fault_40 e_place_40 e_at_40 hg40) (kwX5_78 hts rfl rfl ⟨by dsimp only; omega, by dsimp only; omega⟩) [0, 1, 2, 6] [3, 4, 5] rfl rfl rfl (by decide) rfl 3 rfl rfl rfl rfl hl.1 rfl (Nat.le_of_ble_eq_true rfl) dX5_choice_40 ⟨Nat.zero_le _, Nat.zero_le _⟩ (fun hB40 H locs hP hD hS => ?_)
        have hP := mP_sub (wc := (W_RD_0_2t6_10 qb0 qb2 qb3 qb4 qx0 qx1 qe0 qb1 qx2 qx3 qx4 cI cJ cZ cB cT b_len b_tok b_ki b_pl b_nu x_cl x_ln_31 x_pt x_code_31 e_fault_40 e_place_40 e_at_40 e_law)) hP [3, 4, 5, 0, 1, 2, 6] rfl
        have hD := hD.sub (ws' := (W_RD_0_2t6_10 qb0 qb2 qb3 qb4 qx0 qx1 qe0 qb1 qx2 qx3 qx4 cI cJ cZ cB cT b_len b_tok b_ki b_pl b_nu x_cl x_ln_31 x_pt x_code_31 e_fault_40 e_place_40 e_at_40 e_law)) [3, 4, 5, 0, 1, 2, 6] rfl rfl
        refine xif_ne hx hb 48 dX5_choice_43 (by decide) hf (fun hf => ?_) (fun hf => ?_)
        · refine lv_iconst (v := (0 : Int32)) hx hb dX5_choice_46 (by decide) ?_
          cases hf
          exact mret_z hx hb hr hlocks hP hD hS dX5_choice_47 rfl rfl
        · refine lv_aload_n hx hb dX5_choice_48 rfl (lv_at hl 1 rfl) ?_
          refine gfX5_18 hx hb hts hown hK hP 6 rfl rfl dX5_choice_49 ?_
          refine lv_bipush (v := (28 : Int32)) hx hb dX5_choice_52 (by decide) ?_
          obtain ⟨r54, x_ln_54, x_code_54, hg54, hf⟩ := ob3_some hf
          refine mcV_i (wr := [(qb0, .inr (8, [.int b_len, .int b_tok, .ref qb1, .ref qb2, .ref qb3, .ref qb4])), (qb2, .inl (cI, 301, .inl b_ki)), (qb3, .inl (cI, 301, .inl b_pl)), (qb4, .inl (cI, 301, .inl b_nu)), (qe0, .inr (5, [.int e_fault_40, .int e_place_40, .ref qb0, .ref qx0, .int e_at_40, .int e_law]))]) (As := [.int (28 : Int32)]) (rest := []) hx hb hml hown hts hK hP hD hS hA (k_X9_putLeap l N D cI cJ cZ cB cT qx0 qx1 qx2 qx3 qx4 x_cl x_ln_31 x_pt x_code_31 (28 : Int32) r54 x_ln_54 x_code_54 hg54) (kwX5_119 hts rfl rfl ⟨by dsimp only; omega, by dsimp only; omega⟩) [4, 5] [0, 1, 2, 3, 6] rfl rfl rfl (by decide) rfl 0 rfl rfl rfl rfl hl.1 rfl (Nat.le_of_ble_eq_true rfl) dX5_choice_54 ⟨Nat.zero_le _, Nat.zero_le _⟩ (fun hB54 H locs hP hD hS => ?_)
          have hP := mP_sub (wc := (W_RD_0_2t6_10 qb0 qb2 qb3 qb4 qx0 qx1 qe0 qb1 qx2 qx3 qx4 cI cJ cZ cB cT b_len b_tok b_ki b_pl b_nu x_cl x_ln_54 x_pt x_code_54 e_fault_40 e_place_40 e_at_40 e_law)) hP [0, 1, 2, 3, 5, 6, 4] rfl
          have hD := hD.sub (ws' := (W_RD_0_2t6_10 qb0 qb2 qb3 qb4 qx0 qx1 qe0 qb1 qx2 qx3 qx4 cI cJ cZ cB cT b_len b_tok b_ki b_pl b_nu x_cl x_ln_54 x_pt x_code_54 e_fault_40 e_place_40 e_at_40 e_law)) [0, 1, 2, 3, 5, 6, 4] rfl rfl
          refine lv_istore_n (lv' := [(3, .int r54), (2, .int r25), (0, .ref qe0), (1, .int p1)]) hx hb dX5_choice_57 rfl hl (by decide) rfl (fun ls hl => ?_)
          refine lv_aload_n hx hb dX5_choice_58 rfl (lv_at hl 2 rfl) ?_
          refine gfX5_18 hx hb hts hown hK hP 6 rfl rfl dX5_choice_59 ?_
          refine lv_iload_n hx hb dX5_choice_62 rfl (lv_at hl 1 rfl) ?_
          refine lv_bipush (v := (27 : Int32)) hx hb dX5_choice_63 (by decide) ?_
          obtain ⟨x_code_65, hg65, hf⟩ := ob1_some hf
          refine mcV_v (wr := [(qb0, .inr (8, [.int b_len, .int b_tok, .ref qb1, .ref qb2, .ref qb3, .ref qb4])), (qb2, .inl (cI, 301, .inl b_ki)), (qb3, .inl (cI, 301, .inl b_pl)), (qb4, .inl (cI, 301, .inl b_nu)), (qe0, .inr (5, [.int e_fault_40, .int e_place_40, .ref qb0, .ref qx0, .int e_at_40, .int e_law]))]) (As := [.int r25, .int (27 : Int32)]) (rest := []) hx hb hml hown hts hK hP hD hS hA (k_X9_leapsHere l N D cI cJ cZ cB cT qx0 qx1 qx2 qx3 qx4 x_cl x_ln_54 x_pt x_code_54 r25 (27 : Int32) x_code_65 hg65) (kwX5_122 hts rfl rfl ⟨by dsimp only; omega, by dsimp only; omega⟩) [4, 5] [0, 1, 2, 3, 6] rfl rfl rfl (by decide) rfl 0 rfl rfl rfl rfl hl.1 rfl (Nat.le_of_ble_eq_true rfl) dX5_choice_65 ⟨Nat.zero_le _, Nat.zero_le _⟩ (fun H locs hP hD hS => ?_)
          have hP := mP_sub (wc := (W_RD_0_2t6_10 qb0 qb2 qb3 qb4 qx0 qx1 qe0 qb1 qx2 qx3 qx4 cI cJ cZ cB cT b_len b_tok b_ki b_pl b_nu x_cl x_ln_54 x_pt x_code_65 e_fault_40 e_place_40 e_at_40 e_law)) hP [0, 1, 2, 3, 5, 6, 4] rfl
          have hD := hD.sub (ws' := (W_RD_0_2t6_10 qb0 qb2 qb3 qb4 qx0 qx1 qe0 qb1 qx2 qx3 qx4 cI cJ cZ cB cT b_len b_tok b_ki b_pl b_nu x_cl x_ln_54 x_pt x_code_65 e_fault_40 e_place_40 e_at_40 e_law)) [0, 1, 2, 3, 5, 6, 4] rfl rfl
          refine lv_aload_n hx hb dX5_choice_68 rfl (lv_at hl 2 rfl) ?_
          refine lv_iload_n hx hb dX5_choice_69 rfl (lv_at hl 3 rfl) ?_
          obtain ⟨r70, x_ln_70, x_code_70, e_fault_70, e_place_70, e_at_70, hg70, hf⟩ := ob6_some hf
          refine mcV1E_i (As := [.int p1]) (rest := []) hx hb hml hown hts hK hP hD hS hA hE (hg_0 b_len b_tok b_ki b_pl b_nu x_cl x_ln_54 x_pt x_code_65 e_fault_40 e_place_40 e_at_40 e_law p1 r70 x_ln_70 x_code_70 e_fault_70 e_place_70 e_at_70 hg70) (kwX5_81 hts rfl rfl ⟨by dsimp only; omega, by dsimp only; omega⟩) 6 rfl rfl rfl rfl hl.1 rfl (Nat.le_of_ble_eq_true rfl) dX5_choice_70 ⟨Nat.zero_le _, Nat.zero_le _⟩ (fun hB70 H locs hP hD hS => ?_)
          have hP : va_P D vwCl (W_RD_0_2t6_10 qb0 qb2 qb3 qb4 qx0 qx1 qe0 qb1 qx2 qx3 qx4 cI cJ cZ cB cT b_len b_tok b_ki b_pl b_nu x_cl x_ln_70 x_pt x_code_70 e_fault_70 e_place_70 e_at_70 e_law) H := hP
          have hD : va_D A (W_RD_0_2t6_10 qb0 qb2 qb3 qb4 qx0 qx1 qe0 qb1 qx2 qx3 qx4 cI cJ cZ cB cT b_len b_tok b_ki b_pl b_nu x_cl x_ln_70 x_pt x_code_70 e_fault_70 e_place_70 e_at_70 e_law) := hD
          refine xif_eq hx hb 85 dX5_choice_73 (by decide) hf (fun hf => ?_) (fun hf => ?_)
          · refine lv_iconst (v := (0 : Int32)) hx hb dX5_choice_85 (by decide) ?_
            cases hf
            exact mret_z hx hb hr hlocks hP hD hS dX5_choice_86 rfl rfl
          · refine lv_aload_n hx hb dX5_choice_76 rfl (lv_at hl 2 rfl) ?_
            refine lv_bipush (v := (29 : Int32)) hx hb dX5_choice_77 (by decide) ?_
            obtain ⟨r79, e_fault_79, e_place_79, e_at_79, hg79, hf⟩ := ob4_some hf
            refine mcV_i (wr := [(qb4, .inl (cI, 301, .inl b_nu)), (qx0, .inr (9, [.int x_cl, .int x_ln_70, .int x_pt, .ref qx1, .ref qx2, .ref qx3, .ref qx4])), (qx1, .inl (cI, 301, .inl x_code_70))]) (As := [.int (29 : Int32)]) (rest := []) hx hb hml hown hts hK hP hD hS hA (k_X5_expect l N D cI cJ cZ cB cT qb0 qb2 qb3 qe0 qb1 qb4 qx0 b_len b_tok b_ki b_pl e_fault_70 e_place_70 e_at_70 e_law (29 : Int32) r79 e_fault_79 e_place_79 e_at_79 hg79) (kwX5_78 hts rfl rfl ⟨by dsimp only; omega, by dsimp only; omega⟩) [0, 1, 2, 6] [3, 4, 5] rfl rfl rfl (by decide) rfl 3 rfl rfl rfl rfl hl.1 rfl (Nat.le_of_ble_eq_true rfl) dX5_choice_79 ⟨Nat.zero_le _, Nat.zero_le _⟩ (fun hB79 H locs hP hD hS => ?_)
            have hP := mP_sub (wc := (W_RD_0_2t6_10 qb0 qb2 qb3 qb4 qx0 qx1 qe0 qb1 qx2 qx3 qx4 cI cJ cZ cB cT b_len b_tok b_ki b_pl b_nu x_cl x_ln_70 x_pt x_code_70 e_fault_79 e_place_79 e_at_79 e_law)) hP [3, 4, 5, 0, 1, 2, 6] rfl
            have hD := hD.sub (ws' := (W_RD_0_2t6_10 qb0 qb2 qb3 qb4 qx0 qx1 qe0 qb1 qx2 qx3 qx4 cI cJ cZ cB cT b_len b_tok b_ki b_pl b_nu x_cl x_ln_70 x_pt x_code_70 e_fault_79 e_place_79 e_at_79 e_law)) [3, 4, 5, 0, 1, 2, 6] rfl rfl
            refine xif_ne hx hb 87 dX5_choice_82 (by decide) hf (fun hf => ?_) (fun hf => ?_)
            · refine lv_iconst (v := (0 : Int32)) hx hb dX5_choice_85 (by decide) ?_
              cases hf
              exact mret_z hx hb hr hlocks hP hD hS dX5_choice_86 rfl rfl
            · refine lv_aload_n hx hb dX5_choice_87 rfl (lv_at hl 2 rfl) ?_
              refine gfX5_18 hx hb hts hown hK hP 6 rfl rfl dX5_choice_88 ?_
              refine lv_iload_n hx hb dX5_choice_91 rfl (lv_at hl 0 rfl) ?_
              refine lv_bipush (v := (28 : Int32)) hx hb dX5_choice_92 (by decide) ?_
              obtain ⟨x_code_94, hg94, hf⟩ := ob1_some hf
              refine mcV_v (wr := [(qb0, .inr (8, [.int b_len, .int b_tok, .ref qb1, .ref qb2, .ref qb3, .ref qb4])), (qb2, .inl (cI, 301, .inl b_ki)), (qb3, .inl (cI, 301, .inl b_pl)), (qb4, .inl (cI, 301, .inl b_nu)), (qe0, .inr (5, [.int e_fault_79, .int e_place_79, .ref qb0, .ref qx0, .int e_at_79, .int e_law]))]) (As := [.int r54, .int (28 : Int32)]) (rest := []) hx hb hml hown hts hK hP hD hS hA (k_X9_leapsHere l N D cI cJ cZ cB cT qx0 qx1 qx2 qx3 qx4 x_cl x_ln_70 x_pt x_code_70 r54 (28 : Int32) x_code_94 hg94) (kwX5_122 hts rfl rfl ⟨by dsimp only; omega, by dsimp only; omega⟩) [4, 5] [0, 1, 2, 3, 6] rfl rfl rfl (by decide) rfl 0 rfl rfl rfl rfl hl.1 rfl (Nat.le_of_ble_eq_true rfl) dX5_choice_94 ⟨Nat.zero_le _, Nat.zero_le _⟩ (fun H locs hP hD hS => ?_)
              have hP := mP_sub (wc := (W_RD_0_2t6_10 qb0 qb2 qb3 qb4 qx0 qx1 qe0 qb1 qx2 qx3 qx4 cI cJ cZ cB cT b_len b_tok b_ki b_pl b_nu x_cl x_ln_70 x_pt x_code_94 e_fault_79 e_place_79 e_at_79 e_law)) hP [0, 1, 2, 3, 5, 6, 4] rfl
              have hD := hD.sub (ws' := (W_RD_0_2t6_10 qb0 qb2 qb3 qb4 qx0 qx1 qe0 qb1 qx2 qx3 qx4 cI cJ cZ cB cT b_len b_tok b_ki b_pl b_nu x_cl x_ln_70 x_pt x_code_94 e_fault_79 e_place_79 e_at_79 e_law)) [0, 1, 2, 3, 5, 6, 4] rfl rfl
              refine lv_iconst (v := (1 : Int32)) hx hb dX5_choice_97 (by decide) ?_
              cases hf
              exact mret_z hx hb hr hlocks hP hD hS dX5_choice_98 rfl rfl
set_option maxHeartbeats 4000000 in
set_option maxRecDepth 100000 in
theorem k_X5_eitherB (l : Launch) (N : Nat) (D : va_G) (cI cJ cZ cB cT : ClassId) (qb0 : Nat) (qb2 : Nat) (qb3 : Nat) (qb4 : Nat) (qx0 : Nat) (qx1 : Nat) (qe0 : Nat) (qb1 : Nat) (qx2 : Nat) (qx3 : Nat) (qx4 : Nat) (d : Nat) (hg_0 : RG_ok l N D cI cJ cZ cB cT qb0 qb2 qb3 qb4 qx0 qx1 qe0 qb1 qx2 qx3 qx4 d 0 yX5_sum cX5_sum 4) (hg_1 : RG_ok l N D cI cJ cZ cB cT qb0 qb2 qb3 qb4 qx0 qx1 qe0 qb1 qx2 qx3 qx4 d 1 yX5_product cX5_product 4) (hg_2 : RG_ok l N D cI cJ cZ cB cT qb0 qb2 qb3 qb4 qx0 qx1 qe0 qb1 qx2 qx3 qx4 d 2 yX5_one cX5_one 4) (hg_3 : RG_ok l N D cI cJ cZ cB cT qb0 qb2 qb3 qb4 qx0 qx1 qe0 qb1 qx2 qx3 qx4 d 3 yX5_choice cX5_choice 4) (hg_4 : RG_ok l N D cI cJ cZ cB cT qb0 qb2 qb3 qb4 qx0 qx1 qe0 qb1 qx2 qx3 qx4 d 4 yX5_either cX5_either 3) (hg_5 : RG_ok l N D cI cJ cZ cB cT qb0 qb2 qb3 qb4 qx0 qx1 qe0 qb1 qx2 qx3 qx4 d 5 yX5_both cX5_both 3) (hg_6 : RG_ok l N D cI cJ cZ cB cT qb0 qb2 qb3 qb4 qx0 qx1 qe0 qb1 qx2 qx3 qx4 d 6 yX5_ask cX5_ask 3) (b_len : Int32) (b_tok : Int32) (b_ki : Nat → Int32) (b_pl : Nat → Int32) (b_nu : Nat → Int32) (x_cl : Int32) (x_ln : Int32) (x_pt : Int32) (x_code : Nat → Int32) (e_fault : Int32) (e_place : Int32) (e_at : Int32) (e_law : Int32) (p1 : Int32) (o_r : Int32) (o_x_ln : Int32) (o_x_code : Nat → Int32) (o_e_fault : Int32) (o_e_place : Int32) (o_e_at : Int32) (hf : f_X5_eitherB N (f_RG N d) b_len b_tok b_ki b_pl b_nu x_ln x_code e_fault e_place e_at e_law p1 = some (o_r, o_x_ln, o_x_code, o_e_fault, o_e_place, o_e_at)) : ∀ sz, Met l yX5_either (mw yX5_either cX5_either 3 (some .boolean)) ({ frames := 6 + (d + 1), cells := 0, slots := 0, locals := 160 + 40 * (d + 1) } : Room) (mPreE D (mT cI cJ cZ cB cT) (W_RD_0_2t6_10 qb0 qb2 qb3 qb4 qx0 qx1 qe0 qb1 qx2 qx3 qx4 cI cJ cZ cB cT b_len b_tok b_ki b_pl b_nu x_cl x_ln x_pt x_code e_fault e_place e_at e_law) sz [.ref qe0, .int p1]) ((mQi D (W_RD_0_2t6_10 qb0 qb2 qb3 qb4 qx0 qx1 qe0 qb1 qx2 qx3 qx4 cI cJ cZ cB cT b_len b_tok b_ki b_pl b_nu x_cl o_x_ln x_pt o_x_code o_e_fault o_e_place o_e_at e_law) o_r (mB o_r)) (va_A (W_RD_0_2t6_10 qb0 qb2 qb3 qb4 qx0 qx1 qe0 qb1 qx2 qx3 qx4 cI cJ cZ cB cT b_len b_tok b_ki b_pl b_nu x_cl x_ln x_pt x_code e_fault e_place e_at e_law) sz)) 0 0 (va_A (W_RD_0_2t6_10 qb0 qb2 qb3 qb4 qx0 qx1 qe0 qb1 qx2 qx3 qx4 cI cJ cZ cB cT b_len b_tok b_ki b_pl b_nu x_cl x_ln x_pt x_code e_fault e_place e_at e_law) sz) := by
  refine mMetE (Qc := (mQi D (W_RD_0_2t6_10 qb0 qb2 qb3 qb4 qx0 qx1 qe0 qb1 qx2 qx3 qx4 cI cJ cZ cB cT b_len b_tok b_ki b_pl b_nu x_cl o_x_ln x_pt o_x_code o_e_fault o_e_place o_e_at e_law) o_r (mB o_r))) (by decide) (Nat.le_of_ble_eq_true rfl) (fun p e s m below meth c A ls hx hb hr hml hts hown hlocks hK hA hP hD hl hE => ?_)
  have hown : s.vm.findClass RX5 = some m.cls := hown
  have hl : lv_has ls 3 [(0, .ref qe0), (1, .int p1)] := hl
  have hS : va_S A s.heap s.heap [] := va_S.rf
  obtain ⟨⟨tM, hZM, hTM⟩, ⟨tL, hZL, hTL⟩, ⟨hNX4, hNX10⟩, tS, tV, hRS, hZC, hZF, hKS⟩ := id hE
  have b12 : ∀ n12 : Nat, ∀ (x_ln : Int32) (x_code : Nat → Int32) (e_fault : Int32) (e_place : Int32) (e_at : Int32) (x1 : Int32) (x2 : Int32) (H : Heap) (locs : List Loc) (ls : Array Slot), f_X5_eitherB_12 N (f_RG N d) n12 b_len b_tok b_ki b_pl b_nu x_ln x_code e_fault e_place e_at e_law x1 x2 = some (o_r, o_x_ln, o_x_code, o_e_fault, o_e_place, o_e_at) → va_P D vwCl (W_RD_0_2t6_10 qb0 qb2 qb3 qb4 qx0 qx1 qe0 qb1 qx2 qx3 qx4 cI cJ cZ cB cT b_len b_tok b_ki b_pl b_nu x_cl x_ln x_pt x_code e_fault e_place e_at e_law) H → va_D A (W_RD_0_2t6_10 qb0 qb2 qb3 qb4 qx0 qx1 qe0 qb1 qx2 qx3 qx4 cI cJ cZ cB cT b_len b_tok b_ki b_pl b_nu x_cl x_ln x_pt x_code e_fault e_place e_at e_law) → va_S A s.heap H locs → lv_has ls 3 [(0, .ref qe0), (1, .int x1), (2, .int x2)] → W p l e ({ frames := 6 + (d + 1), cells := 0, slots := 0, locals := 160 + 40 * (d + 1) } : Room) s m ([.ref qe0, .int p1] : List Value).toArray below meth c H locs 0 0 (MQ below ((mQi D (W_RD_0_2t6_10 qb0 qb2 qb3 qb4 qx0 qx1 qe0 qb1 qx2 qx3 qx4 cI cJ cZ cB cT b_len b_tok b_ki b_pl b_nu x_cl o_x_ln x_pt o_x_code o_e_fault o_e_place o_e_at e_law) o_r (mB o_r)) A) ([.ref qe0, .int p1] : List Value).toArray s 0 0 A) (F0 m 12 ls []) := by
    intro n12
    induction n12 with
    | zero =>
      intro x_ln x_code e_fault e_place e_at x1 x2 H locs ls hf hP hD hS hl
      simp [f_X5_eitherB_12] at hf
    | succ n12 ih12 =>
      intro x_ln x_code e_fault e_place e_at x1 x2 H locs ls hf hP hD hS hl
      rw [f_X5_eitherB_12.eq_2] at hf
      refine lv_iload_n hx hb dX5_either_12 rfl (lv_at hl 2 rfl) ?_
      refine lv_sipush (v := (300 : Int32)) hx hb dX5_either_13 (by decide) ?_
      refine xicmp_ge hx hb 58 dX5_either_16 (by decide) hf (fun hf => ?_) (fun hf => ?_)
      · refine lv_iconst (v := (1 : Int32)) hx hb dX5_either_58 (by decide) ?_
        cases hf
        exact mret_z hx hb hr hlocks hP hD hS dX5_either_59 rfl rfl
      · refine lv_aload_n hx hb dX5_either_19 rfl (lv_at hl 0 rfl) ?_
        obtain ⟨r20, hg20, hf⟩ := ob1_some hf
        refine mcV_i (wr := [(qb3, .inl (cI, 301, .inl b_pl)), (qb4, .inl (cI, 301, .inl b_nu)), (qx0, .inr (9, [.int x_cl, .int x_ln, .int x_pt, .ref qx1, .ref qx2, .ref qx3, .ref qx4])), (qx1, .inl (cI, 301, .inl x_code))]) (As := []) (rest := []) hx hb hml hown hts hK hP hD hS hA (k_X5_token l N D cI cJ cZ cB cT qb0 qb2 qe0 qb1 qb3 qb4 qx0 b_len b_tok b_ki e_fault e_place e_at e_law r20 hg20) (kwX5_42 hts rfl rfl ⟨by dsimp only; omega, by dsimp only; omega⟩) [0, 1, 6] [2, 3, 4, 5] rfl rfl rfl (by decide) rfl 2 rfl rfl rfl rfl hl.1 rfl (Nat.le_of_ble_eq_true rfl) dX5_either_20 ⟨Nat.zero_le _, Nat.zero_le _⟩ (fun hB20 H locs hP hD hS => ?_)
        have hP := mP_sub (wc := (W_RD_0_2t6_10 qb0 qb2 qb3 qb4 qx0 qx1 qe0 qb1 qx2 qx3 qx4 cI cJ cZ cB cT b_len b_tok b_ki b_pl b_nu x_cl x_ln x_pt x_code e_fault e_place e_at e_law)) hP [4, 5, 0, 1, 2, 3, 6] rfl
        have hD := hD.sub (ws' := (W_RD_0_2t6_10 qb0 qb2 qb3 qb4 qx0 qx1 qe0 qb1 qx2 qx3 qx4 cI cJ cZ cB cT b_len b_tok b_ki b_pl b_nu x_cl x_ln x_pt x_code e_fault e_place e_at e_law)) [4, 5, 0, 1, 2, 3, 6] rfl rfl
        refine lv_bipush (v := (32 : Int32)) hx hb dX5_either_23 (by decide) ?_
        refine xicmp_ne hx hb 58 dX5_either_25 (by decide) hf (fun hf => ?_) (fun hf => ?_)
        · refine lv_aload_n hx hb dX5_either_28 rfl (lv_at hl 0 rfl) ?_
          obtain ⟨e_at_29, hg29, hf⟩ := ob1_some hf
          refine mcV_v (wr := [(qb2, .inl (cI, 301, .inl b_ki)), (qb3, .inl (cI, 301, .inl b_pl)), (qb4, .inl (cI, 301, .inl b_nu)), (qx0, .inr (9, [.int x_cl, .int x_ln, .int x_pt, .ref qx1, .ref qx2, .ref qx3, .ref qx4])), (qx1, .inl (cI, 301, .inl x_code))]) (As := []) (rest := []) hx hb hml hown hts hK hP hD hS hA (k_X5_next l N D cI cJ cZ cB cT qb0 qe0 qb1 qb2 qb3 qb4 qx0 b_len b_tok e_fault e_place e_at e_law e_at_29 hg29) (kwX5_62 hts rfl rfl ⟨by dsimp only; omega, by dsimp only; omega⟩) [0, 6] [1, 2, 3, 4, 5] rfl rfl rfl (by decide) rfl 1 rfl rfl rfl rfl hl.1 rfl (Nat.le_of_ble_eq_true rfl) dX5_either_29 ⟨Nat.zero_le _, Nat.zero_le _⟩ (fun H locs hP hD hS => ?_)
          have hP := mP_sub (wc := (W_RD_0_2t6_10 qb0 qb2 qb3 qb4 qx0 qx1 qe0 qb1 qx2 qx3 qx4 cI cJ cZ cB cT b_len b_tok b_ki b_pl b_nu x_cl x_ln x_pt x_code e_fault e_place e_at_29 e_law)) hP [5, 0, 1, 2, 3, 4, 6] rfl
          have hD := hD.sub (ws' := (W_RD_0_2t6_10 qb0 qb2 qb3 qb4 qx0 qx1 qe0 qb1 qx2 qx3 qx4 cI cJ cZ cB cT b_len b_tok b_ki b_pl b_nu x_cl x_ln x_pt x_code e_fault e_place e_at_29 e_law)) [5, 0, 1, 2, 3, 4, 6] rfl rfl
          refine lv_aload_n hx hb dX5_either_32 rfl (lv_at hl 0 rfl) ?_
          refine lv_iload_n hx hb dX5_either_33 rfl (lv_at hl 1 rfl) ?_
          obtain ⟨r34, x_ln_34, x_code_34, e_fault_34, e_place_34, e_at_34, hg34, hf⟩ := ob6_some hf
          refine mcV1E_i (As := [.int x1]) (rest := []) hx hb hml hown hts hK hP hD hS hA hE (hg_5 b_len b_tok b_ki b_pl b_nu x_cl x_ln x_pt x_code e_fault e_place e_at_29 e_law x1 r34 x_ln_34 x_code_34 e_fault_34 e_place_34 e_at_34 hg34) (kwX5_125 hts rfl rfl ⟨by dsimp only; omega, by dsimp only; omega⟩) 6 rfl rfl rfl rfl hl.1 rfl (Nat.le_of_ble_eq_true rfl) dX5_either_34 ⟨Nat.zero_le _, Nat.zero_le _⟩ (fun hB34 H locs hP hD hS => ?_)
          have hP : va_P D vwCl (W_RD_0_2t6_10 qb0 qb2 qb3 qb4 qx0 qx1 qe0 qb1 qx2 qx3 qx4 cI cJ cZ cB cT b_len b_tok b_ki b_pl b_nu x_cl x_ln_34 x_pt x_code_34 e_fault_34 e_place_34 e_at_34 e_law) H := hP
          have hD : va_D A (W_RD_0_2t6_10 qb0 qb2 qb3 qb4 qx0 qx1 qe0 qb1 qx2 qx3 qx4 cI cJ cZ cB cT b_len b_tok b_ki b_pl b_nu x_cl x_ln_34 x_pt x_code_34 e_fault_34 e_place_34 e_at_34 e_law) := hD
          refine xif_ne hx hb 42 dX5_either_37 (by decide) hf (fun hf => ?_) (fun hf => ?_)
          · refine lv_iconst (v := (0 : Int32)) hx hb dX5_either_40 (by decide) ?_
            cases hf
            exact mret_z hx hb hr hlocks hP hD hS dX5_either_41 rfl rfl
          · refine lv_aload_n hx hb dX5_either_42 rfl (lv_at hl 0 rfl) ?_
            refine gfX5_18 hx hb hts hown hK hP 6 rfl rfl dX5_either_43 ?_
            refine lv_bipush (v := (32 : Int32)) hx hb dX5_either_46 (by decide) ?_
            refine lv_iconst (v := (0 : Int32)) hx hb dX5_either_48 (by decide) ?_
            obtain ⟨x_ln_49, x_code_49, hg49, hf⟩ := ob2_some hf
            refine mcV_v (wr := [(qb0, .inr (8, [.int b_len, .int b_tok, .ref qb1, .ref qb2, .ref qb3, .ref qb4])), (qb2, .inl (cI, 301, .inl b_ki)), (qb3, .inl (cI, 301, .inl b_pl)), (qb4, .inl (cI, 301, .inl b_nu)), (qe0, .inr (5, [.int e_fault_34, .int e_place_34, .ref qb0, .ref qx0, .int e_at_34, .int e_law]))]) (As := [.int (32 : Int32), .int (0 : Int32)]) (rest := []) hx hb hml hown hts hK hP hD hS hA (k_X9_put l N D cI cJ cZ cB cT qx0 qx1 qx2 qx3 qx4 x_cl x_ln_34 x_pt x_code_34 (32 : Int32) (0 : Int32) x_ln_49 x_code_49 hg49) (kwX5_99 hts rfl rfl ⟨by dsimp only; omega, by dsimp only; omega⟩) [4, 5] [0, 1, 2, 3, 6] rfl rfl rfl (by decide) rfl 0 rfl rfl rfl rfl hl.1 rfl (Nat.le_of_ble_eq_true rfl) dX5_either_49 ⟨Nat.zero_le _, Nat.zero_le _⟩ (fun H locs hP hD hS => ?_)
            have hP := mP_sub (wc := (W_RD_0_2t6_10 qb0 qb2 qb3 qb4 qx0 qx1 qe0 qb1 qx2 qx3 qx4 cI cJ cZ cB cT b_len b_tok b_ki b_pl b_nu x_cl x_ln_49 x_pt x_code_49 e_fault_34 e_place_34 e_at_34 e_law)) hP [0, 1, 2, 3, 5, 6, 4] rfl
            have hD := hD.sub (ws' := (W_RD_0_2t6_10 qb0 qb2 qb3 qb4 qx0 qx1 qe0 qb1 qx2 qx3 qx4 cI cJ cZ cB cT b_len b_tok b_ki b_pl b_nu x_cl x_ln_49 x_pt x_code_49 e_fault_34 e_place_34 e_at_34 e_law)) [0, 1, 2, 3, 5, 6, 4] rfl rfl
            refine lv_iinc (v := (x2 + (1 : Int32))) (lv' := [(2, .int (x2 + (1 : Int32))), (0, .ref qe0), (1, .int x1)]) hx hb dX5_either_52 hl (k := 2) rfl rfl (by decide) rfl (fun ls hl => ?_)
            refine lv_goto (tgt := 12) hx hb dX5_either_55 (by decide) ?_
            exact ih12 x_ln_49 x_code_49 e_fault_34 e_place_34 e_at_34 x1 (x2 + (1 : Int32)) _ _ _ hf hP hD hS (lv_sub hl [1, 2, 0] rfl)
        · refine lv_iconst (v := (1 : Int32)) hx hb dX5_either_58 (by decide) ?_
          cases hf
          exact mret_z hx hb hr hlocks hP hD hS dX5_either_59 rfl rfl
  unfold f_X5_eitherB at hf
  refine lv_aload_n hx hb dX5_either_0 rfl (lv_at hl 0 rfl) ?_
  refine lv_iload_n hx hb dX5_either_1 rfl (lv_at hl 1 rfl) ?_
  obtain ⟨r2, x_ln_2, x_code_2, e_fault_2, e_place_2, e_at_2, hg2, hf⟩ := ob6_some hf
  refine mcV1E_i (As := [.int p1]) (rest := []) hx hb hml hown hts hK hP hD hS hA hE (hg_5 b_len b_tok b_ki b_pl b_nu x_cl x_ln x_pt x_code e_fault e_place e_at e_law p1 r2 x_ln_2 x_code_2 e_fault_2 e_place_2 e_at_2 hg2) (kwX5_125 hts rfl rfl ⟨by dsimp only; omega, by dsimp only; omega⟩) 6 rfl rfl rfl rfl hl.1 rfl (Nat.le_of_ble_eq_true rfl) dX5_either_2 ⟨Nat.zero_le _, Nat.zero_le _⟩ (fun hB2 H locs hP hD hS => ?_)
  have hP : va_P D vwCl (W_RD_0_2t6_10 qb0 qb2 qb3 qb4 qx0 qx1 qe0 qb1 qx2 qx3 qx4 cI cJ cZ cB cT b_len b_tok b_ki b_pl b_nu x_cl x_ln_2 x_pt x_code_2 e_fault_2 e_place_2 e_at_2 e_law) H := hP
  have hD : va_D A (W_RD_0_2t6_10 qb0 qb2 qb3 qb4 qx0 qx1 qe0 qb1 qx2 qx3 qx4 cI cJ cZ cB cT b_len b_tok b_ki b_pl b_nu x_cl x_ln_2 x_pt x_code_2 e_fault_2 e_place_2 e_at_2 e_law) := hD
  refine xif_ne hx hb 10 dX5_either_5 (by decide) hf (fun hf => ?_) (fun hf => ?_)
  · refine lv_iconst (v := (0 : Int32)) hx hb dX5_either_8 (by decide) ?_
    cases hf
    exact mret_z hx hb hr hlocks hP hD hS dX5_either_9 rfl rfl
  · refine lv_iconst (v := (0 : Int32)) hx hb dX5_either_10 (by decide) ?_
    refine lv_istore_n (lv' := [(2, .int (0 : Int32)), (0, .ref qe0), (1, .int p1)]) hx hb dX5_either_11 rfl hl (by decide) rfl (fun ls hl => ?_)
    exact b12 N x_ln_2 x_code_2 e_fault_2 e_place_2 e_at_2 p1 (0 : Int32) _ _ _ hf hP hD hS (lv_sub hl [1, 2, 0] rfl)
set_option maxHeartbeats 4000000 in
set_option maxRecDepth 100000 in
theorem k_X5_bothB (l : Launch) (N : Nat) (D : va_G) (cI cJ cZ cB cT : ClassId) (qb0 : Nat) (qb2 : Nat) (qb3 : Nat) (qb4 : Nat) (qx0 : Nat) (qx1 : Nat) (qe0 : Nat) (qb1 : Nat) (qx2 : Nat) (qx3 : Nat) (qx4 : Nat) (d : Nat) (hg_0 : RG_ok l N D cI cJ cZ cB cT qb0 qb2 qb3 qb4 qx0 qx1 qe0 qb1 qx2 qx3 qx4 d 0 yX5_sum cX5_sum 4) (hg_1 : RG_ok l N D cI cJ cZ cB cT qb0 qb2 qb3 qb4 qx0 qx1 qe0 qb1 qx2 qx3 qx4 d 1 yX5_product cX5_product 4) (hg_2 : RG_ok l N D cI cJ cZ cB cT qb0 qb2 qb3 qb4 qx0 qx1 qe0 qb1 qx2 qx3 qx4 d 2 yX5_one cX5_one 4) (hg_3 : RG_ok l N D cI cJ cZ cB cT qb0 qb2 qb3 qb4 qx0 qx1 qe0 qb1 qx2 qx3 qx4 d 3 yX5_choice cX5_choice 4) (hg_4 : RG_ok l N D cI cJ cZ cB cT qb0 qb2 qb3 qb4 qx0 qx1 qe0 qb1 qx2 qx3 qx4 d 4 yX5_either cX5_either 3) (hg_5 : RG_ok l N D cI cJ cZ cB cT qb0 qb2 qb3 qb4 qx0 qx1 qe0 qb1 qx2 qx3 qx4 d 5 yX5_both cX5_both 3) (hg_6 : RG_ok l N D cI cJ cZ cB cT qb0 qb2 qb3 qb4 qx0 qx1 qe0 qb1 qx2 qx3 qx4 d 6 yX5_ask cX5_ask 3) (b_len : Int32) (b_tok : Int32) (b_ki : Nat → Int32) (b_pl : Nat → Int32) (b_nu : Nat → Int32) (x_cl : Int32) (x_ln : Int32) (x_pt : Int32) (x_code : Nat → Int32) (e_fault : Int32) (e_place : Int32) (e_at : Int32) (e_law : Int32) (p1 : Int32) (o_r : Int32) (o_x_ln : Int32) (o_x_code : Nat → Int32) (o_e_fault : Int32) (o_e_place : Int32) (o_e_at : Int32) (hf : f_X5_bothB N (f_RG N d) b_len b_tok b_ki b_pl b_nu x_ln x_code e_fault e_place e_at e_law p1 = some (o_r, o_x_ln, o_x_code, o_e_fault, o_e_place, o_e_at)) : ∀ sz, Met l yX5_both (mw yX5_both cX5_both 3 (some .boolean)) ({ frames := 6 + (d + 1), cells := 0, slots := 0, locals := 160 + 40 * (d + 1) } : Room) (mPreE D (mT cI cJ cZ cB cT) (W_RD_0_2t6_10 qb0 qb2 qb3 qb4 qx0 qx1 qe0 qb1 qx2 qx3 qx4 cI cJ cZ cB cT b_len b_tok b_ki b_pl b_nu x_cl x_ln x_pt x_code e_fault e_place e_at e_law) sz [.ref qe0, .int p1]) ((mQi D (W_RD_0_2t6_10 qb0 qb2 qb3 qb4 qx0 qx1 qe0 qb1 qx2 qx3 qx4 cI cJ cZ cB cT b_len b_tok b_ki b_pl b_nu x_cl o_x_ln x_pt o_x_code o_e_fault o_e_place o_e_at e_law) o_r (mB o_r)) (va_A (W_RD_0_2t6_10 qb0 qb2 qb3 qb4 qx0 qx1 qe0 qb1 qx2 qx3 qx4 cI cJ cZ cB cT b_len b_tok b_ki b_pl b_nu x_cl x_ln x_pt x_code e_fault e_place e_at e_law) sz)) 0 0 (va_A (W_RD_0_2t6_10 qb0 qb2 qb3 qb4 qx0 qx1 qe0 qb1 qx2 qx3 qx4 cI cJ cZ cB cT b_len b_tok b_ki b_pl b_nu x_cl x_ln x_pt x_code e_fault e_place e_at e_law) sz) := by
  refine mMetE (Qc := (mQi D (W_RD_0_2t6_10 qb0 qb2 qb3 qb4 qx0 qx1 qe0 qb1 qx2 qx3 qx4 cI cJ cZ cB cT b_len b_tok b_ki b_pl b_nu x_cl o_x_ln x_pt o_x_code o_e_fault o_e_place o_e_at e_law) o_r (mB o_r))) (by decide) (Nat.le_of_ble_eq_true rfl) (fun p e s m below meth c A ls hx hb hr hml hts hown hlocks hK hA hP hD hl hE => ?_)
  have hown : s.vm.findClass RX5 = some m.cls := hown
  have hl : lv_has ls 3 [(0, .ref qe0), (1, .int p1)] := hl
  have hS : va_S A s.heap s.heap [] := va_S.rf
  obtain ⟨⟨tM, hZM, hTM⟩, ⟨tL, hZL, hTL⟩, ⟨hNX4, hNX10⟩, tS, tV, hRS, hZC, hZF, hKS⟩ := id hE
  have b12 : ∀ n12 : Nat, ∀ (x_ln : Int32) (x_code : Nat → Int32) (e_fault : Int32) (e_place : Int32) (e_at : Int32) (x1 : Int32) (x2 : Int32) (H : Heap) (locs : List Loc) (ls : Array Slot), f_X5_bothB_12 N (f_RG N d) n12 b_len b_tok b_ki b_pl b_nu x_ln x_code e_fault e_place e_at e_law x1 x2 = some (o_r, o_x_ln, o_x_code, o_e_fault, o_e_place, o_e_at) → va_P D vwCl (W_RD_0_2t6_10 qb0 qb2 qb3 qb4 qx0 qx1 qe0 qb1 qx2 qx3 qx4 cI cJ cZ cB cT b_len b_tok b_ki b_pl b_nu x_cl x_ln x_pt x_code e_fault e_place e_at e_law) H → va_D A (W_RD_0_2t6_10 qb0 qb2 qb3 qb4 qx0 qx1 qe0 qb1 qx2 qx3 qx4 cI cJ cZ cB cT b_len b_tok b_ki b_pl b_nu x_cl x_ln x_pt x_code e_fault e_place e_at e_law) → va_S A s.heap H locs → lv_has ls 3 [(0, .ref qe0), (1, .int x1), (2, .int x2)] → W p l e ({ frames := 6 + (d + 1), cells := 0, slots := 0, locals := 160 + 40 * (d + 1) } : Room) s m ([.ref qe0, .int p1] : List Value).toArray below meth c H locs 0 0 (MQ below ((mQi D (W_RD_0_2t6_10 qb0 qb2 qb3 qb4 qx0 qx1 qe0 qb1 qx2 qx3 qx4 cI cJ cZ cB cT b_len b_tok b_ki b_pl b_nu x_cl o_x_ln x_pt o_x_code o_e_fault o_e_place o_e_at e_law) o_r (mB o_r)) A) ([.ref qe0, .int p1] : List Value).toArray s 0 0 A) (F0 m 12 ls []) := by
    intro n12
    induction n12 with
    | zero =>
      intro x_ln x_code e_fault e_place e_at x1 x2 H locs ls hf hP hD hS hl
      simp [f_X5_bothB_12] at hf
    | succ n12 ih12 =>
      intro x_ln x_code e_fault e_place e_at x1 x2 H locs ls hf hP hD hS hl
      rw [f_X5_bothB_12.eq_2] at hf
      refine lv_iload_n hx hb dX5_both_12 rfl (lv_at hl 2 rfl) ?_
      refine lv_sipush (v := (300 : Int32)) hx hb dX5_both_13 (by decide) ?_
      refine xicmp_ge hx hb 58 dX5_both_16 (by decide) hf (fun hf => ?_) (fun hf => ?_)
      · refine lv_iconst (v := (1 : Int32)) hx hb dX5_both_58 (by decide) ?_
        cases hf
        exact mret_z hx hb hr hlocks hP hD hS dX5_both_59 rfl rfl
      · refine lv_aload_n hx hb dX5_both_19 rfl (lv_at hl 0 rfl) ?_
        obtain ⟨r20, hg20, hf⟩ := ob1_some hf
        refine mcV_i (wr := [(qb3, .inl (cI, 301, .inl b_pl)), (qb4, .inl (cI, 301, .inl b_nu)), (qx0, .inr (9, [.int x_cl, .int x_ln, .int x_pt, .ref qx1, .ref qx2, .ref qx3, .ref qx4])), (qx1, .inl (cI, 301, .inl x_code))]) (As := []) (rest := []) hx hb hml hown hts hK hP hD hS hA (k_X5_token l N D cI cJ cZ cB cT qb0 qb2 qe0 qb1 qb3 qb4 qx0 b_len b_tok b_ki e_fault e_place e_at e_law r20 hg20) (kwX5_42 hts rfl rfl ⟨by dsimp only; omega, by dsimp only; omega⟩) [0, 1, 6] [2, 3, 4, 5] rfl rfl rfl (by decide) rfl 2 rfl rfl rfl rfl hl.1 rfl (Nat.le_of_ble_eq_true rfl) dX5_both_20 ⟨Nat.zero_le _, Nat.zero_le _⟩ (fun hB20 H locs hP hD hS => ?_)
        have hP := mP_sub (wc := (W_RD_0_2t6_10 qb0 qb2 qb3 qb4 qx0 qx1 qe0 qb1 qx2 qx3 qx4 cI cJ cZ cB cT b_len b_tok b_ki b_pl b_nu x_cl x_ln x_pt x_code e_fault e_place e_at e_law)) hP [4, 5, 0, 1, 2, 3, 6] rfl
        have hD := hD.sub (ws' := (W_RD_0_2t6_10 qb0 qb2 qb3 qb4 qx0 qx1 qe0 qb1 qx2 qx3 qx4 cI cJ cZ cB cT b_len b_tok b_ki b_pl b_nu x_cl x_ln x_pt x_code e_fault e_place e_at e_law)) [4, 5, 0, 1, 2, 3, 6] rfl rfl
        refine lv_bipush (v := (31 : Int32)) hx hb dX5_both_23 (by decide) ?_
        refine xicmp_ne hx hb 58 dX5_both_25 (by decide) hf (fun hf => ?_) (fun hf => ?_)
        · refine lv_aload_n hx hb dX5_both_28 rfl (lv_at hl 0 rfl) ?_
          obtain ⟨e_at_29, hg29, hf⟩ := ob1_some hf
          refine mcV_v (wr := [(qb2, .inl (cI, 301, .inl b_ki)), (qb3, .inl (cI, 301, .inl b_pl)), (qb4, .inl (cI, 301, .inl b_nu)), (qx0, .inr (9, [.int x_cl, .int x_ln, .int x_pt, .ref qx1, .ref qx2, .ref qx3, .ref qx4])), (qx1, .inl (cI, 301, .inl x_code))]) (As := []) (rest := []) hx hb hml hown hts hK hP hD hS hA (k_X5_next l N D cI cJ cZ cB cT qb0 qe0 qb1 qb2 qb3 qb4 qx0 b_len b_tok e_fault e_place e_at e_law e_at_29 hg29) (kwX5_62 hts rfl rfl ⟨by dsimp only; omega, by dsimp only; omega⟩) [0, 6] [1, 2, 3, 4, 5] rfl rfl rfl (by decide) rfl 1 rfl rfl rfl rfl hl.1 rfl (Nat.le_of_ble_eq_true rfl) dX5_both_29 ⟨Nat.zero_le _, Nat.zero_le _⟩ (fun H locs hP hD hS => ?_)
          have hP := mP_sub (wc := (W_RD_0_2t6_10 qb0 qb2 qb3 qb4 qx0 qx1 qe0 qb1 qx2 qx3 qx4 cI cJ cZ cB cT b_len b_tok b_ki b_pl b_nu x_cl x_ln x_pt x_code e_fault e_place e_at_29 e_law)) hP [5, 0, 1, 2, 3, 4, 6] rfl
          have hD := hD.sub (ws' := (W_RD_0_2t6_10 qb0 qb2 qb3 qb4 qx0 qx1 qe0 qb1 qx2 qx3 qx4 cI cJ cZ cB cT b_len b_tok b_ki b_pl b_nu x_cl x_ln x_pt x_code e_fault e_place e_at_29 e_law)) [5, 0, 1, 2, 3, 4, 6] rfl rfl
          refine lv_aload_n hx hb dX5_both_32 rfl (lv_at hl 0 rfl) ?_
          refine lv_iload_n hx hb dX5_both_33 rfl (lv_at hl 1 rfl) ?_
          obtain ⟨r34, x_ln_34, x_code_34, e_fault_34, e_place_34, e_at_34, hg34, hf⟩ := ob6_some hf
          refine mcV1E_i (As := [.int x1]) (rest := []) hx hb hml hown hts hK hP hD hS hA hE (hg_6 b_len b_tok b_ki b_pl b_nu x_cl x_ln x_pt x_code e_fault e_place e_at_29 e_law x1 r34 x_ln_34 x_code_34 e_fault_34 e_place_34 e_at_34 hg34) (kwX5_128 hts rfl rfl ⟨by dsimp only; omega, by dsimp only; omega⟩) 6 rfl rfl rfl rfl hl.1 rfl (Nat.le_of_ble_eq_true rfl) dX5_both_34 ⟨Nat.zero_le _, Nat.zero_le _⟩ (fun hB34 H locs hP hD hS => ?_)
          have hP : va_P D vwCl (W_RD_0_2t6_10 qb0 qb2 qb3 qb4 qx0 qx1 qe0 qb1 qx2 qx3 qx4 cI cJ cZ cB cT b_len b_tok b_ki b_pl b_nu x_cl x_ln_34 x_pt x_code_34 e_fault_34 e_place_34 e_at_34 e_law) H := hP
          have hD : va_D A (W_RD_0_2t6_10 qb0 qb2 qb3 qb4 qx0 qx1 qe0 qb1 qx2 qx3 qx4 cI cJ cZ cB cT b_len b_tok b_ki b_pl b_nu x_cl x_ln_34 x_pt x_code_34 e_fault_34 e_place_34 e_at_34 e_law) := hD
          refine xif_ne hx hb 42 dX5_both_37 (by decide) hf (fun hf => ?_) (fun hf => ?_)
          · refine lv_iconst (v := (0 : Int32)) hx hb dX5_both_40 (by decide) ?_
            cases hf
            exact mret_z hx hb hr hlocks hP hD hS dX5_both_41 rfl rfl
          · refine lv_aload_n hx hb dX5_both_42 rfl (lv_at hl 0 rfl) ?_
            refine gfX5_18 hx hb hts hown hK hP 6 rfl rfl dX5_both_43 ?_
            refine lv_bipush (v := (31 : Int32)) hx hb dX5_both_46 (by decide) ?_
            refine lv_iconst (v := (0 : Int32)) hx hb dX5_both_48 (by decide) ?_
            obtain ⟨x_ln_49, x_code_49, hg49, hf⟩ := ob2_some hf
            refine mcV_v (wr := [(qb0, .inr (8, [.int b_len, .int b_tok, .ref qb1, .ref qb2, .ref qb3, .ref qb4])), (qb2, .inl (cI, 301, .inl b_ki)), (qb3, .inl (cI, 301, .inl b_pl)), (qb4, .inl (cI, 301, .inl b_nu)), (qe0, .inr (5, [.int e_fault_34, .int e_place_34, .ref qb0, .ref qx0, .int e_at_34, .int e_law]))]) (As := [.int (31 : Int32), .int (0 : Int32)]) (rest := []) hx hb hml hown hts hK hP hD hS hA (k_X9_put l N D cI cJ cZ cB cT qx0 qx1 qx2 qx3 qx4 x_cl x_ln_34 x_pt x_code_34 (31 : Int32) (0 : Int32) x_ln_49 x_code_49 hg49) (kwX5_99 hts rfl rfl ⟨by dsimp only; omega, by dsimp only; omega⟩) [4, 5] [0, 1, 2, 3, 6] rfl rfl rfl (by decide) rfl 0 rfl rfl rfl rfl hl.1 rfl (Nat.le_of_ble_eq_true rfl) dX5_both_49 ⟨Nat.zero_le _, Nat.zero_le _⟩ (fun H locs hP hD hS => ?_)
            have hP := mP_sub (wc := (W_RD_0_2t6_10 qb0 qb2 qb3 qb4 qx0 qx1 qe0 qb1 qx2 qx3 qx4 cI cJ cZ cB cT b_len b_tok b_ki b_pl b_nu x_cl x_ln_49 x_pt x_code_49 e_fault_34 e_place_34 e_at_34 e_law)) hP [0, 1, 2, 3, 5, 6, 4] rfl
            have hD := hD.sub (ws' := (W_RD_0_2t6_10 qb0 qb2 qb3 qb4 qx0 qx1 qe0 qb1 qx2 qx3 qx4 cI cJ cZ cB cT b_len b_tok b_ki b_pl b_nu x_cl x_ln_49 x_pt x_code_49 e_fault_34 e_place_34 e_at_34 e_law)) [0, 1, 2, 3, 5, 6, 4] rfl rfl
            refine lv_iinc (v := (x2 + (1 : Int32))) (lv' := [(2, .int (x2 + (1 : Int32))), (0, .ref qe0), (1, .int x1)]) hx hb dX5_both_52 hl (k := 2) rfl rfl (by decide) rfl (fun ls hl => ?_)
            refine lv_goto (tgt := 12) hx hb dX5_both_55 (by decide) ?_
            exact ih12 x_ln_49 x_code_49 e_fault_34 e_place_34 e_at_34 x1 (x2 + (1 : Int32)) _ _ _ hf hP hD hS (lv_sub hl [1, 2, 0] rfl)
        · refine lv_iconst (v := (1 : Int32)) hx hb dX5_both_58 (by decide) ?_
          cases hf
          exact mret_z hx hb hr hlocks hP hD hS dX5_both_59 rfl rfl
  unfold f_X5_bothB at hf
  refine lv_aload_n hx hb dX5_both_0 rfl (lv_at hl 0 rfl) ?_
  refine lv_iload_n hx hb dX5_both_1 rfl (lv_at hl 1 rfl) ?_
  obtain ⟨r2, x_ln_2, x_code_2, e_fault_2, e_place_2, e_at_2, hg2, hf⟩ := ob6_some hf
  refine mcV1E_i (As := [.int p1]) (rest := []) hx hb hml hown hts hK hP hD hS hA hE (hg_6 b_len b_tok b_ki b_pl b_nu x_cl x_ln x_pt x_code e_fault e_place e_at e_law p1 r2 x_ln_2 x_code_2 e_fault_2 e_place_2 e_at_2 hg2) (kwX5_128 hts rfl rfl ⟨by dsimp only; omega, by dsimp only; omega⟩) 6 rfl rfl rfl rfl hl.1 rfl (Nat.le_of_ble_eq_true rfl) dX5_both_2 ⟨Nat.zero_le _, Nat.zero_le _⟩ (fun hB2 H locs hP hD hS => ?_)
  have hP : va_P D vwCl (W_RD_0_2t6_10 qb0 qb2 qb3 qb4 qx0 qx1 qe0 qb1 qx2 qx3 qx4 cI cJ cZ cB cT b_len b_tok b_ki b_pl b_nu x_cl x_ln_2 x_pt x_code_2 e_fault_2 e_place_2 e_at_2 e_law) H := hP
  have hD : va_D A (W_RD_0_2t6_10 qb0 qb2 qb3 qb4 qx0 qx1 qe0 qb1 qx2 qx3 qx4 cI cJ cZ cB cT b_len b_tok b_ki b_pl b_nu x_cl x_ln_2 x_pt x_code_2 e_fault_2 e_place_2 e_at_2 e_law) := hD
  refine xif_ne hx hb 10 dX5_both_5 (by decide) hf (fun hf => ?_) (fun hf => ?_)
  · refine lv_iconst (v := (0 : Int32)) hx hb dX5_both_8 (by decide) ?_
    cases hf
    exact mret_z hx hb hr hlocks hP hD hS dX5_both_9 rfl rfl
  · refine lv_iconst (v := (0 : Int32)) hx hb dX5_both_10 (by decide) ?_
    refine lv_istore_n (lv' := [(2, .int (0 : Int32)), (0, .ref qe0), (1, .int p1)]) hx hb dX5_both_11 rfl hl (by decide) rfl (fun ls hl => ?_)
    exact b12 N x_ln_2 x_code_2 e_fault_2 e_place_2 e_at_2 p1 (0 : Int32) _ _ _ hf hP hD hS (lv_sub hl [1, 2, 0] rfl)
set_option maxHeartbeats 4000000 in
set_option maxRecDepth 100000 in
theorem k_X5_askB (l : Launch) (N : Nat) (D : va_G) (cI cJ cZ cB cT : ClassId) (qb0 : Nat) (qb2 : Nat) (qb3 : Nat) (qb4 : Nat) (qx0 : Nat) (qx1 : Nat) (qe0 : Nat) (qb1 : Nat) (qx2 : Nat) (qx3 : Nat) (qx4 : Nat) (d : Nat) (hg_0 : RG_ok l N D cI cJ cZ cB cT qb0 qb2 qb3 qb4 qx0 qx1 qe0 qb1 qx2 qx3 qx4 d 0 yX5_sum cX5_sum 4) (hg_1 : RG_ok l N D cI cJ cZ cB cT qb0 qb2 qb3 qb4 qx0 qx1 qe0 qb1 qx2 qx3 qx4 d 1 yX5_product cX5_product 4) (hg_2 : RG_ok l N D cI cJ cZ cB cT qb0 qb2 qb3 qb4 qx0 qx1 qe0 qb1 qx2 qx3 qx4 d 2 yX5_one cX5_one 4) (hg_3 : RG_ok l N D cI cJ cZ cB cT qb0 qb2 qb3 qb4 qx0 qx1 qe0 qb1 qx2 qx3 qx4 d 3 yX5_choice cX5_choice 4) (hg_4 : RG_ok l N D cI cJ cZ cB cT qb0 qb2 qb3 qb4 qx0 qx1 qe0 qb1 qx2 qx3 qx4 d 4 yX5_either cX5_either 3) (hg_5 : RG_ok l N D cI cJ cZ cB cT qb0 qb2 qb3 qb4 qx0 qx1 qe0 qb1 qx2 qx3 qx4 d 5 yX5_both cX5_both 3) (hg_6 : RG_ok l N D cI cJ cZ cB cT qb0 qb2 qb3 qb4 qx0 qx1 qe0 qb1 qx2 qx3 qx4 d 6 yX5_ask cX5_ask 3) (b_len : Int32) (b_tok : Int32) (b_ki : Nat → Int32) (b_pl : Nat → Int32) (b_nu : Nat → Int32) (x_cl : Int32) (x_ln : Int32) (x_pt : Int32) (x_code : Nat → Int32) (e_fault : Int32) (e_place : Int32) (e_at : Int32) (e_law : Int32) (p1 : Int32) (o_r : Int32) (o_x_ln : Int32) (o_x_code : Nat → Int32) (o_e_fault : Int32) (o_e_place : Int32) (o_e_at : Int32) (hf : f_X5_askB N (f_RG N d) b_len b_tok b_ki b_pl b_nu x_ln x_code e_fault e_place e_at e_law p1 = some (o_r, o_x_ln, o_x_code, o_e_fault, o_e_place, o_e_at)) : ∀ sz, Met l yX5_ask (mw yX5_ask cX5_ask 3 (some .boolean)) ({ frames := 6 + (d + 1), cells := 0, slots := 0, locals := 160 + 40 * (d + 1) } : Room) (mPreE D (mT cI cJ cZ cB cT) (W_RD_0_2t6_10 qb0 qb2 qb3 qb4 qx0 qx1 qe0 qb1 qx2 qx3 qx4 cI cJ cZ cB cT b_len b_tok b_ki b_pl b_nu x_cl x_ln x_pt x_code e_fault e_place e_at e_law) sz [.ref qe0, .int p1]) ((mQi D (W_RD_0_2t6_10 qb0 qb2 qb3 qb4 qx0 qx1 qe0 qb1 qx2 qx3 qx4 cI cJ cZ cB cT b_len b_tok b_ki b_pl b_nu x_cl o_x_ln x_pt o_x_code o_e_fault o_e_place o_e_at e_law) o_r (mB o_r)) (va_A (W_RD_0_2t6_10 qb0 qb2 qb3 qb4 qx0 qx1 qe0 qb1 qx2 qx3 qx4 cI cJ cZ cB cT b_len b_tok b_ki b_pl b_nu x_cl x_ln x_pt x_code e_fault e_place e_at e_law) sz)) 0 0 (va_A (W_RD_0_2t6_10 qb0 qb2 qb3 qb4 qx0 qx1 qe0 qb1 qx2 qx3 qx4 cI cJ cZ cB cT b_len b_tok b_ki b_pl b_nu x_cl x_ln x_pt x_code e_fault e_place e_at e_law) sz) := by
  refine mMetE (Qc := (mQi D (W_RD_0_2t6_10 qb0 qb2 qb3 qb4 qx0 qx1 qe0 qb1 qx2 qx3 qx4 cI cJ cZ cB cT b_len b_tok b_ki b_pl b_nu x_cl o_x_ln x_pt o_x_code o_e_fault o_e_place o_e_at e_law) o_r (mB o_r))) (by decide) (Nat.le_of_ble_eq_true rfl) (fun p e s m below meth c A ls hx hb hr hml hts hown hlocks hK hA hP hD hl hE => ?_)
  have hown : s.vm.findClass RX5 = some m.cls := hown
  have hl : lv_has ls 3 [(0, .ref qe0), (1, .int p1)] := hl
  have hS : va_S A s.heap s.heap [] := va_S.rf
  obtain ⟨⟨tM, hZM, hTM⟩, ⟨tL, hZL, hTL⟩, ⟨hNX4, hNX10⟩, tS, tV, hRS, hZC, hZF, hKS⟩ := id hE
  have b76 : ∀ (x_ln : Int32) (x_code : Nat → Int32) (e_fault : Int32) (e_place : Int32) (e_at : Int32) (H : Heap) (locs : List Loc) (ls : Array Slot), f_X5_askB_76 N (f_RG N d) b_len b_tok b_ki b_pl b_nu x_ln x_code e_fault e_place e_at e_law = some (o_r, o_x_ln, o_x_code, o_e_fault, o_e_place, o_e_at) → va_P D vwCl (W_RD_0_2t6_10 qb0 qb2 qb3 qb4 qx0 qx1 qe0 qb1 qx2 qx3 qx4 cI cJ cZ cB cT b_len b_tok b_ki b_pl b_nu x_cl x_ln x_pt x_code e_fault e_place e_at e_law) H → va_D A (W_RD_0_2t6_10 qb0 qb2 qb3 qb4 qx0 qx1 qe0 qb1 qx2 qx3 qx4 cI cJ cZ cB cT b_len b_tok b_ki b_pl b_nu x_cl x_ln x_pt x_code e_fault e_place e_at e_law) → va_S A s.heap H locs → lv_has ls 3 [(0, .ref qe0)] → W p l e ({ frames := 6 + (d + 1), cells := 0, slots := 0, locals := 160 + 40 * (d + 1) } : Room) s m ([.ref qe0, .int p1] : List Value).toArray below meth c H locs 0 0 (MQ below ((mQi D (W_RD_0_2t6_10 qb0 qb2 qb3 qb4 qx0 qx1 qe0 qb1 qx2 qx3 qx4 cI cJ cZ cB cT b_len b_tok b_ki b_pl b_nu x_cl o_x_ln x_pt o_x_code o_e_fault o_e_place o_e_at e_law) o_r (mB o_r)) A) ([.ref qe0, .int p1] : List Value).toArray s 0 0 A) (F0 m 76 ls []) := by
    intro x_ln x_code e_fault e_place e_at H locs ls hf hP hD hS hl
    unfold f_X5_askB_76 at hf
    refine lv_aload_n hx hb dX5_ask_76 rfl (lv_at hl 0 rfl) ?_
    refine lv_iconst (v := (1 : Int32)) hx hb dX5_ask_77 (by decide) ?_
    obtain ⟨r78, e_fault_78, e_place_78, hg78, hf⟩ := ob3_some hf
    refine mcV_i (wr := [(qb2, .inl (cI, 301, .inl b_ki)), (qb4, .inl (cI, 301, .inl b_nu)), (qx0, .inr (9, [.int x_cl, .int x_ln, .int x_pt, .ref qx1, .ref qx2, .ref qx3, .ref qx4])), (qx1, .inl (cI, 301, .inl x_code))]) (As := [.int (1 : Int32)]) (rest := []) hx hb hml hown hts hK hP hD hS hA (k_X5_fail l N D cI cJ cZ cB cT qb0 qb3 qe0 qb1 qb2 qb4 qx0 b_len b_tok b_pl e_fault e_place e_at e_law (1 : Int32) r78 e_fault_78 e_place_78 hg78) (kwX5_59 hts rfl rfl ⟨by dsimp only; omega, by dsimp only; omega⟩) [0, 2, 6] [1, 3, 4, 5] rfl rfl rfl (by decide) rfl 2 rfl rfl rfl rfl hl.1 rfl (Nat.le_of_ble_eq_true rfl) dX5_ask_78 ⟨Nat.zero_le _, Nat.zero_le _⟩ (fun hB78 H locs hP hD hS => ?_)
    have hP := mP_sub (wc := (W_RD_0_2t6_10 qb0 qb2 qb3 qb4 qx0 qx1 qe0 qb1 qx2 qx3 qx4 cI cJ cZ cB cT b_len b_tok b_ki b_pl b_nu x_cl x_ln x_pt x_code e_fault_78 e_place_78 e_at e_law)) hP [4, 0, 5, 1, 2, 3, 6] rfl
    have hD := hD.sub (ws' := (W_RD_0_2t6_10 qb0 qb2 qb3 qb4 qx0 qx1 qe0 qb1 qx2 qx3 qx4 cI cJ cZ cB cT b_len b_tok b_ki b_pl b_nu x_cl x_ln x_pt x_code e_fault_78 e_place_78 e_at e_law)) [4, 0, 5, 1, 2, 3, 6] rfl rfl
    cases hf
    exact mret_z hx hb hr hlocks hP hD hS dX5_ask_81 rfl hB78
  unfold f_X5_askB at hf
  refine lv_aload_n hx hb dX5_ask_0 rfl (lv_at hl 0 rfl) ?_
  obtain ⟨r1, hg1, hf⟩ := ob1_some hf
  refine mcV_i (wr := [(qb3, .inl (cI, 301, .inl b_pl)), (qb4, .inl (cI, 301, .inl b_nu)), (qx0, .inr (9, [.int x_cl, .int x_ln, .int x_pt, .ref qx1, .ref qx2, .ref qx3, .ref qx4])), (qx1, .inl (cI, 301, .inl x_code))]) (As := []) (rest := []) hx hb hml hown hts hK hP hD hS hA (k_X5_token l N D cI cJ cZ cB cT qb0 qb2 qe0 qb1 qb3 qb4 qx0 b_len b_tok b_ki e_fault e_place e_at e_law r1 hg1) (kwX5_42 hts rfl rfl ⟨by dsimp only; omega, by dsimp only; omega⟩) [0, 1, 6] [2, 3, 4, 5] rfl rfl rfl (by decide) rfl 2 rfl rfl rfl rfl hl.1 rfl (Nat.le_of_ble_eq_true rfl) dX5_ask_1 ⟨Nat.zero_le _, Nat.zero_le _⟩ (fun hB1 H locs hP hD hS => ?_)
  have hP := mP_sub (wc := (W_RD_0_2t6_10 qb0 qb2 qb3 qb4 qx0 qx1 qe0 qb1 qx2 qx3 qx4 cI cJ cZ cB cT b_len b_tok b_ki b_pl b_nu x_cl x_ln x_pt x_code e_fault e_place e_at e_law)) hP [4, 5, 0, 1, 2, 3, 6] rfl
  have hD := hD.sub (ws' := (W_RD_0_2t6_10 qb0 qb2 qb3 qb4 qx0 qx1 qe0 qb1 qx2 qx3 qx4 cI cJ cZ cB cT b_len b_tok b_ki b_pl b_nu x_cl x_ln x_pt x_code e_fault e_place e_at e_law)) [4, 5, 0, 1, 2, 3, 6] rfl rfl
  refine lv_bipush (v := (30 : Int32)) hx hb dX5_ask_4 (by decide) ?_
  refine xicmp_ne hx hb 49 dX5_ask_6 (by decide) hf (fun hf => ?_) (fun hf => ?_)
  · refine lv_iload_n hx hb dX5_ask_9 rfl (lv_at hl 1 rfl) ?_
    refine lv_bipush (v := (8 : Int32)) hx hb dX5_ask_10 (by decide) ?_
    refine xicmp_lt hx hb 21 dX5_ask_12 (by decide) hf (fun hf => ?_) (fun hf => ?_)
    · refine lv_aload_n hx hb dX5_ask_21 rfl (lv_at hl 0 rfl) ?_
      obtain ⟨e_at_22, hg22, hf⟩ := ob1_some hf
      refine mcV_v (wr := [(qb2, .inl (cI, 301, .inl b_ki)), (qb3, .inl (cI, 301, .inl b_pl)), (qb4, .inl (cI, 301, .inl b_nu)), (qx0, .inr (9, [.int x_cl, .int x_ln, .int x_pt, .ref qx1, .ref qx2, .ref qx3, .ref qx4])), (qx1, .inl (cI, 301, .inl x_code))]) (As := []) (rest := []) hx hb hml hown hts hK hP hD hS hA (k_X5_next l N D cI cJ cZ cB cT qb0 qe0 qb1 qb2 qb3 qb4 qx0 b_len b_tok e_fault e_place e_at e_law e_at_22 hg22) (kwX5_62 hts rfl rfl ⟨by dsimp only; omega, by dsimp only; omega⟩) [0, 6] [1, 2, 3, 4, 5] rfl rfl rfl (by decide) rfl 1 rfl rfl rfl rfl hl.1 rfl (Nat.le_of_ble_eq_true rfl) dX5_ask_22 ⟨Nat.zero_le _, Nat.zero_le _⟩ (fun H locs hP hD hS => ?_)
      have hP := mP_sub (wc := (W_RD_0_2t6_10 qb0 qb2 qb3 qb4 qx0 qx1 qe0 qb1 qx2 qx3 qx4 cI cJ cZ cB cT b_len b_tok b_ki b_pl b_nu x_cl x_ln x_pt x_code e_fault e_place e_at_22 e_law)) hP [5, 0, 1, 2, 3, 4, 6] rfl
      have hD := hD.sub (ws' := (W_RD_0_2t6_10 qb0 qb2 qb3 qb4 qx0 qx1 qe0 qb1 qx2 qx3 qx4 cI cJ cZ cB cT b_len b_tok b_ki b_pl b_nu x_cl x_ln x_pt x_code e_fault e_place e_at_22 e_law)) [5, 0, 1, 2, 3, 4, 6] rfl rfl
      refine lv_aload_n hx hb dX5_ask_25 rfl (lv_at hl 0 rfl) ?_
      refine lv_iload_n hx hb dX5_ask_26 rfl (lv_at hl 1 rfl) ?_
      refine lv_iconst (v := (1 : Int32)) hx hb dX5_ask_27 (by decide) ?_
      refine lv_iadd hx hb dX5_ask_28 ?_
      obtain ⟨r29, x_ln_29, x_code_29, e_fault_29, e_place_29, e_at_29, hg29, hf⟩ := ob6_some hf
      refine mcV1E_i (As := [.int (p1 + (1 : Int32))]) (rest := []) hx hb hml hown hts hK hP hD hS hA hE (hg_6 b_len b_tok b_ki b_pl b_nu x_cl x_ln x_pt x_code e_fault e_place e_at_22 e_law (p1 + (1 : Int32)) r29 x_ln_29 x_code_29 e_fault_29 e_place_29 e_at_29 hg29) (kwX5_128 hts rfl rfl ⟨by dsimp only; omega, by dsimp only; omega⟩) 6 rfl rfl rfl rfl hl.1 rfl (Nat.le_of_ble_eq_true rfl) dX5_ask_29 ⟨Nat.zero_le _, Nat.zero_le _⟩ (fun hB29 H locs hP hD hS => ?_)
      have hP : va_P D vwCl (W_RD_0_2t6_10 qb0 qb2 qb3 qb4 qx0 qx1 qe0 qb1 qx2 qx3 qx4 cI cJ cZ cB cT b_len b_tok b_ki b_pl b_nu x_cl x_ln_29 x_pt x_code_29 e_fault_29 e_place_29 e_at_29 e_law) H := hP
      have hD : va_D A (W_RD_0_2t6_10 qb0 qb2 qb3 qb4 qx0 qx1 qe0 qb1 qx2 qx3 qx4 cI cJ cZ cB cT b_len b_tok b_ki b_pl b_nu x_cl x_ln_29 x_pt x_code_29 e_fault_29 e_place_29 e_at_29 e_law) := hD
      refine xif_ne hx hb 37 dX5_ask_32 (by decide) hf (fun hf => ?_) (fun hf => ?_)
      · refine lv_iconst (v := (0 : Int32)) hx hb dX5_ask_35 (by decide) ?_
        cases hf
        exact mret_z hx hb hr hlocks hP hD hS dX5_ask_36 rfl rfl
      · refine lv_aload_n hx hb dX5_ask_37 rfl (lv_at hl 0 rfl) ?_
        refine gfX5_18 hx hb hts hown hK hP 6 rfl rfl dX5_ask_38 ?_
        refine lv_bipush (v := (30 : Int32)) hx hb dX5_ask_41 (by decide) ?_
        refine lv_iconst (v := (0 : Int32)) hx hb dX5_ask_43 (by decide) ?_
        obtain ⟨x_ln_44, x_code_44, hg44, hf⟩ := ob2_some hf
        refine mcV_v (wr := [(qb0, .inr (8, [.int b_len, .int b_tok, .ref qb1, .ref qb2, .ref qb3, .ref qb4])), (qb2, .inl (cI, 301, .inl b_ki)), (qb3, .inl (cI, 301, .inl b_pl)), (qb4, .inl (cI, 301, .inl b_nu)), (qe0, .inr (5, [.int e_fault_29, .int e_place_29, .ref qb0, .ref qx0, .int e_at_29, .int e_law]))]) (As := [.int (30 : Int32), .int (0 : Int32)]) (rest := []) hx hb hml hown hts hK hP hD hS hA (k_X9_put l N D cI cJ cZ cB cT qx0 qx1 qx2 qx3 qx4 x_cl x_ln_29 x_pt x_code_29 (30 : Int32) (0 : Int32) x_ln_44 x_code_44 hg44) (kwX5_99 hts rfl rfl ⟨by dsimp only; omega, by dsimp only; omega⟩) [4, 5] [0, 1, 2, 3, 6] rfl rfl rfl (by decide) rfl 0 rfl rfl rfl rfl hl.1 rfl (Nat.le_of_ble_eq_true rfl) dX5_ask_44 ⟨Nat.zero_le _, Nat.zero_le _⟩ (fun H locs hP hD hS => ?_)
        have hP := mP_sub (wc := (W_RD_0_2t6_10 qb0 qb2 qb3 qb4 qx0 qx1 qe0 qb1 qx2 qx3 qx4 cI cJ cZ cB cT b_len b_tok b_ki b_pl b_nu x_cl x_ln_44 x_pt x_code_44 e_fault_29 e_place_29 e_at_29 e_law)) hP [0, 1, 2, 3, 5, 6, 4] rfl
        have hD := hD.sub (ws' := (W_RD_0_2t6_10 qb0 qb2 qb3 qb4 qx0 qx1 qe0 qb1 qx2 qx3 qx4 cI cJ cZ cB cT b_len b_tok b_ki b_pl b_nu x_cl x_ln_44 x_pt x_code_44 e_fault_29 e_place_29 e_at_29 e_law)) [0, 1, 2, 3, 5, 6, 4] rfl rfl
        refine lv_iconst (v := (1 : Int32)) hx hb dX5_ask_47 (by decide) ?_
        cases hf
        exact mret_z hx hb hr hlocks hP hD hS dX5_ask_48 rfl rfl
    · refine lv_aload_n hx hb dX5_ask_15 rfl (lv_at hl 0 rfl) ?_
      refine lv_iconst (v := (3 : Int32)) hx hb dX5_ask_16 (by decide) ?_
      obtain ⟨r17, e_fault_17, e_place_17, hg17, hf⟩ := ob3_some hf
      refine mcV_i (wr := [(qb2, .inl (cI, 301, .inl b_ki)), (qb4, .inl (cI, 301, .inl b_nu)), (qx0, .inr (9, [.int x_cl, .int x_ln, .int x_pt, .ref qx1, .ref qx2, .ref qx3, .ref qx4])), (qx1, .inl (cI, 301, .inl x_code))]) (As := [.int (3 : Int32)]) (rest := []) hx hb hml hown hts hK hP hD hS hA (k_X5_fail l N D cI cJ cZ cB cT qb0 qb3 qe0 qb1 qb2 qb4 qx0 b_len b_tok b_pl e_fault e_place e_at e_law (3 : Int32) r17 e_fault_17 e_place_17 hg17) (kwX5_59 hts rfl rfl ⟨by dsimp only; omega, by dsimp only; omega⟩) [0, 2, 6] [1, 3, 4, 5] rfl rfl rfl (by decide) rfl 2 rfl rfl rfl rfl hl.1 rfl (Nat.le_of_ble_eq_true rfl) dX5_ask_17 ⟨Nat.zero_le _, Nat.zero_le _⟩ (fun hB17 H locs hP hD hS => ?_)
      have hP := mP_sub (wc := (W_RD_0_2t6_10 qb0 qb2 qb3 qb4 qx0 qx1 qe0 qb1 qx2 qx3 qx4 cI cJ cZ cB cT b_len b_tok b_ki b_pl b_nu x_cl x_ln x_pt x_code e_fault_17 e_place_17 e_at e_law)) hP [4, 0, 5, 1, 2, 3, 6] rfl
      have hD := hD.sub (ws' := (W_RD_0_2t6_10 qb0 qb2 qb3 qb4 qx0 qx1 qe0 qb1 qx2 qx3 qx4 cI cJ cZ cB cT b_len b_tok b_ki b_pl b_nu x_cl x_ln x_pt x_code e_fault_17 e_place_17 e_at e_law)) [4, 0, 5, 1, 2, 3, 6] rfl rfl
      cases hf
      exact mret_z hx hb hr hlocks hP hD hS dX5_ask_20 rfl hB17
  · refine lv_aload_n hx hb dX5_ask_49 rfl (lv_at hl 0 rfl) ?_
    refine lv_iload_n hx hb dX5_ask_50 rfl (lv_at hl 1 rfl) ?_
    obtain ⟨r51, x_ln_51, x_code_51, e_fault_51, e_place_51, e_at_51, hg51, hf⟩ := ob6_some hf
    refine mcV1E_i (As := [.int p1]) (rest := []) hx hb hml hown hts hK hP hD hS hA hE (hg_0 b_len b_tok b_ki b_pl b_nu x_cl x_ln x_pt x_code e_fault e_place e_at e_law p1 r51 x_ln_51 x_code_51 e_fault_51 e_place_51 e_at_51 hg51) (kwX5_81 hts rfl rfl ⟨by dsimp only; omega, by dsimp only; omega⟩) 6 rfl rfl rfl rfl hl.1 rfl (Nat.le_of_ble_eq_true rfl) dX5_ask_51 ⟨Nat.zero_le _, Nat.zero_le _⟩ (fun hB51 H locs hP hD hS => ?_)
    have hP : va_P D vwCl (W_RD_0_2t6_10 qb0 qb2 qb3 qb4 qx0 qx1 qe0 qb1 qx2 qx3 qx4 cI cJ cZ cB cT b_len b_tok b_ki b_pl b_nu x_cl x_ln_51 x_pt x_code_51 e_fault_51 e_place_51 e_at_51 e_law) H := hP
    have hD : va_D A (W_RD_0_2t6_10 qb0 qb2 qb3 qb4 qx0 qx1 qe0 qb1 qx2 qx3 qx4 cI cJ cZ cB cT b_len b_tok b_ki b_pl b_nu x_cl x_ln_51 x_pt x_code_51 e_fault_51 e_place_51 e_at_51 e_law) := hD
    refine xif_ne hx hb 59 dX5_ask_54 (by decide) hf (fun hf => ?_) (fun hf => ?_)
    · refine lv_iconst (v := (0 : Int32)) hx hb dX5_ask_57 (by decide) ?_
      cases hf
      exact mret_z hx hb hr hlocks hP hD hS dX5_ask_58 rfl rfl
    · refine lv_aload_n hx hb dX5_ask_59 rfl (lv_at hl 0 rfl) ?_
      obtain ⟨r60, hg60, hf⟩ := ob1_some hf
      refine mcV_i (wr := [(qb3, .inl (cI, 301, .inl b_pl)), (qb4, .inl (cI, 301, .inl b_nu)), (qx0, .inr (9, [.int x_cl, .int x_ln_51, .int x_pt, .ref qx1, .ref qx2, .ref qx3, .ref qx4])), (qx1, .inl (cI, 301, .inl x_code_51))]) (As := []) (rest := []) hx hb hml hown hts hK hP hD hS hA (k_X5_token l N D cI cJ cZ cB cT qb0 qb2 qe0 qb1 qb3 qb4 qx0 b_len b_tok b_ki e_fault_51 e_place_51 e_at_51 e_law r60 hg60) (kwX5_42 hts rfl rfl ⟨by dsimp only; omega, by dsimp only; omega⟩) [0, 1, 6] [2, 3, 4, 5] rfl rfl rfl (by decide) rfl 2 rfl rfl rfl rfl hl.1 rfl (Nat.le_of_ble_eq_true rfl) dX5_ask_60 ⟨Nat.zero_le _, Nat.zero_le _⟩ (fun hB60 H locs hP hD hS => ?_)
      have hP := mP_sub (wc := (W_RD_0_2t6_10 qb0 qb2 qb3 qb4 qx0 qx1 qe0 qb1 qx2 qx3 qx4 cI cJ cZ cB cT b_len b_tok b_ki b_pl b_nu x_cl x_ln_51 x_pt x_code_51 e_fault_51 e_place_51 e_at_51 e_law)) hP [4, 5, 0, 1, 2, 3, 6] rfl
      have hD := hD.sub (ws' := (W_RD_0_2t6_10 qb0 qb2 qb3 qb4 qx0 qx1 qe0 qb1 qx2 qx3 qx4 cI cJ cZ cB cT b_len b_tok b_ki b_pl b_nu x_cl x_ln_51 x_pt x_code_51 e_fault_51 e_place_51 e_at_51 e_law)) [4, 5, 0, 1, 2, 3, 6] rfl rfl
      refine lv_istore_n (lv' := [(2, .int r60), (0, .ref qe0), (1, .int p1)]) hx hb dX5_ask_63 rfl hl (by decide) rfl (fun ls hl => ?_)
      refine lv_iload_n hx hb dX5_ask_64 rfl (lv_at hl 0 rfl) ?_
      refine lv_bipush (v := (33 : Int32)) hx hb dX5_ask_65 (by decide) ?_
      refine xicmp_lt hx hb 76 dX5_ask_67 (by decide) hf (fun hf => ?_) (fun hf => ?_)
      · exact b76 x_ln_51 x_code_51 e_fault_51 e_place_51 e_at_51 _ _ _ hf hP hD hS (lv_sub hl [1] rfl)
      · refine lv_iload_n hx hb dX5_ask_70 rfl (lv_at hl 0 rfl) ?_
        refine lv_bipush (v := (38 : Int32)) hx hb dX5_ask_71 (by decide) ?_
        refine xicmp_le hx hb 82 dX5_ask_73 (by decide) hf (fun hf => ?_) (fun hf => ?_)
        · refine lv_aload_n hx hb dX5_ask_82 rfl (lv_at hl 1 rfl) ?_
          obtain ⟨e_at_83, hg83, hf⟩ := ob1_some hf
          refine mcV_v (wr := [(qb2, .inl (cI, 301, .inl b_ki)), (qb3, .inl (cI, 301, .inl b_pl)), (qb4, .inl (cI, 301, .inl b_nu)), (qx0, .inr (9, [.int x_cl, .int x_ln_51, .int x_pt, .ref qx1, .ref qx2, .ref qx3, .ref qx4])), (qx1, .inl (cI, 301, .inl x_code_51))]) (As := []) (rest := []) hx hb hml hown hts hK hP hD hS hA (k_X5_next l N D cI cJ cZ cB cT qb0 qe0 qb1 qb2 qb3 qb4 qx0 b_len b_tok e_fault_51 e_place_51 e_at_51 e_law e_at_83 hg83) (kwX5_62 hts rfl rfl ⟨by dsimp only; omega, by dsimp only; omega⟩) [0, 6] [1, 2, 3, 4, 5] rfl rfl rfl (by decide) rfl 1 rfl rfl rfl rfl hl.1 rfl (Nat.le_of_ble_eq_true rfl) dX5_ask_83 ⟨Nat.zero_le _, Nat.zero_le _⟩ (fun H locs hP hD hS => ?_)
          have hP := mP_sub (wc := (W_RD_0_2t6_10 qb0 qb2 qb3 qb4 qx0 qx1 qe0 qb1 qx2 qx3 qx4 cI cJ cZ cB cT b_len b_tok b_ki b_pl b_nu x_cl x_ln_51 x_pt x_code_51 e_fault_51 e_place_51 e_at_83 e_law)) hP [5, 0, 1, 2, 3, 4, 6] rfl
          have hD := hD.sub (ws' := (W_RD_0_2t6_10 qb0 qb2 qb3 qb4 qx0 qx1 qe0 qb1 qx2 qx3 qx4 cI cJ cZ cB cT b_len b_tok b_ki b_pl b_nu x_cl x_ln_51 x_pt x_code_51 e_fault_51 e_place_51 e_at_83 e_law)) [5, 0, 1, 2, 3, 4, 6] rfl rfl
          refine lv_aload_n hx hb dX5_ask_86 rfl (lv_at hl 1 rfl) ?_
          refine lv_iload_n hx hb dX5_ask_87 rfl (lv_at hl 2 rfl) ?_
          obtain ⟨r88, x_ln_88, x_code_88, e_fault_88, e_place_88, e_at_88, hg88, hf⟩ := ob6_some hf
          refine mcV1E_i (As := [.int p1]) (rest := []) hx hb hml hown hts hK hP hD hS hA hE (hg_0 b_len b_tok b_ki b_pl b_nu x_cl x_ln_51 x_pt x_code_51 e_fault_51 e_place_51 e_at_83 e_law p1 r88 x_ln_88 x_code_88 e_fault_88 e_place_88 e_at_88 hg88) (kwX5_81 hts rfl rfl ⟨by dsimp only; omega, by dsimp only; omega⟩) 6 rfl rfl rfl rfl hl.1 rfl (Nat.le_of_ble_eq_true rfl) dX5_ask_88 ⟨Nat.zero_le _, Nat.zero_le _⟩ (fun hB88 H locs hP hD hS => ?_)
          have hP : va_P D vwCl (W_RD_0_2t6_10 qb0 qb2 qb3 qb4 qx0 qx1 qe0 qb1 qx2 qx3 qx4 cI cJ cZ cB cT b_len b_tok b_ki b_pl b_nu x_cl x_ln_88 x_pt x_code_88 e_fault_88 e_place_88 e_at_88 e_law) H := hP
          have hD : va_D A (W_RD_0_2t6_10 qb0 qb2 qb3 qb4 qx0 qx1 qe0 qb1 qx2 qx3 qx4 cI cJ cZ cB cT b_len b_tok b_ki b_pl b_nu x_cl x_ln_88 x_pt x_code_88 e_fault_88 e_place_88 e_at_88 e_law) := hD
          refine xif_ne hx hb 96 dX5_ask_91 (by decide) hf (fun hf => ?_) (fun hf => ?_)
          · refine lv_iconst (v := (0 : Int32)) hx hb dX5_ask_94 (by decide) ?_
            cases hf
            exact mret_z hx hb hr hlocks hP hD hS dX5_ask_95 rfl rfl
          · refine lv_aload_n hx hb dX5_ask_96 rfl (lv_at hl 1 rfl) ?_
            refine gfX5_18 hx hb hts hown hK hP 6 rfl rfl dX5_ask_97 ?_
            refine lv_iload_n hx hb dX5_ask_100 rfl (lv_at hl 0 rfl) ?_
            refine lv_iconst (v := (0 : Int32)) hx hb dX5_ask_101 (by decide) ?_
            obtain ⟨x_ln_102, x_code_102, hg102, hf⟩ := ob2_some hf
            refine mcV_v (wr := [(qb0, .inr (8, [.int b_len, .int b_tok, .ref qb1, .ref qb2, .ref qb3, .ref qb4])), (qb2, .inl (cI, 301, .inl b_ki)), (qb3, .inl (cI, 301, .inl b_pl)), (qb4, .inl (cI, 301, .inl b_nu)), (qe0, .inr (5, [.int e_fault_88, .int e_place_88, .ref qb0, .ref qx0, .int e_at_88, .int e_law]))]) (As := [.int r60, .int (0 : Int32)]) (rest := []) hx hb hml hown hts hK hP hD hS hA (k_X9_put l N D cI cJ cZ cB cT qx0 qx1 qx2 qx3 qx4 x_cl x_ln_88 x_pt x_code_88 r60 (0 : Int32) x_ln_102 x_code_102 hg102) (kwX5_99 hts rfl rfl ⟨by dsimp only; omega, by dsimp only; omega⟩) [4, 5] [0, 1, 2, 3, 6] rfl rfl rfl (by decide) rfl 0 rfl rfl rfl rfl hl.1 rfl (Nat.le_of_ble_eq_true rfl) dX5_ask_102 ⟨Nat.zero_le _, Nat.zero_le _⟩ (fun H locs hP hD hS => ?_)
            have hP := mP_sub (wc := (W_RD_0_2t6_10 qb0 qb2 qb3 qb4 qx0 qx1 qe0 qb1 qx2 qx3 qx4 cI cJ cZ cB cT b_len b_tok b_ki b_pl b_nu x_cl x_ln_102 x_pt x_code_102 e_fault_88 e_place_88 e_at_88 e_law)) hP [0, 1, 2, 3, 5, 6, 4] rfl
            have hD := hD.sub (ws' := (W_RD_0_2t6_10 qb0 qb2 qb3 qb4 qx0 qx1 qe0 qb1 qx2 qx3 qx4 cI cJ cZ cB cT b_len b_tok b_ki b_pl b_nu x_cl x_ln_102 x_pt x_code_102 e_fault_88 e_place_88 e_at_88 e_law)) [0, 1, 2, 3, 5, 6, 4] rfl rfl
            refine lv_iconst (v := (1 : Int32)) hx hb dX5_ask_105 (by decide) ?_
            cases hf
            exact mret_z hx hb hr hlocks hP hD hS dX5_ask_106 rfl rfl
        · exact b76 x_ln_51 x_code_51 e_fault_51 e_place_51 e_at_51 _ _ _ hf hP hD hS (lv_sub hl [1] rfl)
theorem kg_RG (l : Launch) (N : Nat) (D : va_G) (cI cJ cZ cB cT : ClassId) (qb0 : Nat) (qb2 : Nat) (qb3 : Nat) (qb4 : Nat) (qx0 : Nat) (qx1 : Nat) (qe0 : Nat) (qb1 : Nat) (qx2 : Nat) (qx3 : Nat) (qx4 : Nat) : ∀ d : Nat, RG_ok l N D cI cJ cZ cB cT qb0 qb2 qb3 qb4 qx0 qx1 qe0 qb1 qx2 qx3 qx4 d 0 yX5_sum cX5_sum 4 ∧ RG_ok l N D cI cJ cZ cB cT qb0 qb2 qb3 qb4 qx0 qx1 qe0 qb1 qx2 qx3 qx4 d 1 yX5_product cX5_product 4 ∧ RG_ok l N D cI cJ cZ cB cT qb0 qb2 qb3 qb4 qx0 qx1 qe0 qb1 qx2 qx3 qx4 d 2 yX5_one cX5_one 4 ∧ RG_ok l N D cI cJ cZ cB cT qb0 qb2 qb3 qb4 qx0 qx1 qe0 qb1 qx2 qx3 qx4 d 3 yX5_choice cX5_choice 4 ∧ RG_ok l N D cI cJ cZ cB cT qb0 qb2 qb3 qb4 qx0 qx1 qe0 qb1 qx2 qx3 qx4 d 4 yX5_either cX5_either 3 ∧ RG_ok l N D cI cJ cZ cB cT qb0 qb2 qb3 qb4 qx0 qx1 qe0 qb1 qx2 qx3 qx4 d 5 yX5_both cX5_both 3 ∧ RG_ok l N D cI cJ cZ cB cT qb0 qb2 qb3 qb4 qx0 qx1 qe0 qb1 qx2 qx3 qx4 d 6 yX5_ask cX5_ask 3 := by
  intro d
  induction d with
  | zero => exact ⟨fun b_len b_tok b_ki b_pl b_nu x_cl x_ln x_pt x_code e_fault e_place e_at e_law p1 o_r o_x_ln o_x_code o_e_fault o_e_place o_e_at hf => by simp [f_RG] at hf, fun b_len b_tok b_ki b_pl b_nu x_cl x_ln x_pt x_code e_fault e_place e_at e_law p1 o_r o_x_ln o_x_code o_e_fault o_e_place o_e_at hf => by simp [f_RG] at hf, fun b_len b_tok b_ki b_pl b_nu x_cl x_ln x_pt x_code e_fault e_place e_at e_law p1 o_r o_x_ln o_x_code o_e_fault o_e_place o_e_at hf => by simp [f_RG] at hf, fun b_len b_tok b_ki b_pl b_nu x_cl x_ln x_pt x_code e_fault e_place e_at e_law p1 o_r o_x_ln o_x_code o_e_fault o_e_place o_e_at hf => by simp [f_RG] at hf, fun b_len b_tok b_ki b_pl b_nu x_cl x_ln x_pt x_code e_fault e_place e_at e_law p1 o_r o_x_ln o_x_code o_e_fault o_e_place o_e_at hf => by simp [f_RG] at hf, fun b_len b_tok b_ki b_pl b_nu x_cl x_ln x_pt x_code e_fault e_place e_at e_law p1 o_r o_x_ln o_x_code o_e_fault o_e_place o_e_at hf => by simp [f_RG] at hf, fun b_len b_tok b_ki b_pl b_nu x_cl x_ln x_pt x_code e_fault e_place e_at e_law p1 o_r o_x_ln o_x_code o_e_fault o_e_place o_e_at hf => by simp [f_RG] at hf⟩
  | succ d ih =>
    obtain ⟨hg_0, hg_1, hg_2, hg_3, hg_4, hg_5, hg_6⟩ := ih
    exact ⟨fun b_len b_tok b_ki b_pl b_nu x_cl x_ln x_pt x_code e_fault e_place e_at e_law p1 o_r o_x_ln o_x_code o_e_fault o_e_place o_e_at hf => k_X5_sumB l N D cI cJ cZ cB cT qb0 qb2 qb3 qb4 qx0 qx1 qe0 qb1 qx2 qx3 qx4 d hg_0 hg_1 hg_2 hg_3 hg_4 hg_5 hg_6 b_len b_tok b_ki b_pl b_nu x_cl x_ln x_pt x_code e_fault e_place e_at e_law p1 o_r o_x_ln o_x_code o_e_fault o_e_place o_e_at hf, fun b_len b_tok b_ki b_pl b_nu x_cl x_ln x_pt x_code e_fault e_place e_at e_law p1 o_r o_x_ln o_x_code o_e_fault o_e_place o_e_at hf => k_X5_productB l N D cI cJ cZ cB cT qb0 qb2 qb3 qb4 qx0 qx1 qe0 qb1 qx2 qx3 qx4 d hg_0 hg_1 hg_2 hg_3 hg_4 hg_5 hg_6 b_len b_tok b_ki b_pl b_nu x_cl x_ln x_pt x_code e_fault e_place e_at e_law p1 o_r o_x_ln o_x_code o_e_fault o_e_place o_e_at hf, fun b_len b_tok b_ki b_pl b_nu x_cl x_ln x_pt x_code e_fault e_place e_at e_law p1 o_r o_x_ln o_x_code o_e_fault o_e_place o_e_at hf => k_X5_oneB l N D cI cJ cZ cB cT qb0 qb2 qb3 qb4 qx0 qx1 qe0 qb1 qx2 qx3 qx4 d hg_0 hg_1 hg_2 hg_3 hg_4 hg_5 hg_6 b_len b_tok b_ki b_pl b_nu x_cl x_ln x_pt x_code e_fault e_place e_at e_law p1 o_r o_x_ln o_x_code o_e_fault o_e_place o_e_at hf, fun b_len b_tok b_ki b_pl b_nu x_cl x_ln x_pt x_code e_fault e_place e_at e_law p1 o_r o_x_ln o_x_code o_e_fault o_e_place o_e_at hf => k_X5_choiceB l N D cI cJ cZ cB cT qb0 qb2 qb3 qb4 qx0 qx1 qe0 qb1 qx2 qx3 qx4 d hg_0 hg_1 hg_2 hg_3 hg_4 hg_5 hg_6 b_len b_tok b_ki b_pl b_nu x_cl x_ln x_pt x_code e_fault e_place e_at e_law p1 o_r o_x_ln o_x_code o_e_fault o_e_place o_e_at hf, fun b_len b_tok b_ki b_pl b_nu x_cl x_ln x_pt x_code e_fault e_place e_at e_law p1 o_r o_x_ln o_x_code o_e_fault o_e_place o_e_at hf => k_X5_eitherB l N D cI cJ cZ cB cT qb0 qb2 qb3 qb4 qx0 qx1 qe0 qb1 qx2 qx3 qx4 d hg_0 hg_1 hg_2 hg_3 hg_4 hg_5 hg_6 b_len b_tok b_ki b_pl b_nu x_cl x_ln x_pt x_code e_fault e_place e_at e_law p1 o_r o_x_ln o_x_code o_e_fault o_e_place o_e_at hf, fun b_len b_tok b_ki b_pl b_nu x_cl x_ln x_pt x_code e_fault e_place e_at e_law p1 o_r o_x_ln o_x_code o_e_fault o_e_place o_e_at hf => k_X5_bothB l N D cI cJ cZ cB cT qb0 qb2 qb3 qb4 qx0 qx1 qe0 qb1 qx2 qx3 qx4 d hg_0 hg_1 hg_2 hg_3 hg_4 hg_5 hg_6 b_len b_tok b_ki b_pl b_nu x_cl x_ln x_pt x_code e_fault e_place e_at e_law p1 o_r o_x_ln o_x_code o_e_fault o_e_place o_e_at hf, fun b_len b_tok b_ki b_pl b_nu x_cl x_ln x_pt x_code e_fault e_place e_at e_law p1 o_r o_x_ln o_x_code o_e_fault o_e_place o_e_at hf => k_X5_askB l N D cI cJ cZ cB cT qb0 qb2 qb3 qb4 qx0 qx1 qe0 qb1 qx2 qx3 qx4 d hg_0 hg_1 hg_2 hg_3 hg_4 hg_5 hg_6 b_len b_tok b_ki b_pl b_nu x_cl x_ln x_pt x_code e_fault e_place e_at e_law p1 o_r o_x_ln o_x_code o_e_fault o_e_place o_e_at hf⟩
def f_X5_sum (N : Nat) (b_len : Int32) (b_tok : Int32) (b_ki : Nat → Int32) (b_pl : Nat → Int32) (b_nu : Nat → Int32) (x_ln : Int32) (x_code : Nat → Int32) (e_fault : Int32) (e_place : Int32) (e_at : Int32) (e_law : Int32) (p1 : Int32) : Option (Int32 × Int32 × (Nat → Int32) × Int32 × Int32 × Int32) := f_RG N 100 0 b_len b_tok b_ki b_pl b_nu x_ln x_code e_fault e_place e_at e_law p1
theorem k_X5_sum (l : Launch) (N : Nat) (D : va_G) (cI cJ cZ cB cT : ClassId) (qb0 : Nat) (qb2 : Nat) (qb3 : Nat) (qb4 : Nat) (qx0 : Nat) (qx1 : Nat) (qe0 : Nat) (qb1 : Nat) (qx2 : Nat) (qx3 : Nat) (qx4 : Nat) (b_len : Int32) (b_tok : Int32) (b_ki : Nat → Int32) (b_pl : Nat → Int32) (b_nu : Nat → Int32) (x_cl : Int32) (x_ln : Int32) (x_pt : Int32) (x_code : Nat → Int32) (e_fault : Int32) (e_place : Int32) (e_at : Int32) (e_law : Int32) (p1 : Int32) (o_r : Int32) (o_x_ln : Int32) (o_x_code : Nat → Int32) (o_e_fault : Int32) (o_e_place : Int32) (o_e_at : Int32) (hf : f_X5_sum N b_len b_tok b_ki b_pl b_nu x_ln x_code e_fault e_place e_at e_law p1 = some (o_r, o_x_ln, o_x_code, o_e_fault, o_e_place, o_e_at)) : ∀ sz, Met l yX5_sum (mw yX5_sum cX5_sum 4 (some .boolean)) ({ frames := 106, cells := 0, slots := 0, locals := 4160 } : Room) (mPreE D (mT cI cJ cZ cB cT) (W_RD_0_2t6_10 qb0 qb2 qb3 qb4 qx0 qx1 qe0 qb1 qx2 qx3 qx4 cI cJ cZ cB cT b_len b_tok b_ki b_pl b_nu x_cl x_ln x_pt x_code e_fault e_place e_at e_law) sz [.ref qe0, .int p1]) ((mQi D (W_RD_0_2t6_10 qb0 qb2 qb3 qb4 qx0 qx1 qe0 qb1 qx2 qx3 qx4 cI cJ cZ cB cT b_len b_tok b_ki b_pl b_nu x_cl o_x_ln x_pt o_x_code o_e_fault o_e_place o_e_at e_law) o_r (mB o_r)) (va_A (W_RD_0_2t6_10 qb0 qb2 qb3 qb4 qx0 qx1 qe0 qb1 qx2 qx3 qx4 cI cJ cZ cB cT b_len b_tok b_ki b_pl b_nu x_cl x_ln x_pt x_code e_fault e_place e_at e_law) sz)) 0 0 (va_A (W_RD_0_2t6_10 qb0 qb2 qb3 qb4 qx0 qx1 qe0 qb1 qx2 qx3 qx4 cI cJ cZ cB cT b_len b_tok b_ki b_pl b_nu x_cl x_ln x_pt x_code e_fault e_place e_at e_law) sz) :=
  (kg_RG l N D cI cJ cZ cB cT qb0 qb2 qb3 qb4 qx0 qx1 qe0 qb1 qx2 qx3 qx4 100).1 b_len b_tok b_ki b_pl b_nu x_cl x_ln x_pt x_code e_fault e_place e_at e_law p1 o_r o_x_ln o_x_code o_e_fault o_e_place o_e_at hf
def f_X5_product (N : Nat) (b_len : Int32) (b_tok : Int32) (b_ki : Nat → Int32) (b_pl : Nat → Int32) (b_nu : Nat → Int32) (x_ln : Int32) (x_code : Nat → Int32) (e_fault : Int32) (e_place : Int32) (e_at : Int32) (e_law : Int32) (p1 : Int32) : Option (Int32 × Int32 × (Nat → Int32) × Int32 × Int32 × Int32) := f_RG N 100 1 b_len b_tok b_ki b_pl b_nu x_ln x_code e_fault e_place e_at e_law p1
theorem k_X5_product (l : Launch) (N : Nat) (D : va_G) (cI cJ cZ cB cT : ClassId) (qb0 : Nat) (qb2 : Nat) (qb3 : Nat) (qb4 : Nat) (qx0 : Nat) (qx1 : Nat) (qe0 : Nat) (qb1 : Nat) (qx2 : Nat) (qx3 : Nat) (qx4 : Nat) (b_len : Int32) (b_tok : Int32) (b_ki : Nat → Int32) (b_pl : Nat → Int32) (b_nu : Nat → Int32) (x_cl : Int32) (x_ln : Int32) (x_pt : Int32) (x_code : Nat → Int32) (e_fault : Int32) (e_place : Int32) (e_at : Int32) (e_law : Int32) (p1 : Int32) (o_r : Int32) (o_x_ln : Int32) (o_x_code : Nat → Int32) (o_e_fault : Int32) (o_e_place : Int32) (o_e_at : Int32) (hf : f_X5_product N b_len b_tok b_ki b_pl b_nu x_ln x_code e_fault e_place e_at e_law p1 = some (o_r, o_x_ln, o_x_code, o_e_fault, o_e_place, o_e_at)) : ∀ sz, Met l yX5_product (mw yX5_product cX5_product 4 (some .boolean)) ({ frames := 106, cells := 0, slots := 0, locals := 4160 } : Room) (mPreE D (mT cI cJ cZ cB cT) (W_RD_0_2t6_10 qb0 qb2 qb3 qb4 qx0 qx1 qe0 qb1 qx2 qx3 qx4 cI cJ cZ cB cT b_len b_tok b_ki b_pl b_nu x_cl x_ln x_pt x_code e_fault e_place e_at e_law) sz [.ref qe0, .int p1]) ((mQi D (W_RD_0_2t6_10 qb0 qb2 qb3 qb4 qx0 qx1 qe0 qb1 qx2 qx3 qx4 cI cJ cZ cB cT b_len b_tok b_ki b_pl b_nu x_cl o_x_ln x_pt o_x_code o_e_fault o_e_place o_e_at e_law) o_r (mB o_r)) (va_A (W_RD_0_2t6_10 qb0 qb2 qb3 qb4 qx0 qx1 qe0 qb1 qx2 qx3 qx4 cI cJ cZ cB cT b_len b_tok b_ki b_pl b_nu x_cl x_ln x_pt x_code e_fault e_place e_at e_law) sz)) 0 0 (va_A (W_RD_0_2t6_10 qb0 qb2 qb3 qb4 qx0 qx1 qe0 qb1 qx2 qx3 qx4 cI cJ cZ cB cT b_len b_tok b_ki b_pl b_nu x_cl x_ln x_pt x_code e_fault e_place e_at e_law) sz) :=
  (kg_RG l N D cI cJ cZ cB cT qb0 qb2 qb3 qb4 qx0 qx1 qe0 qb1 qx2 qx3 qx4 100).2.1 b_len b_tok b_ki b_pl b_nu x_cl x_ln x_pt x_code e_fault e_place e_at e_law p1 o_r o_x_ln o_x_code o_e_fault o_e_place o_e_at hf
def f_X5_one (N : Nat) (b_len : Int32) (b_tok : Int32) (b_ki : Nat → Int32) (b_pl : Nat → Int32) (b_nu : Nat → Int32) (x_ln : Int32) (x_code : Nat → Int32) (e_fault : Int32) (e_place : Int32) (e_at : Int32) (e_law : Int32) (p1 : Int32) : Option (Int32 × Int32 × (Nat → Int32) × Int32 × Int32 × Int32) := f_RG N 100 2 b_len b_tok b_ki b_pl b_nu x_ln x_code e_fault e_place e_at e_law p1
theorem k_X5_one (l : Launch) (N : Nat) (D : va_G) (cI cJ cZ cB cT : ClassId) (qb0 : Nat) (qb2 : Nat) (qb3 : Nat) (qb4 : Nat) (qx0 : Nat) (qx1 : Nat) (qe0 : Nat) (qb1 : Nat) (qx2 : Nat) (qx3 : Nat) (qx4 : Nat) (b_len : Int32) (b_tok : Int32) (b_ki : Nat → Int32) (b_pl : Nat → Int32) (b_nu : Nat → Int32) (x_cl : Int32) (x_ln : Int32) (x_pt : Int32) (x_code : Nat → Int32) (e_fault : Int32) (e_place : Int32) (e_at : Int32) (e_law : Int32) (p1 : Int32) (o_r : Int32) (o_x_ln : Int32) (o_x_code : Nat → Int32) (o_e_fault : Int32) (o_e_place : Int32) (o_e_at : Int32) (hf : f_X5_one N b_len b_tok b_ki b_pl b_nu x_ln x_code e_fault e_place e_at e_law p1 = some (o_r, o_x_ln, o_x_code, o_e_fault, o_e_place, o_e_at)) : ∀ sz, Met l yX5_one (mw yX5_one cX5_one 4 (some .boolean)) ({ frames := 106, cells := 0, slots := 0, locals := 4160 } : Room) (mPreE D (mT cI cJ cZ cB cT) (W_RD_0_2t6_10 qb0 qb2 qb3 qb4 qx0 qx1 qe0 qb1 qx2 qx3 qx4 cI cJ cZ cB cT b_len b_tok b_ki b_pl b_nu x_cl x_ln x_pt x_code e_fault e_place e_at e_law) sz [.ref qe0, .int p1]) ((mQi D (W_RD_0_2t6_10 qb0 qb2 qb3 qb4 qx0 qx1 qe0 qb1 qx2 qx3 qx4 cI cJ cZ cB cT b_len b_tok b_ki b_pl b_nu x_cl o_x_ln x_pt o_x_code o_e_fault o_e_place o_e_at e_law) o_r (mB o_r)) (va_A (W_RD_0_2t6_10 qb0 qb2 qb3 qb4 qx0 qx1 qe0 qb1 qx2 qx3 qx4 cI cJ cZ cB cT b_len b_tok b_ki b_pl b_nu x_cl x_ln x_pt x_code e_fault e_place e_at e_law) sz)) 0 0 (va_A (W_RD_0_2t6_10 qb0 qb2 qb3 qb4 qx0 qx1 qe0 qb1 qx2 qx3 qx4 cI cJ cZ cB cT b_len b_tok b_ki b_pl b_nu x_cl x_ln x_pt x_code e_fault e_place e_at e_law) sz) :=
  (kg_RG l N D cI cJ cZ cB cT qb0 qb2 qb3 qb4 qx0 qx1 qe0 qb1 qx2 qx3 qx4 100).2.2.1 b_len b_tok b_ki b_pl b_nu x_cl x_ln x_pt x_code e_fault e_place e_at e_law p1 o_r o_x_ln o_x_code o_e_fault o_e_place o_e_at hf
def f_X5_choice (N : Nat) (b_len : Int32) (b_tok : Int32) (b_ki : Nat → Int32) (b_pl : Nat → Int32) (b_nu : Nat → Int32) (x_ln : Int32) (x_code : Nat → Int32) (e_fault : Int32) (e_place : Int32) (e_at : Int32) (e_law : Int32) (p1 : Int32) : Option (Int32 × Int32 × (Nat → Int32) × Int32 × Int32 × Int32) := f_RG N 100 3 b_len b_tok b_ki b_pl b_nu x_ln x_code e_fault e_place e_at e_law p1
theorem k_X5_choice (l : Launch) (N : Nat) (D : va_G) (cI cJ cZ cB cT : ClassId) (qb0 : Nat) (qb2 : Nat) (qb3 : Nat) (qb4 : Nat) (qx0 : Nat) (qx1 : Nat) (qe0 : Nat) (qb1 : Nat) (qx2 : Nat) (qx3 : Nat) (qx4 : Nat) (b_len : Int32) (b_tok : Int32) (b_ki : Nat → Int32) (b_pl : Nat → Int32) (b_nu : Nat → Int32) (x_cl : Int32) (x_ln : Int32) (x_pt : Int32) (x_code : Nat → Int32) (e_fault : Int32) (e_place : Int32) (e_at : Int32) (e_law : Int32) (p1 : Int32) (o_r : Int32) (o_x_ln : Int32) (o_x_code : Nat → Int32) (o_e_fault : Int32) (o_e_place : Int32) (o_e_at : Int32) (hf : f_X5_choice N b_len b_tok b_ki b_pl b_nu x_ln x_code e_fault e_place e_at e_law p1 = some (o_r, o_x_ln, o_x_code, o_e_fault, o_e_place, o_e_at)) : ∀ sz, Met l yX5_choice (mw yX5_choice cX5_choice 4 (some .boolean)) ({ frames := 106, cells := 0, slots := 0, locals := 4160 } : Room) (mPreE D (mT cI cJ cZ cB cT) (W_RD_0_2t6_10 qb0 qb2 qb3 qb4 qx0 qx1 qe0 qb1 qx2 qx3 qx4 cI cJ cZ cB cT b_len b_tok b_ki b_pl b_nu x_cl x_ln x_pt x_code e_fault e_place e_at e_law) sz [.ref qe0, .int p1]) ((mQi D (W_RD_0_2t6_10 qb0 qb2 qb3 qb4 qx0 qx1 qe0 qb1 qx2 qx3 qx4 cI cJ cZ cB cT b_len b_tok b_ki b_pl b_nu x_cl o_x_ln x_pt o_x_code o_e_fault o_e_place o_e_at e_law) o_r (mB o_r)) (va_A (W_RD_0_2t6_10 qb0 qb2 qb3 qb4 qx0 qx1 qe0 qb1 qx2 qx3 qx4 cI cJ cZ cB cT b_len b_tok b_ki b_pl b_nu x_cl x_ln x_pt x_code e_fault e_place e_at e_law) sz)) 0 0 (va_A (W_RD_0_2t6_10 qb0 qb2 qb3 qb4 qx0 qx1 qe0 qb1 qx2 qx3 qx4 cI cJ cZ cB cT b_len b_tok b_ki b_pl b_nu x_cl x_ln x_pt x_code e_fault e_place e_at e_law) sz) :=
  (kg_RG l N D cI cJ cZ cB cT qb0 qb2 qb3 qb4 qx0 qx1 qe0 qb1 qx2 qx3 qx4 100).2.2.2.1 b_len b_tok b_ki b_pl b_nu x_cl x_ln x_pt x_code e_fault e_place e_at e_law p1 o_r o_x_ln o_x_code o_e_fault o_e_place o_e_at hf
def f_X5_either (N : Nat) (b_len : Int32) (b_tok : Int32) (b_ki : Nat → Int32) (b_pl : Nat → Int32) (b_nu : Nat → Int32) (x_ln : Int32) (x_code : Nat → Int32) (e_fault : Int32) (e_place : Int32) (e_at : Int32) (e_law : Int32) (p1 : Int32) : Option (Int32 × Int32 × (Nat → Int32) × Int32 × Int32 × Int32) := f_RG N 100 4 b_len b_tok b_ki b_pl b_nu x_ln x_code e_fault e_place e_at e_law p1
theorem k_X5_either (l : Launch) (N : Nat) (D : va_G) (cI cJ cZ cB cT : ClassId) (qb0 : Nat) (qb2 : Nat) (qb3 : Nat) (qb4 : Nat) (qx0 : Nat) (qx1 : Nat) (qe0 : Nat) (qb1 : Nat) (qx2 : Nat) (qx3 : Nat) (qx4 : Nat) (b_len : Int32) (b_tok : Int32) (b_ki : Nat → Int32) (b_pl : Nat → Int32) (b_nu : Nat → Int32) (x_cl : Int32) (x_ln : Int32) (x_pt : Int32) (x_code : Nat → Int32) (e_fault : Int32) (e_place : Int32) (e_at : Int32) (e_law : Int32) (p1 : Int32) (o_r : Int32) (o_x_ln : Int32) (o_x_code : Nat → Int32) (o_e_fault : Int32) (o_e_place : Int32) (o_e_at : Int32) (hf : f_X5_either N b_len b_tok b_ki b_pl b_nu x_ln x_code e_fault e_place e_at e_law p1 = some (o_r, o_x_ln, o_x_code, o_e_fault, o_e_place, o_e_at)) : ∀ sz, Met l yX5_either (mw yX5_either cX5_either 3 (some .boolean)) ({ frames := 106, cells := 0, slots := 0, locals := 4160 } : Room) (mPreE D (mT cI cJ cZ cB cT) (W_RD_0_2t6_10 qb0 qb2 qb3 qb4 qx0 qx1 qe0 qb1 qx2 qx3 qx4 cI cJ cZ cB cT b_len b_tok b_ki b_pl b_nu x_cl x_ln x_pt x_code e_fault e_place e_at e_law) sz [.ref qe0, .int p1]) ((mQi D (W_RD_0_2t6_10 qb0 qb2 qb3 qb4 qx0 qx1 qe0 qb1 qx2 qx3 qx4 cI cJ cZ cB cT b_len b_tok b_ki b_pl b_nu x_cl o_x_ln x_pt o_x_code o_e_fault o_e_place o_e_at e_law) o_r (mB o_r)) (va_A (W_RD_0_2t6_10 qb0 qb2 qb3 qb4 qx0 qx1 qe0 qb1 qx2 qx3 qx4 cI cJ cZ cB cT b_len b_tok b_ki b_pl b_nu x_cl x_ln x_pt x_code e_fault e_place e_at e_law) sz)) 0 0 (va_A (W_RD_0_2t6_10 qb0 qb2 qb3 qb4 qx0 qx1 qe0 qb1 qx2 qx3 qx4 cI cJ cZ cB cT b_len b_tok b_ki b_pl b_nu x_cl x_ln x_pt x_code e_fault e_place e_at e_law) sz) :=
  (kg_RG l N D cI cJ cZ cB cT qb0 qb2 qb3 qb4 qx0 qx1 qe0 qb1 qx2 qx3 qx4 100).2.2.2.2.1 b_len b_tok b_ki b_pl b_nu x_cl x_ln x_pt x_code e_fault e_place e_at e_law p1 o_r o_x_ln o_x_code o_e_fault o_e_place o_e_at hf
def f_X5_both (N : Nat) (b_len : Int32) (b_tok : Int32) (b_ki : Nat → Int32) (b_pl : Nat → Int32) (b_nu : Nat → Int32) (x_ln : Int32) (x_code : Nat → Int32) (e_fault : Int32) (e_place : Int32) (e_at : Int32) (e_law : Int32) (p1 : Int32) : Option (Int32 × Int32 × (Nat → Int32) × Int32 × Int32 × Int32) := f_RG N 100 5 b_len b_tok b_ki b_pl b_nu x_ln x_code e_fault e_place e_at e_law p1
theorem k_X5_both (l : Launch) (N : Nat) (D : va_G) (cI cJ cZ cB cT : ClassId) (qb0 : Nat) (qb2 : Nat) (qb3 : Nat) (qb4 : Nat) (qx0 : Nat) (qx1 : Nat) (qe0 : Nat) (qb1 : Nat) (qx2 : Nat) (qx3 : Nat) (qx4 : Nat) (b_len : Int32) (b_tok : Int32) (b_ki : Nat → Int32) (b_pl : Nat → Int32) (b_nu : Nat → Int32) (x_cl : Int32) (x_ln : Int32) (x_pt : Int32) (x_code : Nat → Int32) (e_fault : Int32) (e_place : Int32) (e_at : Int32) (e_law : Int32) (p1 : Int32) (o_r : Int32) (o_x_ln : Int32) (o_x_code : Nat → Int32) (o_e_fault : Int32) (o_e_place : Int32) (o_e_at : Int32) (hf : f_X5_both N b_len b_tok b_ki b_pl b_nu x_ln x_code e_fault e_place e_at e_law p1 = some (o_r, o_x_ln, o_x_code, o_e_fault, o_e_place, o_e_at)) : ∀ sz, Met l yX5_both (mw yX5_both cX5_both 3 (some .boolean)) ({ frames := 106, cells := 0, slots := 0, locals := 4160 } : Room) (mPreE D (mT cI cJ cZ cB cT) (W_RD_0_2t6_10 qb0 qb2 qb3 qb4 qx0 qx1 qe0 qb1 qx2 qx3 qx4 cI cJ cZ cB cT b_len b_tok b_ki b_pl b_nu x_cl x_ln x_pt x_code e_fault e_place e_at e_law) sz [.ref qe0, .int p1]) ((mQi D (W_RD_0_2t6_10 qb0 qb2 qb3 qb4 qx0 qx1 qe0 qb1 qx2 qx3 qx4 cI cJ cZ cB cT b_len b_tok b_ki b_pl b_nu x_cl o_x_ln x_pt o_x_code o_e_fault o_e_place o_e_at e_law) o_r (mB o_r)) (va_A (W_RD_0_2t6_10 qb0 qb2 qb3 qb4 qx0 qx1 qe0 qb1 qx2 qx3 qx4 cI cJ cZ cB cT b_len b_tok b_ki b_pl b_nu x_cl x_ln x_pt x_code e_fault e_place e_at e_law) sz)) 0 0 (va_A (W_RD_0_2t6_10 qb0 qb2 qb3 qb4 qx0 qx1 qe0 qb1 qx2 qx3 qx4 cI cJ cZ cB cT b_len b_tok b_ki b_pl b_nu x_cl x_ln x_pt x_code e_fault e_place e_at e_law) sz) :=
  (kg_RG l N D cI cJ cZ cB cT qb0 qb2 qb3 qb4 qx0 qx1 qe0 qb1 qx2 qx3 qx4 100).2.2.2.2.2.1 b_len b_tok b_ki b_pl b_nu x_cl x_ln x_pt x_code e_fault e_place e_at e_law p1 o_r o_x_ln o_x_code o_e_fault o_e_place o_e_at hf
def f_X5_ask (N : Nat) (b_len : Int32) (b_tok : Int32) (b_ki : Nat → Int32) (b_pl : Nat → Int32) (b_nu : Nat → Int32) (x_ln : Int32) (x_code : Nat → Int32) (e_fault : Int32) (e_place : Int32) (e_at : Int32) (e_law : Int32) (p1 : Int32) : Option (Int32 × Int32 × (Nat → Int32) × Int32 × Int32 × Int32) := f_RG N 100 6 b_len b_tok b_ki b_pl b_nu x_ln x_code e_fault e_place e_at e_law p1
theorem k_X5_ask (l : Launch) (N : Nat) (D : va_G) (cI cJ cZ cB cT : ClassId) (qb0 : Nat) (qb2 : Nat) (qb3 : Nat) (qb4 : Nat) (qx0 : Nat) (qx1 : Nat) (qe0 : Nat) (qb1 : Nat) (qx2 : Nat) (qx3 : Nat) (qx4 : Nat) (b_len : Int32) (b_tok : Int32) (b_ki : Nat → Int32) (b_pl : Nat → Int32) (b_nu : Nat → Int32) (x_cl : Int32) (x_ln : Int32) (x_pt : Int32) (x_code : Nat → Int32) (e_fault : Int32) (e_place : Int32) (e_at : Int32) (e_law : Int32) (p1 : Int32) (o_r : Int32) (o_x_ln : Int32) (o_x_code : Nat → Int32) (o_e_fault : Int32) (o_e_place : Int32) (o_e_at : Int32) (hf : f_X5_ask N b_len b_tok b_ki b_pl b_nu x_ln x_code e_fault e_place e_at e_law p1 = some (o_r, o_x_ln, o_x_code, o_e_fault, o_e_place, o_e_at)) : ∀ sz, Met l yX5_ask (mw yX5_ask cX5_ask 3 (some .boolean)) ({ frames := 106, cells := 0, slots := 0, locals := 4160 } : Room) (mPreE D (mT cI cJ cZ cB cT) (W_RD_0_2t6_10 qb0 qb2 qb3 qb4 qx0 qx1 qe0 qb1 qx2 qx3 qx4 cI cJ cZ cB cT b_len b_tok b_ki b_pl b_nu x_cl x_ln x_pt x_code e_fault e_place e_at e_law) sz [.ref qe0, .int p1]) ((mQi D (W_RD_0_2t6_10 qb0 qb2 qb3 qb4 qx0 qx1 qe0 qb1 qx2 qx3 qx4 cI cJ cZ cB cT b_len b_tok b_ki b_pl b_nu x_cl o_x_ln x_pt o_x_code o_e_fault o_e_place o_e_at e_law) o_r (mB o_r)) (va_A (W_RD_0_2t6_10 qb0 qb2 qb3 qb4 qx0 qx1 qe0 qb1 qx2 qx3 qx4 cI cJ cZ cB cT b_len b_tok b_ki b_pl b_nu x_cl x_ln x_pt x_code e_fault e_place e_at e_law) sz)) 0 0 (va_A (W_RD_0_2t6_10 qb0 qb2 qb3 qb4 qx0 qx1 qe0 qb1 qx2 qx3 qx4 cI cJ cZ cB cT b_len b_tok b_ki b_pl b_nu x_cl x_ln x_pt x_code e_fault e_place e_at e_law) sz) :=
  (kg_RG l N D cI cJ cZ cB cT qb0 qb2 qb3 qb4 qx0 qx1 qe0 qb1 qx2 qx3 qx4 100).2.2.2.2.2.2 b_len b_tok b_ki b_pl b_nu x_cl x_ln x_pt x_code e_fault e_place e_at e_law p1 o_r o_x_ln o_x_code o_e_fault o_e_place o_e_at hf
theorem dX5_lawOf_0 : decode cX5_lawOf 0 = .ok (.aload_n 0, 1) := by decide +kernel
theorem dX5_lawOf_1 : decode cX5_lawOf 1 = .ok (.iload_n 1, 1) := by decide +kernel
theorem dX5_lawOf_2 : decode cX5_lawOf 2 = .ok (.putfield 25, 3) := by decide +kernel
theorem dX5_lawOf_5 : decode cX5_lawOf 5 = .ok (.aload_n 0, 1) := by decide +kernel
theorem dX5_lawOf_6 : decode cX5_lawOf 6 = .ok (.iconst 0, 1) := by decide +kernel
theorem dX5_lawOf_7 : decode cX5_lawOf 7 = .ok (.invokevirtual 81, 3) := by decide +kernel
theorem dX5_lawOf_10 : decode cX5_lawOf 10 = .ok (.ifCond .ne 5, 3) := by decide +kernel
theorem dX5_lawOf_13 : decode cX5_lawOf 13 = .ok (.iconst 0, 1) := by decide +kernel
theorem dX5_lawOf_14 : decode cX5_lawOf 14 = .ok (.ireturn, 1) := by decide +kernel
theorem dX5_lawOf_15 : decode cX5_lawOf 15 = .ok (.aload_n 0, 1) := by decide +kernel
theorem dX5_lawOf_16 : decode cX5_lawOf 16 = .ok (.getfield 18, 3) := by decide +kernel
theorem dX5_lawOf_19 : decode cX5_lawOf 19 = .ok (.iload_n 1, 1) := by decide +kernel
theorem dX5_lawOf_20 : decode cX5_lawOf 20 = .ok (.invokevirtual 84, 3) := by decide +kernel
theorem dX5_lawOf_23 : decode cX5_lawOf 23 = .ok (.iconst 1, 1) := by decide +kernel
theorem dX5_lawOf_24 : decode cX5_lawOf 24 = .ok (.ireturn, 1) := by decide +kernel
def f_X5_lawOf (N : Nat) (b_len : Int32) (b_tok : Int32) (b_ki : Nat → Int32) (b_pl : Nat → Int32) (b_nu : Nat → Int32) (x_ln : Int32) (x_code : Nat → Int32) (x_en : Nat → Int32) (e_fault : Int32) (e_place : Int32) (e_at : Int32) (e_law : Int32) (p1 : Int32) : Option (Int32 × Int32 × (Nat → Int32) × (Nat → Int32) × Int32 × Int32 × Int32 × Int32) := ob6 (f_X5_sum N b_len b_tok b_ki b_pl b_nu x_ln x_code e_fault e_place e_at p1 (0 : Int32)) fun r7 x_ln_7 x_code_7 e_fault_7 e_place_7 e_at_7 => if r7 = 0 then (some ((0 : Int32), x_ln_7, x_code_7, x_en, e_fault_7, e_place_7, e_at_7, p1)) else (ob1 (f_X9_closeLaw N x_ln_7 x_en p1) fun x_en_20 => some ((1 : Int32), x_ln_7, x_code_7, x_en_20, e_fault_7, e_place_7, e_at_7, p1))
set_option maxHeartbeats 4000000 in
set_option maxRecDepth 100000 in
theorem k_X5_lawOf (l : Launch) (N : Nat) (D : va_G) (cI cJ cZ cB cT : ClassId) (qb0 : Nat) (qb2 : Nat) (qb3 : Nat) (qb4 : Nat) (qx0 : Nat) (qx1 : Nat) (qx3 : Nat) (qe0 : Nat) (qb1 : Nat) (qx2 : Nat) (qx4 : Nat) (b_len : Int32) (b_tok : Int32) (b_ki : Nat → Int32) (b_pl : Nat → Int32) (b_nu : Nat → Int32) (x_cl : Int32) (x_ln : Int32) (x_pt : Int32) (x_code : Nat → Int32) (x_en : Nat → Int32) (e_fault : Int32) (e_place : Int32) (e_at : Int32) (e_law : Int32) (p1 : Int32) (o_r : Int32) (o_x_ln : Int32) (o_x_code : Nat → Int32) (o_x_en : Nat → Int32) (o_e_fault : Int32) (o_e_place : Int32) (o_e_at : Int32) (o_e_law : Int32) (hf : f_X5_lawOf N b_len b_tok b_ki b_pl b_nu x_ln x_code x_en e_fault e_place e_at e_law p1 = some (o_r, o_x_ln, o_x_code, o_x_en, o_e_fault, o_e_place, o_e_at, o_e_law)) : ∀ sz, Met l yX5_lawOf (mw yX5_lawOf cX5_lawOf 2 (some .boolean)) ({ frames := 107, cells := 0, slots := 0, locals := 4183 } : Room) (mPreE D (mT cI cJ cZ cB cT) (W_RD_0_2t6_8_10 qb0 qb2 qb3 qb4 qx0 qx1 qx3 qe0 qb1 qx2 qx4 cI cJ cZ cB cT b_len b_tok b_ki b_pl b_nu x_cl x_ln x_pt x_code x_en e_fault e_place e_at e_law) sz [.ref qe0, .int p1]) ((mQi D (W_RD_0_2t6_8_10 qb0 qb2 qb3 qb4 qx0 qx1 qx3 qe0 qb1 qx2 qx4 cI cJ cZ cB cT b_len b_tok b_ki b_pl b_nu x_cl o_x_ln x_pt o_x_code o_x_en o_e_fault o_e_place o_e_at o_e_law) o_r (mB o_r)) (va_A (W_RD_0_2t6_8_10 qb0 qb2 qb3 qb4 qx0 qx1 qx3 qe0 qb1 qx2 qx4 cI cJ cZ cB cT b_len b_tok b_ki b_pl b_nu x_cl x_ln x_pt x_code x_en e_fault e_place e_at e_law) sz)) 0 0 (va_A (W_RD_0_2t6_8_10 qb0 qb2 qb3 qb4 qx0 qx1 qx3 qe0 qb1 qx2 qx4 cI cJ cZ cB cT b_len b_tok b_ki b_pl b_nu x_cl x_ln x_pt x_code x_en e_fault e_place e_at e_law) sz) := by
  refine mMetE (Qc := (mQi D (W_RD_0_2t6_8_10 qb0 qb2 qb3 qb4 qx0 qx1 qx3 qe0 qb1 qx2 qx4 cI cJ cZ cB cT b_len b_tok b_ki b_pl b_nu x_cl o_x_ln x_pt o_x_code o_x_en o_e_fault o_e_place o_e_at o_e_law) o_r (mB o_r))) (by decide) (Nat.le_of_ble_eq_true rfl) (fun p e s m below meth c A ls hx hb hr hml hts hown hlocks hK hA hP hD hl hE => ?_)
  have hown : s.vm.findClass RX5 = some m.cls := hown
  have hl : lv_has ls 2 [(0, .ref qe0), (1, .int p1)] := hl
  have hS : va_S A s.heap s.heap [] := va_S.rf
  obtain ⟨⟨tM, hZM, hTM⟩, ⟨tL, hZL, hTL⟩, ⟨hNX4, hNX10⟩, tS, tV, hRS, hZC, hZF, hKS⟩ := id hE
  unfold f_X5_lawOf at hf
  refine lv_aload_n hx hb dX5_lawOf_0 rfl (lv_at hl 0 rfl) ?_
  refine lv_iload_n hx hb dX5_lawOf_1 rfl (lv_at hl 1 rfl) ?_
  refine pfX5_25 hx hb hts hown hK hP hD hS 7 rfl (Nat.le_of_ble_eq_true rfl) dX5_lawOf_2 (fun H locs hP hD hS => ?_)
  have hP : va_P D vwCl (W_RD_0_2t6_8_10 qb0 qb2 qb3 qb4 qx0 qx1 qx3 qe0 qb1 qx2 qx4 cI cJ cZ cB cT b_len b_tok b_ki b_pl b_nu x_cl x_ln x_pt x_code x_en e_fault e_place e_at p1) H := hP
  have hD : va_D A (W_RD_0_2t6_8_10 qb0 qb2 qb3 qb4 qx0 qx1 qx3 qe0 qb1 qx2 qx4 cI cJ cZ cB cT b_len b_tok b_ki b_pl b_nu x_cl x_ln x_pt x_code x_en e_fault e_place e_at p1) := hD
  refine lv_aload_n hx hb dX5_lawOf_5 rfl (lv_at hl 0 rfl) ?_
  refine lv_iconst (v := (0 : Int32)) hx hb dX5_lawOf_6 (by decide) ?_
  obtain ⟨r7, x_ln_7, x_code_7, e_fault_7, e_place_7, e_at_7, hg7, hf⟩ := ob6_some hf
  refine mcVE_i (wr := [(qx3, .inl (cI, 4, .inl x_en))]) (As := [.int (0 : Int32)]) (rest := []) hx hb hml hown hts hK hP hD hS hA hE (k_X5_sum l N D cI cJ cZ cB cT qb0 qb2 qb3 qb4 qx0 qx1 qe0 qb1 qx2 qx3 qx4 b_len b_tok b_ki b_pl b_nu x_cl x_ln x_pt x_code e_fault e_place e_at p1 (0 : Int32) r7 x_ln_7 x_code_7 e_fault_7 e_place_7 e_at_7 hg7) (kwX5_81 hts rfl rfl ⟨Nat.le_of_ble_eq_true rfl, Nat.le_of_ble_eq_true rfl⟩) [0, 1, 2, 3, 4, 5, 7] [6] rfl rfl rfl (by decide) rfl 6 rfl rfl rfl rfl hl.1 rfl (Nat.le_of_ble_eq_true rfl) dX5_lawOf_7 ⟨Nat.zero_le _, Nat.zero_le _⟩ (fun hB7 H locs hP hD hS => ?_)
  have hP := mP_sub (wc := (W_RD_0_2t6_8_10 qb0 qb2 qb3 qb4 qx0 qx1 qx3 qe0 qb1 qx2 qx4 cI cJ cZ cB cT b_len b_tok b_ki b_pl b_nu x_cl x_ln_7 x_pt x_code_7 x_en e_fault_7 e_place_7 e_at_7 p1)) hP [1, 2, 3, 4, 5, 6, 0, 7] rfl
  have hD := hD.sub (ws' := (W_RD_0_2t6_8_10 qb0 qb2 qb3 qb4 qx0 qx1 qx3 qe0 qb1 qx2 qx4 cI cJ cZ cB cT b_len b_tok b_ki b_pl b_nu x_cl x_ln_7 x_pt x_code_7 x_en e_fault_7 e_place_7 e_at_7 p1)) [1, 2, 3, 4, 5, 6, 0, 7] rfl rfl
  refine xif_ne hx hb 15 dX5_lawOf_10 (by decide) hf (fun hf => ?_) (fun hf => ?_)
  · refine lv_iconst (v := (0 : Int32)) hx hb dX5_lawOf_13 (by decide) ?_
    cases hf
    exact mret_z hx hb hr hlocks hP hD hS dX5_lawOf_14 rfl rfl
  · refine lv_aload_n hx hb dX5_lawOf_15 rfl (lv_at hl 0 rfl) ?_
    refine gfX5_18 hx hb hts hown hK hP 7 rfl rfl dX5_lawOf_16 ?_
    refine lv_iload_n hx hb dX5_lawOf_19 rfl (lv_at hl 1 rfl) ?_
    obtain ⟨x_en_20, hg20, hf⟩ := ob1_some hf
    refine mcV_v (wr := [(qb0, .inr (8, [.int b_len, .int b_tok, .ref qb1, .ref qb2, .ref qb3, .ref qb4])), (qb2, .inl (cI, 301, .inl b_ki)), (qb3, .inl (cI, 301, .inl b_pl)), (qb4, .inl (cI, 301, .inl b_nu)), (qx1, .inl (cI, 301, .inl x_code_7)), (qe0, .inr (5, [.int e_fault_7, .int e_place_7, .ref qb0, .ref qx0, .int e_at_7, .int p1]))]) (As := [.int p1]) (rest := []) hx hb hml hown hts hK hP hD hS hA (k_X9_closeLaw l N D cI cJ cZ cB cT qx0 qx3 qx1 qx2 qx4 x_cl x_ln_7 x_pt x_en p1 x_en_20 hg20) (kwX5_84 hts rfl rfl ⟨Nat.le_of_ble_eq_true rfl, Nat.le_of_ble_eq_true rfl⟩) [4, 6] [0, 1, 2, 3, 5, 7] rfl rfl rfl (by decide) rfl 0 rfl rfl rfl rfl hl.1 rfl (Nat.le_of_ble_eq_true rfl) dX5_lawOf_20 ⟨Nat.zero_le _, Nat.zero_le _⟩ (fun H locs hP hD hS => ?_)
    have hP := mP_sub (wc := (W_RD_0_2t6_8_10 qb0 qb2 qb3 qb4 qx0 qx1 qx3 qe0 qb1 qx2 qx4 cI cJ cZ cB cT b_len b_tok b_ki b_pl b_nu x_cl x_ln_7 x_pt x_code_7 x_en_20 e_fault_7 e_place_7 e_at_7 p1)) hP [0, 1, 2, 3, 6, 4, 7, 5] rfl
    have hD := hD.sub (ws' := (W_RD_0_2t6_8_10 qb0 qb2 qb3 qb4 qx0 qx1 qx3 qe0 qb1 qx2 qx4 cI cJ cZ cB cT b_len b_tok b_ki b_pl b_nu x_cl x_ln_7 x_pt x_code_7 x_en_20 e_fault_7 e_place_7 e_at_7 p1)) [0, 1, 2, 3, 6, 4, 7, 5] rfl rfl
    refine lv_iconst (v := (1 : Int32)) hx hb dX5_lawOf_23 (by decide) ?_
    cases hf
    exact mret_z hx hb hr hlocks hP hD hS dX5_lawOf_24 rfl rfl
theorem dX5_clause_0 : decode cX5_clause 0 = .ok (.aload_n 0, 1) := by decide +kernel
theorem dX5_clause_1 : decode cX5_clause 1 = .ok (.invokevirtual 42, 3) := by decide +kernel
theorem dX5_clause_4 : decode cX5_clause 4 = .ok (.istore_n 2, 1) := by decide +kernel
theorem dX5_clause_5 : decode cX5_clause 5 = .ok (.iload_n 2, 1) := by decide +kernel
theorem dX5_clause_6 : decode cX5_clause 6 = .ok (.ifCond .lt 9, 3) := by decide +kernel
theorem dX5_clause_9 : decode cX5_clause 9 = .ok (.iload_n 2, 1) := by decide +kernel
theorem dX5_clause_10 : decode cX5_clause 10 = .ok (.bipush 12, 2) := by decide +kernel
theorem dX5_clause_12 : decode cX5_clause 12 = .ok (.if_icmp .le 9, 3) := by decide +kernel
theorem dX5_clause_15 : decode cX5_clause 15 = .ok (.aload_n 0, 1) := by decide +kernel
theorem dX5_clause_16 : decode cX5_clause 16 = .ok (.iconst 1, 1) := by decide +kernel
theorem dX5_clause_17 : decode cX5_clause 17 = .ok (.invokevirtual 59, 3) := by decide +kernel
theorem dX5_clause_20 : decode cX5_clause 20 = .ok (.ireturn, 1) := by decide +kernel
theorem dX5_clause_21 : decode cX5_clause 21 = .ok (.iload_n 2, 1) := by decide +kernel
theorem dX5_clause_22 : decode cX5_clause 22 = .ok (.iconst 3, 1) := by decide +kernel
theorem dX5_clause_23 : decode cX5_clause 23 = .ok (.if_icmp .gt 20, 3) := by decide +kernel
theorem dX5_clause_26 : decode cX5_clause 26 = .ok (.aload_n 0, 1) := by decide +kernel
theorem dX5_clause_27 : decode cX5_clause 27 = .ok (.getfield 18, 3) := by decide +kernel
theorem dX5_clause_30 : decode cX5_clause 30 = .ok (.iload_n 2, 1) := by decide +kernel
theorem dX5_clause_31 : decode cX5_clause 31 = .ok (.invokevirtual 65, 3) := by decide +kernel
theorem dX5_clause_34 : decode cX5_clause 34 = .ok (.ifCond .eq 9, 3) := by decide +kernel
theorem dX5_clause_37 : decode cX5_clause 37 = .ok (.aload_n 0, 1) := by decide +kernel
theorem dX5_clause_38 : decode cX5_clause 38 = .ok (.iconst 4, 1) := by decide +kernel
theorem dX5_clause_39 : decode cX5_clause 39 = .ok (.invokevirtual 59, 3) := by decide +kernel
theorem dX5_clause_42 : decode cX5_clause 42 = .ok (.ireturn, 1) := by decide +kernel
theorem dX5_clause_43 : decode cX5_clause 43 = .ok (.iload_n 1, 1) := by decide +kernel
theorem dX5_clause_44 : decode cX5_clause 44 = .ok (.bipush 24, 2) := by decide +kernel
theorem dX5_clause_46 : decode cX5_clause 46 = .ok (.if_icmp .lt 10, 3) := by decide +kernel
theorem dX5_clause_49 : decode cX5_clause 49 = .ok (.aload_n 0, 1) := by decide +kernel
theorem dX5_clause_50 : decode cX5_clause 50 = .ok (.bipush 6, 2) := by decide +kernel
theorem dX5_clause_52 : decode cX5_clause 52 = .ok (.invokevirtual 59, 3) := by decide +kernel
theorem dX5_clause_55 : decode cX5_clause 55 = .ok (.ireturn, 1) := by decide +kernel
theorem dX5_clause_56 : decode cX5_clause 56 = .ok (.aload_n 0, 1) := by decide +kernel
theorem dX5_clause_57 : decode cX5_clause 57 = .ok (.getfield 18, 3) := by decide +kernel
theorem dX5_clause_60 : decode cX5_clause 60 = .ok (.iload_n 2, 1) := by decide +kernel
theorem dX5_clause_61 : decode cX5_clause 61 = .ok (.invokevirtual 68, 3) := by decide +kernel
theorem dX5_clause_64 : decode cX5_clause 64 = .ok (.aload_n 0, 1) := by decide +kernel
theorem dX5_clause_65 : decode cX5_clause 65 = .ok (.invokevirtual 62, 3) := by decide +kernel
theorem dX5_clause_68 : decode cX5_clause 68 = .ok (.iload_n 2, 1) := by decide +kernel
theorem dX5_clause_69 : decode cX5_clause 69 = .ok (.iconst 3, 1) := by decide +kernel
theorem dX5_clause_70 : decode cX5_clause 70 = .ok (.if_icmp .gt 11, 3) := by decide +kernel
theorem dX5_clause_73 : decode cX5_clause 73 = .ok (.aload_n 0, 1) := by decide +kernel
theorem dX5_clause_74 : decode cX5_clause 74 = .ok (.iload_n 2, 1) := by decide +kernel
theorem dX5_clause_75 : decode cX5_clause 75 = .ok (.invokevirtual 72, 3) := by decide +kernel
theorem dX5_clause_78 : decode cX5_clause 78 = .ok (.goto 8, 3) := by decide +kernel
theorem dX5_clause_81 : decode cX5_clause 81 = .ok (.aload_n 0, 1) := by decide +kernel
theorem dX5_clause_82 : decode cX5_clause 82 = .ok (.iload_n 2, 1) := by decide +kernel
theorem dX5_clause_83 : decode cX5_clause 83 = .ok (.invokevirtual 75, 3) := by decide +kernel
theorem dX5_clause_86 : decode cX5_clause 86 = .ok (.istore_n 3, 1) := by decide +kernel
theorem dX5_clause_87 : decode cX5_clause 87 = .ok (.iload_n 3, 1) := by decide +kernel
theorem dX5_clause_88 : decode cX5_clause 88 = .ok (.ifCond .eq 16, 3) := by decide +kernel
theorem dX5_clause_91 : decode cX5_clause 91 = .ok (.aload_n 0, 1) := by decide +kernel
theorem dX5_clause_92 : decode cX5_clause 92 = .ok (.bipush 45, 2) := by decide +kernel
theorem dX5_clause_94 : decode cX5_clause 94 = .ok (.invokevirtual 78, 3) := by decide +kernel
theorem dX5_clause_97 : decode cX5_clause 97 = .ok (.ifCond .eq 7, 3) := by decide +kernel
theorem dX5_clause_100 : decode cX5_clause 100 = .ok (.iconst 1, 1) := by decide +kernel
theorem dX5_clause_101 : decode cX5_clause 101 = .ok (.goto 4, 3) := by decide +kernel
theorem dX5_clause_104 : decode cX5_clause 104 = .ok (.iconst 0, 1) := by decide +kernel
theorem dX5_clause_105 : decode cX5_clause 105 = .ok (.ireturn, 1) := by decide +kernel
def f_X5_clause_15 (N : Nat) (b_len : Int32) (b_tok : Int32) (b_ki : Nat → Int32) (b_pl : Nat → Int32) (b_nu : Nat → Int32) (x_cl : Int32) (x_ln : Int32) (x_pt : Int32) (x_code : Nat → Int32) (x_st : Nat → Int32) (x_en : Nat → Int32) (x_rows : Nat → Int32) (e_fault : Int32) (e_place : Int32) (e_at : Int32) (e_law : Int32) : Option (Int32 × Int32 × Int32 × Int32 × (Nat → Int32) × (Nat → Int32) × (Nat → Int32) × (Nat → Int32) × Int32 × Int32 × Int32 × Int32) := ob3 (f_X5_fail N b_len b_tok b_pl e_fault e_place e_at (1 : Int32)) fun r17 e_fault_17 e_place_17 => some (r17, x_cl, x_ln, x_pt, x_code, x_st, x_en, x_rows, e_fault_17, e_place_17, e_at, e_law)
def f_X5_clause_86 (N : Nat) (b_len : Int32) (b_tok : Int32) (b_ki : Nat → Int32) (b_pl : Nat → Int32) (b_nu : Nat → Int32) (x_cl : Int32) (x_ln : Int32) (x_pt : Int32) (x_code : Nat → Int32) (x_st : Nat → Int32) (x_en : Nat → Int32) (x_rows : Nat → Int32) (e_fault : Int32) (e_place : Int32) (e_at : Int32) (e_law : Int32) (s0 : Int32) : Option (Int32 × Int32 × Int32 × Int32 × (Nat → Int32) × (Nat → Int32) × (Nat → Int32) × (Nat → Int32) × Int32 × Int32 × Int32 × Int32) := if s0 = 0 then (some ((0 : Int32), x_cl, x_ln, x_pt, x_code, x_st, x_en, x_rows, e_fault, e_place, e_at, e_law)) else (ob4 (f_X5_expect N b_len b_tok b_ki b_pl e_fault e_place e_at (45 : Int32)) fun r94 e_fault_94 e_place_94 e_at_94 => if r94 = 0 then (some ((0 : Int32), x_cl, x_ln, x_pt, x_code, x_st, x_en, x_rows, e_fault_94, e_place_94, e_at_94, e_law)) else (some ((1 : Int32), x_cl, x_ln, x_pt, x_code, x_st, x_en, x_rows, e_fault_94, e_place_94, e_at_94, e_law)))
def f_X5_clause_43 (N : Nat) (b_len : Int32) (b_tok : Int32) (b_ki : Nat → Int32) (b_pl : Nat → Int32) (b_nu : Nat → Int32) (x_cl : Int32) (x_ln : Int32) (x_pt : Int32) (x_code : Nat → Int32) (x_st : Nat → Int32) (x_en : Nat → Int32) (x_rows : Nat → Int32) (e_fault : Int32) (e_place : Int32) (e_at : Int32) (e_law : Int32) (x1 : Int32) (x2 : Int32) : Option (Int32 × Int32 × Int32 × Int32 × (Nat → Int32) × (Nat → Int32) × (Nat → Int32) × (Nat → Int32) × Int32 × Int32 × Int32 × Int32) := if x1 < (24 : Int32) then (ob4 (f_X9_openClause N x_cl x_ln x_pt x_st x_rows x2) fun x_cl_61 x_pt_61 x_st_61 x_rows_61 => ob1 (f_X5_next N b_tok e_at) fun e_at_65 => if (3 : Int32) < x2 then (ob6 (f_X5_deedOf N b_len b_tok b_ki b_pl b_nu x_cl_61 x_pt_61 x_rows_61 e_fault e_place e_at_65 x2) fun r83 x_pt_83 x_rows_83 e_fault_83 e_place_83 e_at_83 => f_X5_clause_86 N b_len b_tok b_ki b_pl b_nu x_cl_61 x_ln x_pt_83 x_code x_st_61 x_en x_rows_83 e_fault_83 e_place_83 e_at_83 e_law r83) else (ob8 (f_X5_lawOf N b_len b_tok b_ki b_pl b_nu x_ln x_code x_en e_fault e_place e_at_65 e_law x2) fun r75 x_ln_75 x_code_75 x_en_75 e_fault_75 e_place_75 e_at_75 e_law_75 => f_X5_clause_86 N b_len b_tok b_ki b_pl b_nu x_cl_61 x_ln_75 x_pt_61 x_code_75 x_st_61 x_en_75 x_rows_61 e_fault_75 e_place_75 e_at_75 e_law_75 r75)) else (ob3 (f_X5_fail N b_len b_tok b_pl e_fault e_place e_at (6 : Int32)) fun r52 e_fault_52 e_place_52 => some (r52, x_cl, x_ln, x_pt, x_code, x_st, x_en, x_rows, e_fault_52, e_place_52, e_at, e_law))
def f_X5_clause (N : Nat) (b_len : Int32) (b_tok : Int32) (b_ki : Nat → Int32) (b_pl : Nat → Int32) (b_nu : Nat → Int32) (x_cl : Int32) (x_ln : Int32) (x_pt : Int32) (x_code : Nat → Int32) (x_st : Nat → Int32) (x_en : Nat → Int32) (x_rows : Nat → Int32) (e_fault : Int32) (e_place : Int32) (e_at : Int32) (e_law : Int32) (p1 : Int32) : Option (Int32 × Int32 × Int32 × Int32 × (Nat → Int32) × (Nat → Int32) × (Nat → Int32) × (Nat → Int32) × Int32 × Int32 × Int32 × Int32) := ob1 (f_X5_token N b_tok b_ki e_at) fun r1 => if r1 < 0 then (f_X5_clause_15 N b_len b_tok b_ki b_pl b_nu x_cl x_ln x_pt x_code x_st x_en x_rows e_fault e_place e_at e_law) else (if r1 ≤ (12 : Int32) then (if (3 : Int32) < r1 then (f_X5_clause_43 N b_len b_tok b_ki b_pl b_nu x_cl x_ln x_pt x_code x_st x_en x_rows e_fault e_place e_at e_law p1 r1) else (ob1 (f_X9_begun N x_st r1) fun r31 => if r31 = 0 then (f_X5_clause_43 N b_len b_tok b_ki b_pl b_nu x_cl x_ln x_pt x_code x_st x_en x_rows e_fault e_place e_at e_law p1 r1) else (ob3 (f_X5_fail N b_len b_tok b_pl e_fault e_place e_at (4 : Int32)) fun r39 e_fault_39 e_place_39 => some (r39, x_cl, x_ln, x_pt, x_code, x_st, x_en, x_rows, e_fault_39, e_place_39, e_at, e_law)))) else (f_X5_clause_15 N b_len b_tok b_ki b_pl b_nu x_cl x_ln x_pt x_code x_st x_en x_rows e_fault e_place e_at e_law))
set_option maxHeartbeats 4000000 in
set_option maxRecDepth 100000 in
theorem k_X5_clause (l : Launch) (N : Nat) (D : va_G) (cI cJ cZ cB cT : ClassId) (qb0 : Nat) (qb2 : Nat) (qb3 : Nat) (qb4 : Nat) (qx0 : Nat) (qx1 : Nat) (qx2 : Nat) (qx3 : Nat) (qx4 : Nat) (qe0 : Nat) (qb1 : Nat) (b_len : Int32) (b_tok : Int32) (b_ki : Nat → Int32) (b_pl : Nat → Int32) (b_nu : Nat → Int32) (x_cl : Int32) (x_ln : Int32) (x_pt : Int32) (x_code : Nat → Int32) (x_st : Nat → Int32) (x_en : Nat → Int32) (x_rows : Nat → Int32) (e_fault : Int32) (e_place : Int32) (e_at : Int32) (e_law : Int32) (p1 : Int32) (o_r : Int32) (o_x_cl : Int32) (o_x_ln : Int32) (o_x_pt : Int32) (o_x_code : Nat → Int32) (o_x_st : Nat → Int32) (o_x_en : Nat → Int32) (o_x_rows : Nat → Int32) (o_e_fault : Int32) (o_e_place : Int32) (o_e_at : Int32) (o_e_law : Int32) (hf : f_X5_clause N b_len b_tok b_ki b_pl b_nu x_cl x_ln x_pt x_code x_st x_en x_rows e_fault e_place e_at e_law p1 = some (o_r, o_x_cl, o_x_ln, o_x_pt, o_x_code, o_x_st, o_x_en, o_x_rows, o_e_fault, o_e_place, o_e_at, o_e_law)) : ∀ sz, Met l yX5_clause (mw yX5_clause cX5_clause 4 (some .boolean)) ({ frames := 108, cells := 0, slots := 0, locals := 4204 } : Room) (mPreE D (mT cI cJ cZ cB cT) (W_RD_0_2t10 qb0 qb2 qb3 qb4 qx0 qx1 qx2 qx3 qx4 qe0 qb1 cI cJ cZ cB cT b_len b_tok b_ki b_pl b_nu x_cl x_ln x_pt x_code x_st x_en x_rows e_fault e_place e_at e_law) sz [.ref qe0, .int p1]) ((mQi D (W_RD_0_2t10 qb0 qb2 qb3 qb4 qx0 qx1 qx2 qx3 qx4 qe0 qb1 cI cJ cZ cB cT b_len b_tok b_ki b_pl b_nu o_x_cl o_x_ln o_x_pt o_x_code o_x_st o_x_en o_x_rows o_e_fault o_e_place o_e_at o_e_law) o_r (mB o_r)) (va_A (W_RD_0_2t10 qb0 qb2 qb3 qb4 qx0 qx1 qx2 qx3 qx4 qe0 qb1 cI cJ cZ cB cT b_len b_tok b_ki b_pl b_nu x_cl x_ln x_pt x_code x_st x_en x_rows e_fault e_place e_at e_law) sz)) 0 0 (va_A (W_RD_0_2t10 qb0 qb2 qb3 qb4 qx0 qx1 qx2 qx3 qx4 qe0 qb1 cI cJ cZ cB cT b_len b_tok b_ki b_pl b_nu x_cl x_ln x_pt x_code x_st x_en x_rows e_fault e_place e_at e_law) sz) := by
  refine mMetE (Qc := (mQi D (W_RD_0_2t10 qb0 qb2 qb3 qb4 qx0 qx1 qx2 qx3 qx4 qe0 qb1 cI cJ cZ cB cT b_len b_tok b_ki b_pl b_nu o_x_cl o_x_ln o_x_pt o_x_code o_x_st o_x_en o_x_rows o_e_fault o_e_place o_e_at o_e_law) o_r (mB o_r))) (by decide) (Nat.le_of_ble_eq_true rfl) (fun p e s m below meth c A ls hx hb hr hml hts hown hlocks hK hA hP hD hl hE => ?_)
  have hown : s.vm.findClass RX5 = some m.cls := hown
  have hl : lv_has ls 4 [(0, .ref qe0), (1, .int p1)] := hl
  have hS : va_S A s.heap s.heap [] := va_S.rf
  obtain ⟨⟨tM, hZM, hTM⟩, ⟨tL, hZL, hTL⟩, ⟨hNX4, hNX10⟩, tS, tV, hRS, hZC, hZF, hKS⟩ := id hE
  have b15 : ∀ (x_cl : Int32) (x_ln : Int32) (x_pt : Int32) (x_code : Nat → Int32) (x_st : Nat → Int32) (x_en : Nat → Int32) (x_rows : Nat → Int32) (e_fault : Int32) (e_place : Int32) (e_at : Int32) (e_law : Int32) (H : Heap) (locs : List Loc) (ls : Array Slot), f_X5_clause_15 N b_len b_tok b_ki b_pl b_nu x_cl x_ln x_pt x_code x_st x_en x_rows e_fault e_place e_at e_law = some (o_r, o_x_cl, o_x_ln, o_x_pt, o_x_code, o_x_st, o_x_en, o_x_rows, o_e_fault, o_e_place, o_e_at, o_e_law) → va_P D vwCl (W_RD_0_2t10 qb0 qb2 qb3 qb4 qx0 qx1 qx2 qx3 qx4 qe0 qb1 cI cJ cZ cB cT b_len b_tok b_ki b_pl b_nu x_cl x_ln x_pt x_code x_st x_en x_rows e_fault e_place e_at e_law) H → va_D A (W_RD_0_2t10 qb0 qb2 qb3 qb4 qx0 qx1 qx2 qx3 qx4 qe0 qb1 cI cJ cZ cB cT b_len b_tok b_ki b_pl b_nu x_cl x_ln x_pt x_code x_st x_en x_rows e_fault e_place e_at e_law) → va_S A s.heap H locs → lv_has ls 4 [(0, .ref qe0)] → W p l e ({ frames := 108, cells := 0, slots := 0, locals := 4204 } : Room) s m ([.ref qe0, .int p1] : List Value).toArray below meth c H locs 0 0 (MQ below ((mQi D (W_RD_0_2t10 qb0 qb2 qb3 qb4 qx0 qx1 qx2 qx3 qx4 qe0 qb1 cI cJ cZ cB cT b_len b_tok b_ki b_pl b_nu o_x_cl o_x_ln o_x_pt o_x_code o_x_st o_x_en o_x_rows o_e_fault o_e_place o_e_at o_e_law) o_r (mB o_r)) A) ([.ref qe0, .int p1] : List Value).toArray s 0 0 A) (F0 m 15 ls []) := by
    intro x_cl x_ln x_pt x_code x_st x_en x_rows e_fault e_place e_at e_law H locs ls hf hP hD hS hl
    unfold f_X5_clause_15 at hf
    refine lv_aload_n hx hb dX5_clause_15 rfl (lv_at hl 0 rfl) ?_
    refine lv_iconst (v := (1 : Int32)) hx hb dX5_clause_16 (by decide) ?_
    obtain ⟨r17, e_fault_17, e_place_17, hg17, hf⟩ := ob3_some hf
    refine mcV_i (wr := [(qb2, .inl (cI, 301, .inl b_ki)), (qb4, .inl (cI, 301, .inl b_nu)), (qx0, .inr (9, [.int x_cl, .int x_ln, .int x_pt, .ref qx1, .ref qx2, .ref qx3, .ref qx4])), (qx1, .inl (cI, 301, .inl x_code)), (qx2, .inl (cI, 4, .inl x_st)), (qx3, .inl (cI, 4, .inl x_en)), (qx4, .inl (cI, 120, .inl x_rows))]) (As := [.int (1 : Int32)]) (rest := []) hx hb hml hown hts hK hP hD hS hA (k_X5_fail l N D cI cJ cZ cB cT qb0 qb3 qe0 qb1 qb2 qb4 qx0 b_len b_tok b_pl e_fault e_place e_at e_law (1 : Int32) r17 e_fault_17 e_place_17 hg17) (kwX5_59 hts rfl rfl ⟨Nat.le_of_ble_eq_true rfl, Nat.le_of_ble_eq_true rfl⟩) [0, 2, 9] [1, 3, 4, 5, 6, 7, 8] rfl rfl rfl (by decide) rfl 2 rfl rfl rfl rfl hl.1 rfl (Nat.le_of_ble_eq_true rfl) dX5_clause_17 ⟨Nat.zero_le _, Nat.zero_le _⟩ (fun hB17 H locs hP hD hS => ?_)
    have hP := mP_sub (wc := (W_RD_0_2t10 qb0 qb2 qb3 qb4 qx0 qx1 qx2 qx3 qx4 qe0 qb1 cI cJ cZ cB cT b_len b_tok b_ki b_pl b_nu x_cl x_ln x_pt x_code x_st x_en x_rows e_fault_17 e_place_17 e_at e_law)) hP [7, 0, 8, 1, 2, 3, 4, 5, 6, 9] rfl
    have hD := hD.sub (ws' := (W_RD_0_2t10 qb0 qb2 qb3 qb4 qx0 qx1 qx2 qx3 qx4 qe0 qb1 cI cJ cZ cB cT b_len b_tok b_ki b_pl b_nu x_cl x_ln x_pt x_code x_st x_en x_rows e_fault_17 e_place_17 e_at e_law)) [7, 0, 8, 1, 2, 3, 4, 5, 6, 9] rfl rfl
    cases hf
    exact mret_z hx hb hr hlocks hP hD hS dX5_clause_20 rfl hB17
  have b86 : ∀ (x_cl : Int32) (x_ln : Int32) (x_pt : Int32) (x_code : Nat → Int32) (x_st : Nat → Int32) (x_en : Nat → Int32) (x_rows : Nat → Int32) (e_fault : Int32) (e_place : Int32) (e_at : Int32) (e_law : Int32) (s0 : Int32) (H : Heap) (locs : List Loc) (ls : Array Slot), f_X5_clause_86 N b_len b_tok b_ki b_pl b_nu x_cl x_ln x_pt x_code x_st x_en x_rows e_fault e_place e_at e_law s0 = some (o_r, o_x_cl, o_x_ln, o_x_pt, o_x_code, o_x_st, o_x_en, o_x_rows, o_e_fault, o_e_place, o_e_at, o_e_law) → va_P D vwCl (W_RD_0_2t10 qb0 qb2 qb3 qb4 qx0 qx1 qx2 qx3 qx4 qe0 qb1 cI cJ cZ cB cT b_len b_tok b_ki b_pl b_nu x_cl x_ln x_pt x_code x_st x_en x_rows e_fault e_place e_at e_law) H → va_D A (W_RD_0_2t10 qb0 qb2 qb3 qb4 qx0 qx1 qx2 qx3 qx4 qe0 qb1 cI cJ cZ cB cT b_len b_tok b_ki b_pl b_nu x_cl x_ln x_pt x_code x_st x_en x_rows e_fault e_place e_at e_law) → va_S A s.heap H locs → lv_has ls 4 [(0, .ref qe0)] → W p l e ({ frames := 108, cells := 0, slots := 0, locals := 4204 } : Room) s m ([.ref qe0, .int p1] : List Value).toArray below meth c H locs 0 0 (MQ below ((mQi D (W_RD_0_2t10 qb0 qb2 qb3 qb4 qx0 qx1 qx2 qx3 qx4 qe0 qb1 cI cJ cZ cB cT b_len b_tok b_ki b_pl b_nu o_x_cl o_x_ln o_x_pt o_x_code o_x_st o_x_en o_x_rows o_e_fault o_e_place o_e_at o_e_law) o_r (mB o_r)) A) ([.ref qe0, .int p1] : List Value).toArray s 0 0 A) (F0 m 86 ls [.int s0]) := by
    intro x_cl x_ln x_pt x_code x_st x_en x_rows e_fault e_place e_at e_law s0 H locs ls hf hP hD hS hl
    unfold f_X5_clause_86 at hf
    refine lv_istore_n (lv' := [(3, .int s0), (0, .ref qe0)]) hx hb dX5_clause_86 rfl hl (by decide) rfl (fun ls hl => ?_)
    refine lv_iload_n hx hb dX5_clause_87 rfl (lv_at hl 0 rfl) ?_
    refine xif_eq hx hb 104 dX5_clause_88 (by decide) hf (fun hf => ?_) (fun hf => ?_)
    · refine lv_iconst (v := (0 : Int32)) hx hb dX5_clause_104 (by decide) ?_
      cases hf
      exact mret_z hx hb hr hlocks hP hD hS dX5_clause_105 rfl rfl
    · refine lv_aload_n hx hb dX5_clause_91 rfl (lv_at hl 1 rfl) ?_
      refine lv_bipush (v := (45 : Int32)) hx hb dX5_clause_92 (by decide) ?_
      obtain ⟨r94, e_fault_94, e_place_94, e_at_94, hg94, hf⟩ := ob4_some hf
      refine mcV_i (wr := [(qb4, .inl (cI, 301, .inl b_nu)), (qx0, .inr (9, [.int x_cl, .int x_ln, .int x_pt, .ref qx1, .ref qx2, .ref qx3, .ref qx4])), (qx1, .inl (cI, 301, .inl x_code)), (qx2, .inl (cI, 4, .inl x_st)), (qx3, .inl (cI, 4, .inl x_en)), (qx4, .inl (cI, 120, .inl x_rows))]) (As := [.int (45 : Int32)]) (rest := []) hx hb hml hown hts hK hP hD hS hA (k_X5_expect l N D cI cJ cZ cB cT qb0 qb2 qb3 qe0 qb1 qb4 qx0 b_len b_tok b_ki b_pl e_fault e_place e_at e_law (45 : Int32) r94 e_fault_94 e_place_94 e_at_94 hg94) (kwX5_78 hts rfl rfl ⟨Nat.le_of_ble_eq_true rfl, Nat.le_of_ble_eq_true rfl⟩) [0, 1, 2, 9] [3, 4, 5, 6, 7, 8] rfl rfl rfl (by decide) rfl 3 rfl rfl rfl rfl hl.1 rfl (Nat.le_of_ble_eq_true rfl) dX5_clause_94 ⟨Nat.zero_le _, Nat.zero_le _⟩ (fun hB94 H locs hP hD hS => ?_)
      have hP := mP_sub (wc := (W_RD_0_2t10 qb0 qb2 qb3 qb4 qx0 qx1 qx2 qx3 qx4 qe0 qb1 cI cJ cZ cB cT b_len b_tok b_ki b_pl b_nu x_cl x_ln x_pt x_code x_st x_en x_rows e_fault_94 e_place_94 e_at_94 e_law)) hP [6, 7, 8, 0, 1, 2, 3, 4, 5, 9] rfl
      have hD := hD.sub (ws' := (W_RD_0_2t10 qb0 qb2 qb3 qb4 qx0 qx1 qx2 qx3 qx4 qe0 qb1 cI cJ cZ cB cT b_len b_tok b_ki b_pl b_nu x_cl x_ln x_pt x_code x_st x_en x_rows e_fault_94 e_place_94 e_at_94 e_law)) [6, 7, 8, 0, 1, 2, 3, 4, 5, 9] rfl rfl
      refine xif_eq hx hb 104 dX5_clause_97 (by decide) hf (fun hf => ?_) (fun hf => ?_)
      · refine lv_iconst (v := (0 : Int32)) hx hb dX5_clause_104 (by decide) ?_
        cases hf
        exact mret_z hx hb hr hlocks hP hD hS dX5_clause_105 rfl rfl
      · refine lv_iconst (v := (1 : Int32)) hx hb dX5_clause_100 (by decide) ?_
        refine lv_goto (tgt := 105) hx hb dX5_clause_101 (by decide) ?_
        cases hf
        exact mret_z hx hb hr hlocks hP hD hS dX5_clause_105 rfl rfl
  have b43 : ∀ (x_cl : Int32) (x_ln : Int32) (x_pt : Int32) (x_code : Nat → Int32) (x_st : Nat → Int32) (x_en : Nat → Int32) (x_rows : Nat → Int32) (e_fault : Int32) (e_place : Int32) (e_at : Int32) (e_law : Int32) (x1 : Int32) (x2 : Int32) (H : Heap) (locs : List Loc) (ls : Array Slot), f_X5_clause_43 N b_len b_tok b_ki b_pl b_nu x_cl x_ln x_pt x_code x_st x_en x_rows e_fault e_place e_at e_law x1 x2 = some (o_r, o_x_cl, o_x_ln, o_x_pt, o_x_code, o_x_st, o_x_en, o_x_rows, o_e_fault, o_e_place, o_e_at, o_e_law) → va_P D vwCl (W_RD_0_2t10 qb0 qb2 qb3 qb4 qx0 qx1 qx2 qx3 qx4 qe0 qb1 cI cJ cZ cB cT b_len b_tok b_ki b_pl b_nu x_cl x_ln x_pt x_code x_st x_en x_rows e_fault e_place e_at e_law) H → va_D A (W_RD_0_2t10 qb0 qb2 qb3 qb4 qx0 qx1 qx2 qx3 qx4 qe0 qb1 cI cJ cZ cB cT b_len b_tok b_ki b_pl b_nu x_cl x_ln x_pt x_code x_st x_en x_rows e_fault e_place e_at e_law) → va_S A s.heap H locs → lv_has ls 4 [(0, .ref qe0), (1, .int x1), (2, .int x2)] → W p l e ({ frames := 108, cells := 0, slots := 0, locals := 4204 } : Room) s m ([.ref qe0, .int p1] : List Value).toArray below meth c H locs 0 0 (MQ below ((mQi D (W_RD_0_2t10 qb0 qb2 qb3 qb4 qx0 qx1 qx2 qx3 qx4 qe0 qb1 cI cJ cZ cB cT b_len b_tok b_ki b_pl b_nu o_x_cl o_x_ln o_x_pt o_x_code o_x_st o_x_en o_x_rows o_e_fault o_e_place o_e_at o_e_law) o_r (mB o_r)) A) ([.ref qe0, .int p1] : List Value).toArray s 0 0 A) (F0 m 43 ls []) := by
    intro x_cl x_ln x_pt x_code x_st x_en x_rows e_fault e_place e_at e_law x1 x2 H locs ls hf hP hD hS hl
    unfold f_X5_clause_43 at hf
    refine lv_iload_n hx hb dX5_clause_43 rfl (lv_at hl 1 rfl) ?_
    refine lv_bipush (v := (24 : Int32)) hx hb dX5_clause_44 (by decide) ?_
    refine xicmp_lt hx hb 56 dX5_clause_46 (by decide) hf (fun hf => ?_) (fun hf => ?_)
    · refine lv_aload_n hx hb dX5_clause_56 rfl (lv_at hl 0 rfl) ?_
      refine gfX5_18 hx hb hts hown hK hP 9 rfl rfl dX5_clause_57 ?_
      refine lv_iload_n hx hb dX5_clause_60 rfl (lv_at hl 2 rfl) ?_
      obtain ⟨x_cl_61, x_pt_61, x_st_61, x_rows_61, hg61, hf⟩ := ob4_some hf
      refine mcV_v (wr := [(qb0, .inr (8, [.int b_len, .int b_tok, .ref qb1, .ref qb2, .ref qb3, .ref qb4])), (qb2, .inl (cI, 301, .inl b_ki)), (qb3, .inl (cI, 301, .inl b_pl)), (qb4, .inl (cI, 301, .inl b_nu)), (qx1, .inl (cI, 301, .inl x_code)), (qx3, .inl (cI, 4, .inl x_en)), (qe0, .inr (5, [.int e_fault, .int e_place, .ref qb0, .ref qx0, .int e_at, .int e_law]))]) (As := [.int x2]) (rest := []) hx hb hml hown hts hK hP hD hS hA (k_X9_openClause l N D cI cJ cZ cB cT qx0 qx2 qx4 qx1 qx3 x_cl x_ln x_pt x_st x_rows x2 x_cl_61 x_pt_61 x_st_61 x_rows_61 hg61) (kwX5_68 hts rfl rfl ⟨Nat.le_of_ble_eq_true rfl, Nat.le_of_ble_eq_true rfl⟩) [4, 6, 8] [0, 1, 2, 3, 5, 7, 9] rfl rfl rfl (by decide) rfl 0 rfl rfl rfl rfl hl.1 rfl (Nat.le_of_ble_eq_true rfl) dX5_clause_61 ⟨Nat.zero_le _, Nat.zero_le _⟩ (fun H locs hP hD hS => ?_)
      have hP := mP_sub (wc := (W_RD_0_2t10 qb0 qb2 qb3 qb4 qx0 qx1 qx2 qx3 qx4 qe0 qb1 cI cJ cZ cB cT b_len b_tok b_ki b_pl b_nu x_cl_61 x_ln x_pt_61 x_code x_st_61 x_en x_rows_61 e_fault e_place e_at e_law)) hP [0, 1, 2, 3, 7, 4, 8, 5, 9, 6] rfl
      have hD := hD.sub (ws' := (W_RD_0_2t10 qb0 qb2 qb3 qb4 qx0 qx1 qx2 qx3 qx4 qe0 qb1 cI cJ cZ cB cT b_len b_tok b_ki b_pl b_nu x_cl_61 x_ln x_pt_61 x_code x_st_61 x_en x_rows_61 e_fault e_place e_at e_law)) [0, 1, 2, 3, 7, 4, 8, 5, 9, 6] rfl rfl
      refine lv_aload_n hx hb dX5_clause_64 rfl (lv_at hl 0 rfl) ?_
      obtain ⟨e_at_65, hg65, hf⟩ := ob1_some hf
      refine mcV_v (wr := [(qb2, .inl (cI, 301, .inl b_ki)), (qb3, .inl (cI, 301, .inl b_pl)), (qb4, .inl (cI, 301, .inl b_nu)), (qx0, .inr (9, [.int x_cl_61, .int x_ln, .int x_pt_61, .ref qx1, .ref qx2, .ref qx3, .ref qx4])), (qx1, .inl (cI, 301, .inl x_code)), (qx2, .inl (cI, 4, .inl x_st_61)), (qx3, .inl (cI, 4, .inl x_en)), (qx4, .inl (cI, 120, .inl x_rows_61))]) (As := []) (rest := []) hx hb hml hown hts hK hP hD hS hA (k_X5_next l N D cI cJ cZ cB cT qb0 qe0 qb1 qb2 qb3 qb4 qx0 b_len b_tok e_fault e_place e_at e_law e_at_65 hg65) (kwX5_62 hts rfl rfl ⟨Nat.le_of_ble_eq_true rfl, Nat.le_of_ble_eq_true rfl⟩) [0, 9] [1, 2, 3, 4, 5, 6, 7, 8] rfl rfl rfl (by decide) rfl 1 rfl rfl rfl rfl hl.1 rfl (Nat.le_of_ble_eq_true rfl) dX5_clause_65 ⟨Nat.zero_le _, Nat.zero_le _⟩ (fun H locs hP hD hS => ?_)
      have hP := mP_sub (wc := (W_RD_0_2t10 qb0 qb2 qb3 qb4 qx0 qx1 qx2 qx3 qx4 qe0 qb1 cI cJ cZ cB cT b_len b_tok b_ki b_pl b_nu x_cl_61 x_ln x_pt_61 x_code x_st_61 x_en x_rows_61 e_fault e_place e_at_65 e_law)) hP [8, 0, 1, 2, 3, 4, 5, 6, 7, 9] rfl
      have hD := hD.sub (ws' := (W_RD_0_2t10 qb0 qb2 qb3 qb4 qx0 qx1 qx2 qx3 qx4 qe0 qb1 cI cJ cZ cB cT b_len b_tok b_ki b_pl b_nu x_cl_61 x_ln x_pt_61 x_code x_st_61 x_en x_rows_61 e_fault e_place e_at_65 e_law)) [8, 0, 1, 2, 3, 4, 5, 6, 7, 9] rfl rfl
      refine lv_iload_n hx hb dX5_clause_68 rfl (lv_at hl 2 rfl) ?_
      refine lv_iconst (v := (3 : Int32)) hx hb dX5_clause_69 (by decide) ?_
      refine xicmp_gt hx hb 81 dX5_clause_70 (by decide) hf (fun hf => ?_) (fun hf => ?_)
      · refine lv_aload_n hx hb dX5_clause_81 rfl (lv_at hl 0 rfl) ?_
        refine lv_iload_n hx hb dX5_clause_82 rfl (lv_at hl 2 rfl) ?_
        obtain ⟨r83, x_pt_83, x_rows_83, e_fault_83, e_place_83, e_at_83, hg83, hf⟩ := ob6_some hf
        refine mcV_i (wr := [(qx1, .inl (cI, 301, .inl x_code)), (qx2, .inl (cI, 4, .inl x_st_61)), (qx3, .inl (cI, 4, .inl x_en))]) (As := [.int x2]) (rest := []) hx hb hml hown hts hK hP hD hS hA (k_X5_deedOf l N D cI cJ cZ cB cT qb0 qb2 qb3 qb4 qx0 qx4 qe0 qb1 qx1 qx2 qx3 b_len b_tok b_ki b_pl b_nu x_cl_61 x_ln x_pt_61 x_rows_61 e_fault e_place e_at_65 e_law x2 r83 x_pt_83 x_rows_83 e_fault_83 e_place_83 e_at_83 hg83) (kwX5_75 hts rfl rfl ⟨Nat.le_of_ble_eq_true rfl, Nat.le_of_ble_eq_true rfl⟩) [0, 1, 2, 3, 4, 8, 9] [5, 6, 7] rfl rfl rfl (by decide) rfl 6 rfl rfl rfl rfl hl.1 rfl (Nat.le_of_ble_eq_true rfl) dX5_clause_83 ⟨Nat.zero_le _, Nat.zero_le _⟩ (fun hB83 H locs hP hD hS => ?_)
        have hP := mP_sub (wc := (W_RD_0_2t10 qb0 qb2 qb3 qb4 qx0 qx1 qx2 qx3 qx4 qe0 qb1 cI cJ cZ cB cT b_len b_tok b_ki b_pl b_nu x_cl_61 x_ln x_pt_83 x_code x_st_61 x_en x_rows_83 e_fault_83 e_place_83 e_at_83 e_law)) hP [3, 4, 5, 6, 7, 0, 1, 2, 8, 9] rfl
        have hD := hD.sub (ws' := (W_RD_0_2t10 qb0 qb2 qb3 qb4 qx0 qx1 qx2 qx3 qx4 qe0 qb1 cI cJ cZ cB cT b_len b_tok b_ki b_pl b_nu x_cl_61 x_ln x_pt_83 x_code x_st_61 x_en x_rows_83 e_fault_83 e_place_83 e_at_83 e_law)) [3, 4, 5, 6, 7, 0, 1, 2, 8, 9] rfl rfl
        exact b86 x_cl_61 x_ln x_pt_83 x_code x_st_61 x_en x_rows_83 e_fault_83 e_place_83 e_at_83 e_law r83 _ _ _ hf hP hD hS (lv_sub hl [0] rfl)
      · refine lv_aload_n hx hb dX5_clause_73 rfl (lv_at hl 0 rfl) ?_
        refine lv_iload_n hx hb dX5_clause_74 rfl (lv_at hl 2 rfl) ?_
        obtain ⟨r75, x_ln_75, x_code_75, x_en_75, e_fault_75, e_place_75, e_at_75, e_law_75, hg75, hf⟩ := ob8_some hf
        refine mcVE_i (wr := [(qx2, .inl (cI, 4, .inl x_st_61)), (qx4, .inl (cI, 120, .inl x_rows_61))]) (As := [.int x2]) (rest := []) hx hb hml hown hts hK hP hD hS hA hE (k_X5_lawOf l N D cI cJ cZ cB cT qb0 qb2 qb3 qb4 qx0 qx1 qx3 qe0 qb1 qx2 qx4 b_len b_tok b_ki b_pl b_nu x_cl_61 x_ln x_pt_61 x_code x_en e_fault e_place e_at_65 e_law x2 r75 x_ln_75 x_code_75 x_en_75 e_fault_75 e_place_75 e_at_75 e_law_75 hg75) (kwX5_72 hts rfl rfl ⟨Nat.le_of_ble_eq_true rfl, Nat.le_of_ble_eq_true rfl⟩) [0, 1, 2, 3, 4, 5, 7, 9] [6, 8] rfl rfl rfl (by decide) rfl 7 rfl rfl rfl rfl hl.1 rfl (Nat.le_of_ble_eq_true rfl) dX5_clause_75 ⟨Nat.zero_le _, Nat.zero_le _⟩ (fun hB75 H locs hP hD hS => ?_)
        have hP := mP_sub (wc := (W_RD_0_2t10 qb0 qb2 qb3 qb4 qx0 qx1 qx2 qx3 qx4 qe0 qb1 cI cJ cZ cB cT b_len b_tok b_ki b_pl b_nu x_cl_61 x_ln_75 x_pt_61 x_code_75 x_st_61 x_en_75 x_rows_61 e_fault_75 e_place_75 e_at_75 e_law_75)) hP [2, 3, 4, 5, 6, 7, 0, 8, 1, 9] rfl
        have hD := hD.sub (ws' := (W_RD_0_2t10 qb0 qb2 qb3 qb4 qx0 qx1 qx2 qx3 qx4 qe0 qb1 cI cJ cZ cB cT b_len b_tok b_ki b_pl b_nu x_cl_61 x_ln_75 x_pt_61 x_code_75 x_st_61 x_en_75 x_rows_61 e_fault_75 e_place_75 e_at_75 e_law_75)) [2, 3, 4, 5, 6, 7, 0, 8, 1, 9] rfl rfl
        refine lv_goto (tgt := 86) hx hb dX5_clause_78 (by decide) ?_
        exact b86 x_cl_61 x_ln_75 x_pt_61 x_code_75 x_st_61 x_en_75 x_rows_61 e_fault_75 e_place_75 e_at_75 e_law_75 r75 _ _ _ hf hP hD hS (lv_sub hl [0] rfl)
    · refine lv_aload_n hx hb dX5_clause_49 rfl (lv_at hl 0 rfl) ?_
      refine lv_bipush (v := (6 : Int32)) hx hb dX5_clause_50 (by decide) ?_
      obtain ⟨r52, e_fault_52, e_place_52, hg52, hf⟩ := ob3_some hf
      refine mcV_i (wr := [(qb2, .inl (cI, 301, .inl b_ki)), (qb4, .inl (cI, 301, .inl b_nu)), (qx0, .inr (9, [.int x_cl, .int x_ln, .int x_pt, .ref qx1, .ref qx2, .ref qx3, .ref qx4])), (qx1, .inl (cI, 301, .inl x_code)), (qx2, .inl (cI, 4, .inl x_st)), (qx3, .inl (cI, 4, .inl x_en)), (qx4, .inl (cI, 120, .inl x_rows))]) (As := [.int (6 : Int32)]) (rest := []) hx hb hml hown hts hK hP hD hS hA (k_X5_fail l N D cI cJ cZ cB cT qb0 qb3 qe0 qb1 qb2 qb4 qx0 b_len b_tok b_pl e_fault e_place e_at e_law (6 : Int32) r52 e_fault_52 e_place_52 hg52) (kwX5_59 hts rfl rfl ⟨Nat.le_of_ble_eq_true rfl, Nat.le_of_ble_eq_true rfl⟩) [0, 2, 9] [1, 3, 4, 5, 6, 7, 8] rfl rfl rfl (by decide) rfl 2 rfl rfl rfl rfl hl.1 rfl (Nat.le_of_ble_eq_true rfl) dX5_clause_52 ⟨Nat.zero_le _, Nat.zero_le _⟩ (fun hB52 H locs hP hD hS => ?_)
      have hP := mP_sub (wc := (W_RD_0_2t10 qb0 qb2 qb3 qb4 qx0 qx1 qx2 qx3 qx4 qe0 qb1 cI cJ cZ cB cT b_len b_tok b_ki b_pl b_nu x_cl x_ln x_pt x_code x_st x_en x_rows e_fault_52 e_place_52 e_at e_law)) hP [7, 0, 8, 1, 2, 3, 4, 5, 6, 9] rfl
      have hD := hD.sub (ws' := (W_RD_0_2t10 qb0 qb2 qb3 qb4 qx0 qx1 qx2 qx3 qx4 qe0 qb1 cI cJ cZ cB cT b_len b_tok b_ki b_pl b_nu x_cl x_ln x_pt x_code x_st x_en x_rows e_fault_52 e_place_52 e_at e_law)) [7, 0, 8, 1, 2, 3, 4, 5, 6, 9] rfl rfl
      cases hf
      exact mret_z hx hb hr hlocks hP hD hS dX5_clause_55 rfl hB52
  unfold f_X5_clause at hf
  refine lv_aload_n hx hb dX5_clause_0 rfl (lv_at hl 0 rfl) ?_
  obtain ⟨r1, hg1, hf⟩ := ob1_some hf
  refine mcV_i (wr := [(qb3, .inl (cI, 301, .inl b_pl)), (qb4, .inl (cI, 301, .inl b_nu)), (qx0, .inr (9, [.int x_cl, .int x_ln, .int x_pt, .ref qx1, .ref qx2, .ref qx3, .ref qx4])), (qx1, .inl (cI, 301, .inl x_code)), (qx2, .inl (cI, 4, .inl x_st)), (qx3, .inl (cI, 4, .inl x_en)), (qx4, .inl (cI, 120, .inl x_rows))]) (As := []) (rest := []) hx hb hml hown hts hK hP hD hS hA (k_X5_token l N D cI cJ cZ cB cT qb0 qb2 qe0 qb1 qb3 qb4 qx0 b_len b_tok b_ki e_fault e_place e_at e_law r1 hg1) (kwX5_42 hts rfl rfl ⟨Nat.le_of_ble_eq_true rfl, Nat.le_of_ble_eq_true rfl⟩) [0, 1, 9] [2, 3, 4, 5, 6, 7, 8] rfl rfl rfl (by decide) rfl 2 rfl rfl rfl rfl hl.1 rfl (Nat.le_of_ble_eq_true rfl) dX5_clause_1 ⟨Nat.zero_le _, Nat.zero_le _⟩ (fun hB1 H locs hP hD hS => ?_)
  have hP := mP_sub (wc := (W_RD_0_2t10 qb0 qb2 qb3 qb4 qx0 qx1 qx2 qx3 qx4 qe0 qb1 cI cJ cZ cB cT b_len b_tok b_ki b_pl b_nu x_cl x_ln x_pt x_code x_st x_en x_rows e_fault e_place e_at e_law)) hP [7, 8, 0, 1, 2, 3, 4, 5, 6, 9] rfl
  have hD := hD.sub (ws' := (W_RD_0_2t10 qb0 qb2 qb3 qb4 qx0 qx1 qx2 qx3 qx4 qe0 qb1 cI cJ cZ cB cT b_len b_tok b_ki b_pl b_nu x_cl x_ln x_pt x_code x_st x_en x_rows e_fault e_place e_at e_law)) [7, 8, 0, 1, 2, 3, 4, 5, 6, 9] rfl rfl
  refine lv_istore_n (lv' := [(2, .int r1), (0, .ref qe0), (1, .int p1)]) hx hb dX5_clause_4 rfl hl (by decide) rfl (fun ls hl => ?_)
  refine lv_iload_n hx hb dX5_clause_5 rfl (lv_at hl 0 rfl) ?_
  refine xif_lt hx hb 15 dX5_clause_6 (by decide) hf (fun hf => ?_) (fun hf => ?_)
  · exact b15 x_cl x_ln x_pt x_code x_st x_en x_rows e_fault e_place e_at e_law _ _ _ hf hP hD hS (lv_sub hl [1] rfl)
  · refine lv_iload_n hx hb dX5_clause_9 rfl (lv_at hl 0 rfl) ?_
    refine lv_bipush (v := (12 : Int32)) hx hb dX5_clause_10 (by decide) ?_
    refine xicmp_le hx hb 21 dX5_clause_12 (by decide) hf (fun hf => ?_) (fun hf => ?_)
    · refine lv_iload_n hx hb dX5_clause_21 rfl (lv_at hl 0 rfl) ?_
      refine lv_iconst (v := (3 : Int32)) hx hb dX5_clause_22 (by decide) ?_
      refine xicmp_gt hx hb 43 dX5_clause_23 (by decide) hf (fun hf => ?_) (fun hf => ?_)
      · exact b43 x_cl x_ln x_pt x_code x_st x_en x_rows e_fault e_place e_at e_law p1 r1 _ _ _ hf hP hD hS (lv_sub hl [1, 2, 0] rfl)
      · refine lv_aload_n hx hb dX5_clause_26 rfl (lv_at hl 1 rfl) ?_
        refine gfX5_18 hx hb hts hown hK hP 9 rfl rfl dX5_clause_27 ?_
        refine lv_iload_n hx hb dX5_clause_30 rfl (lv_at hl 0 rfl) ?_
        obtain ⟨r31, hg31, hf⟩ := ob1_some hf
        refine mcV_i (wr := [(qb0, .inr (8, [.int b_len, .int b_tok, .ref qb1, .ref qb2, .ref qb3, .ref qb4])), (qb2, .inl (cI, 301, .inl b_ki)), (qb3, .inl (cI, 301, .inl b_pl)), (qb4, .inl (cI, 301, .inl b_nu)), (qx1, .inl (cI, 301, .inl x_code)), (qx3, .inl (cI, 4, .inl x_en)), (qx4, .inl (cI, 120, .inl x_rows)), (qe0, .inr (5, [.int e_fault, .int e_place, .ref qb0, .ref qx0, .int e_at, .int e_law]))]) (As := [.int r1]) (rest := []) hx hb hml hown hts hK hP hD hS hA (k_X9_begun l N D cI cJ cZ cB cT qx0 qx2 qx1 qx3 qx4 x_cl x_ln x_pt x_st r1 r31 hg31) (kwX5_65 hts rfl rfl ⟨Nat.le_of_ble_eq_true rfl, Nat.le_of_ble_eq_true rfl⟩) [4, 6] [0, 1, 2, 3, 5, 7, 8, 9] rfl rfl rfl (by decide) rfl 0 rfl rfl rfl rfl hl.1 rfl (Nat.le_of_ble_eq_true rfl) dX5_clause_31 ⟨Nat.zero_le _, Nat.zero_le _⟩ (fun hB31 H locs hP hD hS => ?_)
        have hP := mP_sub (wc := (W_RD_0_2t10 qb0 qb2 qb3 qb4 qx0 qx1 qx2 qx3 qx4 qe0 qb1 cI cJ cZ cB cT b_len b_tok b_ki b_pl b_nu x_cl x_ln x_pt x_code x_st x_en x_rows e_fault e_place e_at e_law)) hP [0, 1, 2, 3, 8, 4, 9, 5, 6, 7] rfl
        have hD := hD.sub (ws' := (W_RD_0_2t10 qb0 qb2 qb3 qb4 qx0 qx1 qx2 qx3 qx4 qe0 qb1 cI cJ cZ cB cT b_len b_tok b_ki b_pl b_nu x_cl x_ln x_pt x_code x_st x_en x_rows e_fault e_place e_at e_law)) [0, 1, 2, 3, 8, 4, 9, 5, 6, 7] rfl rfl
        refine xif_eq hx hb 43 dX5_clause_34 (by decide) hf (fun hf => ?_) (fun hf => ?_)
        · exact b43 x_cl x_ln x_pt x_code x_st x_en x_rows e_fault e_place e_at e_law p1 r1 _ _ _ hf hP hD hS (lv_sub hl [1, 2, 0] rfl)
        · refine lv_aload_n hx hb dX5_clause_37 rfl (lv_at hl 1 rfl) ?_
          refine lv_iconst (v := (4 : Int32)) hx hb dX5_clause_38 (by decide) ?_
          obtain ⟨r39, e_fault_39, e_place_39, hg39, hf⟩ := ob3_some hf
          refine mcV_i (wr := [(qb2, .inl (cI, 301, .inl b_ki)), (qb4, .inl (cI, 301, .inl b_nu)), (qx0, .inr (9, [.int x_cl, .int x_ln, .int x_pt, .ref qx1, .ref qx2, .ref qx3, .ref qx4])), (qx1, .inl (cI, 301, .inl x_code)), (qx2, .inl (cI, 4, .inl x_st)), (qx3, .inl (cI, 4, .inl x_en)), (qx4, .inl (cI, 120, .inl x_rows))]) (As := [.int (4 : Int32)]) (rest := []) hx hb hml hown hts hK hP hD hS hA (k_X5_fail l N D cI cJ cZ cB cT qb0 qb3 qe0 qb1 qb2 qb4 qx0 b_len b_tok b_pl e_fault e_place e_at e_law (4 : Int32) r39 e_fault_39 e_place_39 hg39) (kwX5_59 hts rfl rfl ⟨Nat.le_of_ble_eq_true rfl, Nat.le_of_ble_eq_true rfl⟩) [0, 2, 9] [1, 3, 4, 5, 6, 7, 8] rfl rfl rfl (by decide) rfl 2 rfl rfl rfl rfl hl.1 rfl (Nat.le_of_ble_eq_true rfl) dX5_clause_39 ⟨Nat.zero_le _, Nat.zero_le _⟩ (fun hB39 H locs hP hD hS => ?_)
          have hP := mP_sub (wc := (W_RD_0_2t10 qb0 qb2 qb3 qb4 qx0 qx1 qx2 qx3 qx4 qe0 qb1 cI cJ cZ cB cT b_len b_tok b_ki b_pl b_nu x_cl x_ln x_pt x_code x_st x_en x_rows e_fault_39 e_place_39 e_at e_law)) hP [7, 0, 8, 1, 2, 3, 4, 5, 6, 9] rfl
          have hD := hD.sub (ws' := (W_RD_0_2t10 qb0 qb2 qb3 qb4 qx0 qx1 qx2 qx3 qx4 qe0 qb1 cI cJ cZ cB cT b_len b_tok b_ki b_pl b_nu x_cl x_ln x_pt x_code x_st x_en x_rows e_fault_39 e_place_39 e_at e_law)) [7, 0, 8, 1, 2, 3, 4, 5, 6, 9] rfl rfl
          cases hf
          exact mret_z hx hb hr hlocks hP hD hS dX5_clause_42 rfl hB39
    · exact b15 x_cl x_ln x_pt x_code x_st x_en x_rows e_fault e_place e_at e_law _ _ _ hf hP hD hS (lv_sub hl [1] rfl)
