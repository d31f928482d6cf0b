theorem d_Reader_sum_9 : decode cX4_sum 9 = .ok (.iconst 0, 1) := by decide +kernel
theorem d_Reader_sum_10 : decode cX4_sum 10 = .ok (.ireturn, 1) := by decide +kernel
theorem d_Reader_sum_11 : decode cX4_sum 11 = .ok (.iconst 0, 1) := by decide +kernel
theorem d_Reader_sum_12 : decode cX4_sum 12 = .ok (.istore_n 2, 1) := by decide +kernel
theorem d_Reader_sum_13 : decode cX4_sum 13 = .ok (.iload_n 2, 1) := by decide +kernel
theorem d_Reader_sum_14 : decode cX4_sum 14 = .ok (.sipush 400, 3) := by decide +kernel
theorem d_Reader_sum_17 : decode cX4_sum 17 = .ok (.if_icmp .gt 144, 3) := by decide +kernel
theorem d_Reader_sum_20 : decode cX4_sum 20 = .ok (.aload_n 0, 1) := by decide +kernel
theorem d_Reader_sum_21 : decode cX4_sum 21 = .ok (.getfield 50, 3) := by decide +kernel
theorem d_Reader_sum_24 : decode cX4_sum 24 = .ok (.sipush 10000, 3) := by decide +kernel
theorem d_Reader_sum_27 : decode cX4_sum 27 = .ok (.isub, 1) := by decide +kernel
theorem d_Reader_sum_28 : decode cX4_sum 28 = .ok (.istore_n 3, 1) := by decide +kernel
theorem d_Reader_sum_29 : decode cX4_sum 29 = .ok (.iload_n 3, 1) := by decide +kernel
theorem d_Reader_sum_30 : decode cX4_sum 30 = .ok (.bipush 42, 2) := by decide +kernel
theorem d_Reader_sum_32 : decode cX4_sum 32 = .ok (.if_icmp .eq 9, 3) := by decide +kernel
theorem d_Reader_sum_35 : decode cX4_sum 35 = .ok (.iload_n 3, 1) := by decide +kernel
theorem d_Reader_sum_36 : decode cX4_sum 36 = .ok (.bipush 47, 2) := by decide +kernel
theorem d_Reader_sum_38 : decode cX4_sum 38 = .ok (.if_icmp .ne 7, 3) := by decide +kernel
theorem d_Reader_sum_41 : decode cX4_sum 41 = .ok (.iconst 1, 1) := by decide +kernel
theorem d_Reader_sum_42 : decode cX4_sum 42 = .ok (.goto 4, 3) := by decide +kernel
theorem d_Reader_sum_45 : decode cX4_sum 45 = .ok (.iconst 0, 1) := by decide +kernel
theorem d_Reader_sum_46 : decode cX4_sum 46 = .ok (.istore 4, 2) := by decide +kernel
theorem d_Reader_sum_48 : decode cX4_sum 48 = .ok (.iload 4, 2) := by decide +kernel
theorem d_Reader_sum_50 : decode cX4_sum 50 = .ok (.ifCond .ne 15, 3) := by decide +kernel
theorem d_Reader_sum_53 : decode cX4_sum 53 = .ok (.iload_n 1, 1) := by decide +kernel
theorem d_Reader_sum_54 : decode cX4_sum 54 = .ok (.ifCond .eq 11, 3) := by decide +kernel
theorem d_Reader_sum_57 : decode cX4_sum 57 = .ok (.aload_n 0, 1) := by decide +kernel
theorem d_Reader_sum_58 : decode cX4_sum 58 = .ok (.getfield 28, 3) := by decide +kernel
theorem d_Reader_sum_61 : decode cX4_sum 61 = .ok (.iload_n 1, 1) := by decide +kernel
theorem d_Reader_sum_62 : decode cX4_sum 62 = .ok (.invokevirtual 141, 3) := by decide +kernel
theorem d_Reader_sum_65 : decode cX4_sum 65 = .ok (.iload 4, 2) := by decide +kernel
theorem d_Reader_sum_67 : decode cX4_sum 67 = .ok (.ifCond .ne 17, 3) := by decide +kernel
theorem d_Reader_sum_70 : decode cX4_sum 70 = .ok (.iload_n 3, 1) := by decide +kernel
theorem d_Reader_sum_71 : decode cX4_sum 71 = .ok (.bipush 43, 2) := by decide +kernel
theorem d_Reader_sum_73 : decode cX4_sum 73 = .ok (.if_icmp .eq 11, 3) := by decide +kernel
theorem d_Reader_sum_76 : decode cX4_sum 76 = .ok (.iload_n 3, 1) := by decide +kernel
theorem d_Reader_sum_77 : decode cX4_sum 77 = .ok (.bipush 45, 2) := by decide +kernel
theorem d_Reader_sum_79 : decode cX4_sum 79 = .ok (.if_icmp .eq 5, 3) := by decide +kernel
theorem d_Reader_sum_82 : decode cX4_sum 82 = .ok (.iconst 1, 1) := by decide +kernel
theorem d_Reader_sum_83 : decode cX4_sum 83 = .ok (.ireturn, 1) := by decide +kernel
theorem d_Reader_sum_84 : decode cX4_sum 84 = .ok (.aload_n 0, 1) := by decide +kernel
theorem d_Reader_sum_85 : decode cX4_sum 85 = .ok (.invokevirtual 106, 3) := by decide +kernel
theorem d_Reader_sum_88 : decode cX4_sum 88 = .ok (.iload_n 3, 1) := by decide +kernel
theorem d_Reader_sum_89 : decode cX4_sum 89 = .ok (.bipush 47, 2) := by decide +kernel
theorem d_Reader_sum_91 : decode cX4_sum 91 = .ok (.if_icmp .ne 13, 3) := by decide +kernel
theorem d_Reader_sum_94 : decode cX4_sum 94 = .ok (.aload_n 0, 1) := by decide +kernel
theorem d_Reader_sum_95 : decode cX4_sum 95 = .ok (.invokevirtual 148, 3) := by decide +kernel
theorem d_Reader_sum_98 : decode cX4_sum 98 = .ok (.ifCond .eq 13, 3) := by decide +kernel
theorem d_Reader_sum_101 : decode cX4_sum 101 = .ok (.goto 12, 3) := by decide +kernel
theorem d_Reader_sum_104 : decode cX4_sum 104 = .ok (.aload_n 0, 1) := by decide +kernel
theorem d_Reader_sum_105 : decode cX4_sum 105 = .ok (.invokevirtual 145, 3) := by decide +kernel
theorem d_Reader_sum_108 : decode cX4_sum 108 = .ok (.ifCond .ne 5, 3) := by decide +kernel
theorem d_Reader_sum_111 : decode cX4_sum 111 = .ok (.iconst 0, 1) := by decide +kernel
theorem d_Reader_sum_112 : decode cX4_sum 112 = .ok (.ireturn, 1) := by decide +kernel
theorem d_Reader_sum_113 : decode cX4_sum 113 = .ok (.iload 4, 2) := by decide +kernel
theorem d_Reader_sum_115 : decode cX4_sum 115 = .ok (.ifCond .eq 26, 3) := by decide +kernel
theorem d_Reader_sum_118 : decode cX4_sum 118 = .ok (.aload_n 0, 1) := by decide +kernel
theorem d_Reader_sum_119 : decode cX4_sum 119 = .ok (.getfield 28, 3) := by decide +kernel
theorem d_Reader_sum_122 : decode cX4_sum 122 = .ok (.iload_n 3, 1) := by decide +kernel
theorem d_Reader_sum_123 : decode cX4_sum 123 = .ok (.bipush 42, 2) := by decide +kernel
theorem d_Reader_sum_125 : decode cX4_sum 125 = .ok (.if_icmp .ne 8, 3) := by decide +kernel
theorem d_Reader_sum_128 : decode cX4_sum 128 = .ok (.bipush (-13), 2) := by decide +kernel
theorem d_Reader_sum_130 : decode cX4_sum 130 = .ok (.goto 5, 3) := by decide +kernel
theorem d_Reader_sum_133 : decode cX4_sum 133 = .ok (.bipush (-14), 2) := by decide +kernel
theorem d_Reader_sum_135 : decode cX4_sum 135 = .ok (.invokevirtual 141, 3) := by decide +kernel
theorem d_Reader_sum_138 : decode cX4_sum 138 = .ok (.goto 17, 3) := by decide +kernel
theorem d_Reader_sum_141 : decode cX4_sum 141 = .ok (.iload_n 3, 1) := by decide +kernel
theorem d_Reader_sum_142 : decode cX4_sum 142 = .ok (.bipush 43, 2) := by decide +kernel
theorem d_Reader_sum_144 : decode cX4_sum 144 = .ok (.if_icmp .ne 8, 3) := by decide +kernel
theorem d_Reader_sum_147 : decode cX4_sum 147 = .ok (.bipush (-11), 2) := by decide +kernel
theorem d_Reader_sum_149 : decode cX4_sum 149 = .ok (.goto 5, 3) := by decide +kernel
theorem d_Reader_sum_152 : decode cX4_sum 152 = .ok (.bipush (-12), 2) := by decide +kernel
theorem d_Reader_sum_154 : decode cX4_sum 154 = .ok (.istore_n 1, 1) := by decide +kernel
theorem d_Reader_sum_155 : decode cX4_sum 155 = .ok (.iinc 2 1, 3) := by decide +kernel
theorem d_Reader_sum_158 : decode cX4_sum 158 = .ok (.goto (-145), 3) := by decide +kernel
theorem d_Reader_sum_161 : decode cX4_sum 161 = .ok (.iconst 0, 1) := by decide +kernel
theorem d_Reader_sum_162 : decode cX4_sum 162 = .ok (.ireturn, 1) := by decide +kernel
theorem d_Reader_pass_0 : decode cX4_pass 0 = .ok (.aload_n 0, 1) := by decide +kernel
theorem d_Reader_pass_1 : decode cX4_pass 1 = .ok (.getfield 50, 3) := by decide +kernel
theorem d_Reader_pass_4 : decode cX4_pass 4 = .ok (.iload_n 1, 1) := by decide +kernel
theorem d_Reader_pass_5 : decode cX4_pass 5 = .ok (.if_icmp .eq 9, 3) := by decide +kernel
theorem d_Reader_pass_8 : decode cX4_pass 8 = .ok (.aload_n 0, 1) := by decide +kernel
theorem d_Reader_pass_9 : decode cX4_pass 9 = .ok (.iconst 1, 1) := by decide +kernel
theorem d_Reader_pass_10 : decode cX4_pass 10 = .ok (.invokevirtual 103, 3) := by decide +kernel
theorem d_Reader_pass_13 : decode cX4_pass 13 = .ok (.ireturn, 1) := by decide +kernel
theorem d_Reader_pass_14 : decode cX4_pass 14 = .ok (.aload_n 0, 1) := by decide +kernel
theorem d_Reader_pass_15 : decode cX4_pass 15 = .ok (.invokevirtual 106, 3) := by decide +kernel
theorem d_Reader_pass_18 : decode cX4_pass 18 = .ok (.iconst 1, 1) := by decide +kernel
theorem d_Reader_pass_19 : decode cX4_pass 19 = .ok (.ireturn, 1) := by decide +kernel
theorem d_Reader_single_0 : decode cX4_single 0 = .ok (.aload_n 0, 1) := by decide +kernel
theorem d_Reader_single_1 : decode cX4_single 1 = .ok (.getfield 50, 3) := by decide +kernel
theorem d_Reader_single_4 : decode cX4_single 4 = .ok (.sipush 20022, 3) := by decide +kernel
theorem d_Reader_single_7 : decode cX4_single 7 = .ok (.if_icmp .ne 7, 3) := by decide +kernel
theorem d_Reader_single_10 : decode cX4_single 10 = .ok (.iconst 1, 1) := by decide +kernel
theorem d_Reader_single_11 : decode cX4_single 11 = .ok (.goto 4, 3) := by decide +kernel
theorem d_Reader_single_14 : decode cX4_single 14 = .ok (.iconst 0, 1) := by decide +kernel
theorem d_Reader_single_15 : decode cX4_single 15 = .ok (.istore_n 2, 1) := by decide +kernel
theorem d_Reader_single_16 : decode cX4_single 16 = .ok (.iload_n 2, 1) := by decide +kernel
theorem d_Reader_single_17 : decode cX4_single 17 = .ok (.ifCond .ne 13, 3) := by decide +kernel
theorem d_Reader_single_20 : decode cX4_single 20 = .ok (.aload_n 0, 1) := by decide +kernel
theorem d_Reader_single_21 : decode cX4_single 21 = .ok (.getfield 50, 3) := by decide +kernel
theorem d_Reader_single_24 : decode cX4_single 24 = .ok (.sipush 10040, 3) := by decide +kernel
theorem d_Reader_single_27 : decode cX4_single 27 = .ok (.if_icmp .ne 72, 3) := by decide +kernel
theorem d_Reader_single_30 : decode cX4_single 30 = .ok (.iload_n 1, 1) := by decide +kernel
theorem d_Reader_single_31 : decode cX4_single 31 = .ok (.bipush 8, 2) := by decide +kernel
theorem d_Reader_single_33 : decode cX4_single 33 = .ok (.if_icmp .lt 9, 3) := by decide +kernel
theorem d_Reader_single_36 : decode cX4_single 36 = .ok (.aload_n 0, 1) := by decide +kernel
theorem d_Reader_single_37 : decode cX4_single 37 = .ok (.iconst 3, 1) := by decide +kernel
theorem d_Reader_single_38 : decode cX4_single 38 = .ok (.invokevirtual 103, 3) := by decide +kernel
theorem d_Reader_single_41 : decode cX4_single 41 = .ok (.ireturn, 1) := by decide +kernel
theorem d_Reader_single_42 : decode cX4_single 42 = .ok (.aload_n 0, 1) := by decide +kernel
theorem d_Reader_single_43 : decode cX4_single 43 = .ok (.invokevirtual 106, 3) := by decide +kernel
theorem d_Reader_single_46 : decode cX4_single 46 = .ok (.iload_n 2, 1) := by decide +kernel
theorem d_Reader_single_47 : decode cX4_single 47 = .ok (.ifCond .ne 29, 3) := by decide +kernel
theorem d_Reader_single_50 : decode cX4_single 50 = .ok (.aload_n 0, 1) := by decide +kernel
theorem d_Reader_single_51 : decode cX4_single 51 = .ok (.iload_n 1, 1) := by decide +kernel
theorem d_Reader_single_52 : decode cX4_single 52 = .ok (.iconst 1, 1) := by decide +kernel
theorem d_Reader_single_53 : decode cX4_single 53 = .ok (.iadd, 1) := by decide +kernel
theorem d_Reader_single_54 : decode cX4_single 54 = .ok (.invokevirtual 125, 3) := by decide +kernel
theorem d_Reader_single_57 : decode cX4_single 57 = .ok (.ifCond .eq 17, 3) := by decide +kernel
theorem d_Reader_single_60 : decode cX4_single 60 = .ok (.aload_n 0, 1) := by decide +kernel
theorem d_Reader_single_61 : decode cX4_single 61 = .ok (.sipush 10041, 3) := by decide +kernel
theorem d_Reader_single_64 : decode cX4_single 64 = .ok (.invokevirtual 132, 3) := by decide +kernel
theorem d_Reader_single_67 : decode cX4_single 67 = .ok (.ifCond .eq 7, 3) := by decide +kernel
theorem d_Reader_single_70 : decode cX4_single 70 = .ok (.iconst 1, 1) := by decide +kernel
theorem d_Reader_single_71 : decode cX4_single 71 = .ok (.goto 4, 3) := by decide +kernel
theorem d_Reader_single_74 : decode cX4_single 74 = .ok (.iconst 0, 1) := by decide +kernel
theorem d_Reader_single_75 : decode cX4_single 75 = .ok (.ireturn, 1) := by decide +kernel
theorem d_Reader_single_76 : decode cX4_single 76 = .ok (.aload_n 0, 1) := by decide +kernel
theorem d_Reader_single_77 : decode cX4_single 77 = .ok (.iload_n 1, 1) := by decide +kernel
theorem d_Reader_single_78 : decode cX4_single 78 = .ok (.iconst 1, 1) := by decide +kernel
theorem d_Reader_single_79 : decode cX4_single 79 = .ok (.iadd, 1) := by decide +kernel
theorem d_Reader_single_80 : decode cX4_single 80 = .ok (.invokevirtual 138, 3) := by decide +kernel
theorem d_Reader_single_83 : decode cX4_single 83 = .ok (.ifCond .ne 5, 3) := by decide +kernel
theorem d_Reader_single_86 : decode cX4_single 86 = .ok (.iconst 0, 1) := by decide +kernel
theorem d_Reader_single_87 : decode cX4_single 87 = .ok (.ireturn, 1) := by decide +kernel
theorem d_Reader_single_88 : decode cX4_single 88 = .ok (.aload_n 0, 1) := by decide +kernel
theorem d_Reader_single_89 : decode cX4_single 89 = .ok (.getfield 28, 3) := by decide +kernel
theorem d_Reader_single_92 : decode cX4_single 92 = .ok (.bipush (-20), 2) := by decide +kernel
theorem d_Reader_single_94 : decode cX4_single 94 = .ok (.invokevirtual 141, 3) := by decide +kernel
theorem d_Reader_single_97 : decode cX4_single 97 = .ok (.iconst 1, 1) := by decide +kernel
theorem d_Reader_single_98 : decode cX4_single 98 = .ok (.ireturn, 1) := by decide +kernel
theorem d_Reader_single_99 : decode cX4_single 99 = .ok (.aload_n 0, 1) := by decide +kernel
theorem d_Reader_single_100 : decode cX4_single 100 = .ok (.invokevirtual 122, 3) := by decide +kernel
theorem d_Reader_single_103 : decode cX4_single 103 = .ok (.ifCond .ne 5, 3) := by decide +kernel
theorem d_Reader_single_106 : decode cX4_single 106 = .ok (.iconst 0, 1) := by decide +kernel
theorem d_Reader_single_107 : decode cX4_single 107 = .ok (.ireturn, 1) := by decide +kernel
theorem d_Reader_single_108 : decode cX4_single 108 = .ok (.aload_n 0, 1) := by decide +kernel
theorem d_Reader_single_109 : decode cX4_single 109 = .ok (.getfield 50, 3) := by decide +kernel
theorem d_Reader_single_112 : decode cX4_single 112 = .ok (.sipush 10060, 3) := by decide +kernel
theorem d_Reader_single_115 : decode cX4_single 115 = .ok (.if_icmp .ne 8, 3) := by decide +kernel
theorem d_Reader_single_118 : decode cX4_single 118 = .ok (.bipush (-15), 2) := by decide +kernel
theorem d_Reader_single_120 : decode cX4_single 120 = .ok (.goto 20, 3) := by decide +kernel
theorem d_Reader_single_123 : decode cX4_single 123 = .ok (.aload_n 0, 1) := by decide +kernel
theorem d_Reader_single_124 : decode cX4_single 124 = .ok (.getfield 50, 3) := by decide +kernel
theorem d_Reader_single_127 : decode cX4_single 127 = .ok (.sipush 10061, 3) := by decide +kernel
theorem d_Reader_single_130 : decode cX4_single 130 = .ok (.if_icmp .ne 8, 3) := by decide +kernel
theorem d_Reader_single_133 : decode cX4_single 133 = .ok (.bipush (-16), 2) := by decide +kernel
theorem d_Reader_single_135 : decode cX4_single 135 = .ok (.goto 5, 3) := by decide +kernel
theorem d_Reader_single_138 : decode cX4_single 138 = .ok (.bipush (-17), 2) := by decide +kernel
theorem d_Reader_single_140 : decode cX4_single 140 = .ok (.istore_n 3, 1) := by decide +kernel
theorem d_Reader_single_141 : decode cX4_single 141 = .ok (.iload_n 3, 1) := by decide +kernel
theorem d_Reader_single_142 : decode cX4_single 142 = .ok (.bipush (-17), 2) := by decide +kernel
theorem d_Reader_single_144 : decode cX4_single 144 = .ok (.if_icmp .ne 19, 3) := by decide +kernel
theorem d_Reader_single_147 : decode cX4_single 147 = .ok (.aload_n 0, 1) := by decide +kernel
theorem d_Reader_single_148 : decode cX4_single 148 = .ok (.getfield 50, 3) := by decide +kernel
theorem d_Reader_single_151 : decode cX4_single 151 = .ok (.sipush 10062, 3) := by decide +kernel
theorem d_Reader_single_154 : decode cX4_single 154 = .ok (.if_icmp .eq 9, 3) := by decide +kernel
theorem d_Reader_single_157 : decode cX4_single 157 = .ok (.aload_n 0, 1) := by decide +kernel
theorem d_Reader_single_158 : decode cX4_single 158 = .ok (.iconst 1, 1) := by decide +kernel
theorem d_Reader_single_159 : decode cX4_single 159 = .ok (.invokevirtual 103, 3) := by decide +kernel
theorem d_Reader_single_162 : decode cX4_single 162 = .ok (.ireturn, 1) := by decide +kernel
theorem d_Reader_single_163 : decode cX4_single 163 = .ok (.aload_n 0, 1) := by decide +kernel
theorem d_Reader_single_164 : decode cX4_single 164 = .ok (.invokevirtual 106, 3) := by decide +kernel
theorem d_Reader_single_167 : decode cX4_single 167 = .ok (.aload_n 0, 1) := by decide +kernel
theorem d_Reader_single_168 : decode cX4_single 168 = .ok (.invokevirtual 122, 3) := by decide +kernel
theorem d_Reader_single_171 : decode cX4_single 171 = .ok (.ifCond .ne 5, 3) := by decide +kernel
theorem d_Reader_single_174 : decode cX4_single 174 = .ok (.iconst 0, 1) := by decide +kernel
theorem d_Reader_single_175 : decode cX4_single 175 = .ok (.ireturn, 1) := by decide +kernel
theorem d_Reader_single_176 : decode cX4_single 176 = .ok (.aload_n 0, 1) := by decide +kernel
theorem d_Reader_single_177 : decode cX4_single 177 = .ok (.getfield 28, 3) := by decide +kernel
theorem d_Reader_single_180 : decode cX4_single 180 = .ok (.iload_n 3, 1) := by decide +kernel
theorem d_Reader_single_181 : decode cX4_single 181 = .ok (.invokevirtual 141, 3) := by decide +kernel
theorem d_Reader_single_184 : decode cX4_single 184 = .ok (.iconst 1, 1) := by decide +kernel
theorem d_Reader_single_185 : decode cX4_single 185 = .ok (.ireturn, 1) := by decide +kernel
theorem d_Reader_choice_0 : decode cX4_choice 0 = .ok (.iconst 0, 1) := by decide +kernel
theorem d_Reader_choice_1 : decode cX4_choice 1 = .ok (.istore_n 2, 1) := by decide +kernel
theorem d_Reader_choice_2 : decode cX4_choice 2 = .ok (.iconst 0, 1) := by decide +kernel
theorem d_Reader_choice_3 : decode cX4_choice 3 = .ok (.istore_n 3, 1) := by decide +kernel
theorem d_Reader_choice_4 : decode cX4_choice 4 = .ok (.iconst 0, 1) := by decide +kernel
theorem d_Reader_choice_5 : decode cX4_choice 5 = .ok (.istore 4, 2) := by decide +kernel
theorem d_Reader_choice_7 : decode cX4_choice 7 = .ok (.iload 4, 2) := by decide +kernel
theorem d_Reader_choice_9 : decode cX4_choice 9 = .ok (.sipush 400, 3) := by decide +kernel
theorem d_Reader_choice_12 : decode cX4_choice 12 = .ok (.if_icmp .gt 91, 3) := by decide +kernel
theorem d_Reader_choice_15 : decode cX4_choice 15 = .ok (.aload_n 0, 1) := by decide +kernel
theorem d_Reader_choice_16 : decode cX4_choice 16 = .ok (.iload_n 1, 1) := by decide +kernel
theorem d_Reader_choice_17 : decode cX4_choice 17 = .ok (.invokevirtual 138, 3) := by decide +kernel
theorem d_Reader_choice_20 : decode cX4_choice 20 = .ok (.ifCond .ne 5, 3) := by decide +kernel
theorem d_Reader_choice_23 : decode cX4_choice 23 = .ok (.iconst 0, 1) := by decide +kernel
theorem d_Reader_choice_24 : decode cX4_choice 24 = .ok (.ireturn, 1) := by decide +kernel
theorem d_Reader_choice_25 : decode cX4_choice 25 = .ok (.iload_n 2, 1) := by decide +kernel
theorem d_Reader_choice_26 : decode cX4_choice 26 = .ok (.ifCond .eq 12, 3) := by decide +kernel
theorem d_Reader_choice_29 : decode cX4_choice 29 = .ok (.aload_n 0, 1) := by decide +kernel
theorem d_Reader_choice_30 : decode cX4_choice 30 = .ok (.getfield 28, 3) := by decide +kernel
theorem d_Reader_choice_33 : decode cX4_choice 33 = .ok (.bipush (-18), 2) := by decide +kernel
theorem d_Reader_choice_35 : decode cX4_choice 35 = .ok (.invokevirtual 141, 3) := by decide +kernel
theorem d_Reader_choice_38 : decode cX4_choice 38 = .ok (.aload_n 0, 1) := by decide +kernel
theorem d_Reader_choice_39 : decode cX4_choice 39 = .ok (.getfield 50, 3) := by decide +kernel
theorem d_Reader_choice_42 : decode cX4_choice 42 = .ok (.sipush 20021, 3) := by decide +kernel
theorem d_Reader_choice_45 : decode cX4_choice 45 = .ok (.if_icmp .ne 7, 3) := by decide +kernel
theorem d_Reader_choice_48 : decode cX4_choice 48 = .ok (.iconst 1, 1) := by decide +kernel
theorem d_Reader_choice_49 : decode cX4_choice 49 = .ok (.goto 4, 3) := by decide +kernel
theorem d_Reader_choice_52 : decode cX4_choice 52 = .ok (.iconst 0, 1) := by decide +kernel
theorem d_Reader_choice_53 : decode cX4_choice 53 = .ok (.istore_n 2, 1) := by decide +kernel
theorem d_Reader_choice_54 : decode cX4_choice 54 = .ok (.iload_n 2, 1) := by decide +kernel
theorem d_Reader_choice_55 : decode cX4_choice 55 = .ok (.ifCond .ne 38, 3) := by decide +kernel
theorem d_Reader_choice_58 : decode cX4_choice 58 = .ok (.iload_n 3, 1) := by decide +kernel
theorem d_Reader_choice_59 : decode cX4_choice 59 = .ok (.ifCond .eq 12, 3) := by decide +kernel
theorem d_Reader_choice_62 : decode cX4_choice 62 = .ok (.aload_n 0, 1) := by decide +kernel
theorem d_Reader_choice_63 : decode cX4_choice 63 = .ok (.getfield 28, 3) := by decide +kernel
theorem d_Reader_choice_66 : decode cX4_choice 66 = .ok (.bipush (-19), 2) := by decide +kernel
theorem d_Reader_choice_68 : decode cX4_choice 68 = .ok (.invokevirtual 141, 3) := by decide +kernel
theorem d_Reader_choice_71 : decode cX4_choice 71 = .ok (.aload_n 0, 1) := by decide +kernel
theorem d_Reader_choice_72 : decode cX4_choice 72 = .ok (.getfield 50, 3) := by decide +kernel
theorem d_Reader_choice_75 : decode cX4_choice 75 = .ok (.sipush 20020, 3) := by decide +kernel
theorem d_Reader_choice_78 : decode cX4_choice 78 = .ok (.if_icmp .ne 7, 3) := by decide +kernel
theorem d_Reader_choice_81 : decode cX4_choice 81 = .ok (.iconst 1, 1) := by decide +kernel
theorem d_Reader_choice_82 : decode cX4_choice 82 = .ok (.goto 4, 3) := by decide +kernel
theorem d_Reader_choice_85 : decode cX4_choice 85 = .ok (.iconst 0, 1) := by decide +kernel
theorem d_Reader_choice_86 : decode cX4_choice 86 = .ok (.istore_n 3, 1) := by decide +kernel
theorem d_Reader_choice_87 : decode cX4_choice 87 = .ok (.iload_n 3, 1) := by decide +kernel
theorem d_Reader_choice_88 : decode cX4_choice 88 = .ok (.ifCond .ne 5, 3) := by decide +kernel
theorem d_Reader_choice_91 : decode cX4_choice 91 = .ok (.iconst 1, 1) := by decide +kernel
theorem d_Reader_choice_92 : decode cX4_choice 92 = .ok (.ireturn, 1) := by decide +kernel
theorem d_Reader_choice_93 : decode cX4_choice 93 = .ok (.aload_n 0, 1) := by decide +kernel
theorem d_Reader_choice_94 : decode cX4_choice 94 = .ok (.invokevirtual 106, 3) := by decide +kernel
theorem d_Reader_choice_97 : decode cX4_choice 97 = .ok (.iinc 4 1, 3) := by decide +kernel
theorem d_Reader_choice_100 : decode cX4_choice 100 = .ok (.goto (-93), 3) := by decide +kernel
theorem d_Reader_choice_103 : decode cX4_choice 103 = .ok (.iconst 0, 1) := by decide +kernel
theorem d_Reader_choice_104 : decode cX4_choice 104 = .ok (.ireturn, 1) := by decide +kernel
theorem d_Row_put_0 : decode cX6_put 0 = .ok (.aload_n 0, 1) := by decide +kernel
theorem d_Row_put_1 : decode cX6_put 1 = .ok (.getfield 9, 3) := by decide +kernel
theorem d_Row_put_4 : decode cX6_put 4 = .ok (.aload_n 0, 1) := by decide +kernel
theorem d_Row_put_5 : decode cX6_put 5 = .ok (.getfield 15, 3) := by decide +kernel
theorem d_Row_put_8 : decode cX6_put 8 = .ok (.imul, 1) := by decide +kernel
theorem d_Row_put_9 : decode cX6_put 9 = .ok (.istore 5, 2) := by decide +kernel
theorem d_Row_put_11 : decode cX6_put 11 = .ok (.iload 5, 2) := by decide +kernel
theorem d_Row_put_13 : decode cX6_put 13 = .ok (.aload_n 0, 1) := by decide +kernel
theorem d_Row_put_14 : decode cX6_put 14 = .ok (.getfield 15, 3) := by decide +kernel
theorem d_Row_put_17 : decode cX6_put 17 = .ok (.iadd, 1) := by decide +kernel
theorem d_Row_put_18 : decode cX6_put 18 = .ok (.aload_n 0, 1) := by decide +kernel
theorem d_Row_put_19 : decode cX6_put 19 = .ok (.getfield 18, 3) := by decide +kernel
theorem d_Row_put_22 : decode cX6_put 22 = .ok (.arraylength, 1) := by decide +kernel
theorem d_Row_put_23 : decode cX6_put 23 = .ok (.if_icmp .le 5, 3) := by decide +kernel
theorem d_Row_put_26 : decode cX6_put 26 = .ok (.iconst (-1), 1) := by decide +kernel
theorem d_Row_put_27 : decode cX6_put 27 = .ok (.ireturn, 1) := by decide +kernel
theorem d_Row_put_28 : decode cX6_put 28 = .ok (.iconst 0, 1) := by decide +kernel
theorem d_Row_put_29 : decode cX6_put 29 = .ok (.istore 6, 2) := by decide +kernel
theorem d_Row_put_31 : decode cX6_put 31 = .ok (.iload 6, 2) := by decide +kernel
theorem d_Row_put_33 : decode cX6_put 33 = .ok (.aload_n 0, 1) := by decide +kernel
theorem d_Row_put_34 : decode cX6_put 34 = .ok (.getfield 15, 3) := by decide +kernel
theorem d_Row_put_37 : decode cX6_put 37 = .ok (.if_icmp .ge 50, 3) := by decide +kernel
theorem d_Row_put_40 : decode cX6_put 40 = .ok (.aload_n 0, 1) := by decide +kernel
theorem d_Row_put_41 : decode cX6_put 41 = .ok (.getfield 18, 3) := by decide +kernel
theorem d_Row_put_44 : decode cX6_put 44 = .ok (.iload 5, 2) := by decide +kernel
theorem d_Row_put_46 : decode cX6_put 46 = .ok (.iload 6, 2) := by decide +kernel
theorem d_Row_put_48 : decode cX6_put 48 = .ok (.iadd, 1) := by decide +kernel
theorem d_Row_put_49 : decode cX6_put 49 = .ok (.iload 6, 2) := by decide +kernel
theorem d_Row_put_51 : decode cX6_put 51 = .ok (.ifCond .ne 7, 3) := by decide +kernel
theorem d_Row_put_54 : decode cX6_put 54 = .ok (.iload_n 1, 1) := by decide +kernel
theorem d_Row_put_55 : decode cX6_put 55 = .ok (.goto 25, 3) := by decide +kernel
theorem d_Row_put_58 : decode cX6_put 58 = .ok (.iload 6, 2) := by decide +kernel
theorem d_Row_put_60 : decode cX6_put 60 = .ok (.iconst 1, 1) := by decide +kernel
theorem d_Row_put_61 : decode cX6_put 61 = .ok (.if_icmp .ne 7, 3) := by decide +kernel
theorem d_Row_put_64 : decode cX6_put 64 = .ok (.iload_n 2, 1) := by decide +kernel
theorem d_Row_put_65 : decode cX6_put 65 = .ok (.goto 15, 3) := by decide +kernel
theorem d_Row_put_68 : decode cX6_put 68 = .ok (.iload 6, 2) := by decide +kernel
theorem d_Row_put_70 : decode cX6_put 70 = .ok (.iconst 2, 1) := by decide +kernel
theorem d_Row_put_71 : decode cX6_put 71 = .ok (.if_icmp .ne 7, 3) := by decide +kernel
theorem d_Row_put_74 : decode cX6_put 74 = .ok (.iload_n 3, 1) := by decide +kernel
theorem d_Row_put_75 : decode cX6_put 75 = .ok (.goto 5, 3) := by decide +kernel
theorem d_Row_put_78 : decode cX6_put 78 = .ok (.iload 4, 2) := by decide +kernel
theorem d_Row_put_80 : decode cX6_put 80 = .ok (.iastore, 1) := by decide +kernel
theorem d_Row_put_81 : decode cX6_put 81 = .ok (.iinc 6 1, 3) := by decide +kernel
theorem d_Row_put_84 : decode cX6_put 84 = .ok (.goto (-53), 3) := by decide +kernel
theorem d_Row_put_87 : decode cX6_put 87 = .ok (.aload_n 0, 1) := by decide +kernel
theorem d_Row_put_88 : decode cX6_put 88 = .ok (.dup, 1) := by decide +kernel
theorem d_Row_put_89 : decode cX6_put 89 = .ok (.getfield 9, 3) := by decide +kernel
theorem d_Row_put_92 : decode cX6_put 92 = .ok (.iconst 1, 1) := by decide +kernel
theorem d_Row_put_93 : decode cX6_put 93 = .ok (.iadd, 1) := by decide +kernel
theorem d_Row_put_94 : decode cX6_put 94 = .ok (.putfield 9, 3) := by decide +kernel
theorem d_Row_put_97 : decode cX6_put 97 = .ok (.aload_n 0, 1) := by decide +kernel
theorem d_Row_put_98 : decode cX6_put 98 = .ok (.getfield 9, 3) := by decide +kernel
theorem d_Row_put_101 : decode cX6_put 101 = .ok (.ireturn, 1) := by decide +kernel
theorem d_Reader_lawLine_0 : decode cX4_lawLine 0 = .ok (.aload_n 0, 1) := by decide +kernel
theorem d_Reader_lawLine_1 : decode cX4_lawLine 1 = .ok (.getfield 50, 3) := by decide +kernel
theorem d_Reader_lawLine_4 : decode cX4_lawLine 4 = .ok (.sipush 20000, 3) := by decide +kernel
theorem d_Reader_lawLine_7 : decode cX4_lawLine 7 = .ok (.isub, 1) := by decide +kernel
theorem d_Reader_lawLine_8 : decode cX4_lawLine 8 = .ok (.istore_n 1, 1) := by decide +kernel
theorem d_Reader_lawLine_9 : decode cX4_lawLine 9 = .ok (.iload_n 1, 1) := by decide +kernel
theorem d_Reader_lawLine_10 : decode cX4_lawLine 10 = .ok (.ifCond .lt 8, 3) := by decide +kernel
theorem d_Reader_lawLine_13 : decode cX4_lawLine 13 = .ok (.iload_n 1, 1) := by decide +kernel
theorem d_Reader_lawLine_14 : decode cX4_lawLine 14 = .ok (.iconst 2, 1) := by decide +kernel
theorem d_Reader_lawLine_15 : decode cX4_lawLine 15 = .ok (.if_icmp .le 9, 3) := by decide +kernel
theorem d_Reader_lawLine_18 : decode cX4_lawLine 18 = .ok (.aload_n 0, 1) := by decide +kernel
theorem d_Reader_lawLine_19 : decode cX4_lawLine 19 = .ok (.iconst 1, 1) := by decide +kernel
theorem d_Reader_lawLine_20 : decode cX4_lawLine 20 = .ok (.invokevirtual 103, 3) := by decide +kernel
theorem d_Reader_lawLine_23 : decode cX4_lawLine 23 = .ok (.ireturn, 1) := by decide +kernel
theorem d_Reader_lawLine_24 : decode cX4_lawLine 24 = .ok (.aload_n 0, 1) := by decide +kernel
theorem d_Reader_lawLine_25 : decode cX4_lawLine 25 = .ok (.aload_n 0, 1) := by decide +kernel
theorem d_Reader_lawLine_26 : decode cX4_lawLine 26 = .ok (.getfield 50, 3) := by decide +kernel
theorem d_Reader_lawLine_29 : decode cX4_lawLine 29 = .ok (.aload_n 0, 1) := by decide +kernel
theorem d_Reader_lawLine_30 : decode cX4_lawLine 30 = .ok (.getfield 28, 3) := by decide +kernel
theorem d_Reader_lawLine_33 : decode cX4_lawLine 33 = .ok (.getfield 112, 3) := by decide +kernel
theorem d_Reader_lawLine_36 : decode cX4_lawLine 36 = .ok (.getfield 113, 3) := by decide +kernel
theorem d_Reader_lawLine_39 : decode cX4_lawLine 39 = .ok (.invokevirtual 116, 3) := by decide +kernel
theorem d_Reader_lawLine_42 : decode cX4_lawLine 42 = .ok (.ifCond .ne 5, 3) := by decide +kernel
theorem d_Reader_lawLine_45 : decode cX4_lawLine 45 = .ok (.iconst 0, 1) := by decide +kernel
theorem d_Reader_lawLine_46 : decode cX4_lawLine 46 = .ok (.ireturn, 1) := by decide +kernel
theorem d_Reader_lawLine_47 : decode cX4_lawLine 47 = .ok (.aload_n 0, 1) := by decide +kernel
theorem d_Reader_lawLine_48 : decode cX4_lawLine 48 = .ok (.getfield 28, 3) := by decide +kernel
theorem d_Reader_lawLine_51 : decode cX4_lawLine 51 = .ok (.getfield 119, 3) := by decide +kernel
theorem d_Reader_lawLine_54 : decode cX4_lawLine 54 = .ok (.istore_n 2, 1) := by decide +kernel
theorem d_Reader_lawLine_55 : decode cX4_lawLine 55 = .ok (.aload_n 0, 1) := by decide +kernel
theorem d_Reader_lawLine_56 : decode cX4_lawLine 56 = .ok (.invokevirtual 122, 3) := by decide +kernel
theorem d_Reader_lawLine_59 : decode cX4_lawLine 59 = .ok (.ifCond .ne 5, 3) := by decide +kernel
theorem d_Reader_lawLine_62 : decode cX4_lawLine 62 = .ok (.iconst 0, 1) := by decide +kernel
theorem d_Reader_lawLine_63 : decode cX4_lawLine 63 = .ok (.ireturn, 1) := by decide +kernel
theorem d_Reader_lawLine_64 : decode cX4_lawLine 64 = .ok (.aload_n 0, 1) := by decide +kernel
theorem d_Reader_lawLine_65 : decode cX4_lawLine 65 = .ok (.getfield 28, 3) := by decide +kernel
theorem d_Reader_lawLine_68 : decode cX4_lawLine 68 = .ok (.getfield 119, 3) := by decide +kernel
theorem d_Reader_lawLine_71 : decode cX4_lawLine 71 = .ok (.istore_n 3, 1) := by decide +kernel
theorem d_Reader_lawLine_72 : decode cX4_lawLine 72 = .ok (.aload_n 0, 1) := by decide +kernel
theorem d_Reader_lawLine_73 : decode cX4_lawLine 73 = .ok (.getfield 50, 3) := by decide +kernel
theorem d_Reader_lawLine_76 : decode cX4_lawLine 76 = .ok (.sipush 20019, 3) := by decide +kernel
theorem d_Reader_lawLine_79 : decode cX4_lawLine 79 = .ok (.if_icmp .ne 17, 3) := by decide +kernel
theorem d_Reader_lawLine_82 : decode cX4_lawLine 82 = .ok (.aload_n 0, 1) := by decide +kernel
theorem d_Reader_lawLine_83 : decode cX4_lawLine 83 = .ok (.invokevirtual 106, 3) := by decide +kernel
theorem d_Reader_lawLine_86 : decode cX4_lawLine 86 = .ok (.aload_n 0, 1) := by decide +kernel
theorem d_Reader_lawLine_87 : decode cX4_lawLine 87 = .ok (.iconst 0, 1) := by decide +kernel
theorem d_Reader_lawLine_88 : decode cX4_lawLine 88 = .ok (.invokevirtual 125, 3) := by decide +kernel
theorem d_Reader_lawLine_91 : decode cX4_lawLine 91 = .ok (.ifCond .ne 5, 3) := by decide +kernel
theorem d_Reader_lawLine_94 : decode cX4_lawLine 94 = .ok (.iconst 0, 1) := by decide +kernel
theorem d_Reader_lawLine_95 : decode cX4_lawLine 95 = .ok (.ireturn, 1) := by decide +kernel
theorem d_Reader_lawLine_96 : decode cX4_lawLine 96 = .ok (.aload_n 0, 1) := by decide +kernel
theorem d_Reader_lawLine_97 : decode cX4_lawLine 97 = .ok (.getfield 28, 3) := by decide +kernel
theorem d_Reader_lawLine_100 : decode cX4_lawLine 100 = .ok (.getfield 112, 3) := by decide +kernel
theorem d_Reader_lawLine_103 : decode cX4_lawLine 103 = .ok (.iload_n 1, 1) := by decide +kernel
theorem d_Reader_lawLine_104 : decode cX4_lawLine 104 = .ok (.iload_n 2, 1) := by decide +kernel
theorem d_Reader_lawLine_105 : decode cX4_lawLine 105 = .ok (.iload_n 3, 1) := by decide +kernel
theorem d_Reader_lawLine_106 : decode cX4_lawLine 106 = .ok (.aload_n 0, 1) := by decide +kernel
theorem d_Reader_lawLine_107 : decode cX4_lawLine 107 = .ok (.getfield 28, 3) := by decide +kernel
theorem d_Reader_lawLine_110 : decode cX4_lawLine 110 = .ok (.getfield 119, 3) := by decide +kernel
theorem d_Reader_lawLine_113 : decode cX4_lawLine 113 = .ok (.invokevirtual 128, 3) := by decide +kernel
theorem d_Reader_lawLine_116 : decode cX4_lawLine 116 = .ok (.pop, 1) := by decide +kernel
theorem d_Reader_lawLine_117 : decode cX4_lawLine 117 = .ok (.aload_n 0, 1) := by decide +kernel
theorem d_Reader_lawLine_118 : decode cX4_lawLine 118 = .ok (.sipush 10059, 3) := by decide +kernel
theorem d_Reader_lawLine_121 : decode cX4_lawLine 121 = .ok (.invokevirtual 132, 3) := by decide +kernel
theorem d_Reader_lawLine_124 : decode cX4_lawLine 124 = .ok (.ireturn, 1) := by decide +kernel
theorem d_Reader_passNumber_0 : decode cX4_passNumber 0 = .ok (.aload_n 0, 1) := by decide +kernel
theorem d_Reader_passNumber_1 : decode cX4_passNumber 1 = .ok (.invokevirtual 109, 3) := by decide +kernel
theorem d_Reader_passNumber_4 : decode cX4_passNumber 4 = .ok (.ifCond .ne 9, 3) := by decide +kernel
theorem d_Reader_passNumber_7 : decode cX4_passNumber 7 = .ok (.aload_n 0, 1) := by decide +kernel
theorem d_Reader_passNumber_8 : decode cX4_passNumber 8 = .ok (.iconst 1, 1) := by decide +kernel
theorem d_Reader_passNumber_9 : decode cX4_passNumber 9 = .ok (.invokevirtual 103, 3) := by decide +kernel
theorem d_Reader_passNumber_12 : decode cX4_passNumber 12 = .ok (.ireturn, 1) := by decide +kernel
theorem d_Reader_passNumber_13 : decode cX4_passNumber 13 = .ok (.aload_n 0, 1) := by decide +kernel
theorem d_Reader_passNumber_14 : decode cX4_passNumber 14 = .ok (.getfield 50, 3) := by decide +kernel
theorem d_Reader_passNumber_17 : decode cX4_passNumber 17 = .ok (.iload_n 1, 1) := by decide +kernel
theorem d_Reader_passNumber_18 : decode cX4_passNumber 18 = .ok (.if_icmp .ge 11, 3) := by decide +kernel
theorem d_Reader_passNumber_21 : decode cX4_passNumber 21 = .ok (.aload_n 0, 1) := by decide +kernel
theorem d_Reader_passNumber_22 : decode cX4_passNumber 22 = .ok (.getfield 50, 3) := by decide +kernel
theorem d_Reader_passNumber_25 : decode cX4_passNumber 25 = .ok (.iload_n 2, 1) := by decide +kernel
theorem d_Reader_passNumber_26 : decode cX4_passNumber 26 = .ok (.if_icmp .ne 9, 3) := by decide +kernel
theorem d_Reader_passNumber_29 : decode cX4_passNumber 29 = .ok (.aload_n 0, 1) := by decide +kernel
theorem d_Reader_passNumber_30 : decode cX4_passNumber 30 = .ok (.iconst 2, 1) := by decide +kernel
theorem d_Reader_passNumber_31 : decode cX4_passNumber 31 = .ok (.invokevirtual 103, 3) := by decide +kernel
theorem d_Reader_passNumber_34 : decode cX4_passNumber 34 = .ok (.ireturn, 1) := by decide +kernel
theorem d_Reader_passNumber_35 : decode cX4_passNumber 35 = .ok (.aload_n 0, 1) := by decide +kernel
theorem d_Reader_passNumber_36 : decode cX4_passNumber 36 = .ok (.aload_n 0, 1) := by decide +kernel
theorem d_Reader_passNumber_37 : decode cX4_passNumber 37 = .ok (.getfield 50, 3) := by decide +kernel
theorem d_Reader_passNumber_40 : decode cX4_passNumber 40 = .ok (.putfield 53, 3) := by decide +kernel
theorem d_Reader_passNumber_43 : decode cX4_passNumber 43 = .ok (.aload_n 0, 1) := by decide +kernel
theorem d_Reader_passNumber_44 : decode cX4_passNumber 44 = .ok (.invokevirtual 106, 3) := by decide +kernel
theorem d_Reader_passNumber_47 : decode cX4_passNumber 47 = .ok (.iconst 1, 1) := by decide +kernel
theorem d_Reader_passNumber_48 : decode cX4_passNumber 48 = .ok (.ireturn, 1) := by decide +kernel
theorem d_Reader_kinLine_0 : decode cX4_kinLine 0 = .ok (.aload_n 0, 1) := by decide +kernel
theorem d_Reader_kinLine_1 : decode cX4_kinLine 1 = .ok (.sipush 20023, 3) := by decide +kernel
theorem d_Reader_kinLine_4 : decode cX4_kinLine 4 = .ok (.aload_n 0, 1) := by decide +kernel
theorem d_Reader_kinLine_5 : decode cX4_kinLine 5 = .ok (.getfield 37, 3) := by decide +kernel
theorem d_Reader_kinLine_8 : decode cX4_kinLine 8 = .ok (.getfield 113, 3) := by decide +kernel
theorem d_Reader_kinLine_11 : decode cX4_kinLine 11 = .ok (.invokevirtual 116, 3) := by decide +kernel
theorem d_Reader_kinLine_14 : decode cX4_kinLine 14 = .ok (.ifCond .eq 12, 3) := by decide +kernel
theorem d_Reader_kinLine_17 : decode cX4_kinLine 17 = .ok (.aload_n 0, 1) := by decide +kernel
theorem d_Reader_kinLine_18 : decode cX4_kinLine 18 = .ok (.iload_n 1, 1) := by decide +kernel
theorem d_Reader_kinLine_19 : decode cX4_kinLine 19 = .ok (.iconst (-1), 1) := by decide +kernel
theorem d_Reader_kinLine_20 : decode cX4_kinLine 20 = .ok (.invokevirtual 135, 3) := by decide +kernel
theorem d_Reader_kinLine_23 : decode cX4_kinLine 23 = .ok (.ifCond .ne 5, 3) := by decide +kernel
theorem d_Reader_kinLine_26 : decode cX4_kinLine 26 = .ok (.iconst 0, 1) := by decide +kernel
theorem d_Reader_kinLine_27 : decode cX4_kinLine 27 = .ok (.ireturn, 1) := by decide +kernel
theorem d_Reader_kinLine_28 : decode cX4_kinLine 28 = .ok (.aload_n 0, 1) := by decide +kernel
theorem d_Reader_kinLine_29 : decode cX4_kinLine 29 = .ok (.getfield 53, 3) := by decide +kernel
theorem d_Reader_kinLine_32 : decode cX4_kinLine 32 = .ok (.istore_n 2, 1) := by decide +kernel
theorem d_Reader_kinLine_33 : decode cX4_kinLine 33 = .ok (.aload_n 0, 1) := by decide +kernel
theorem d_Reader_kinLine_34 : decode cX4_kinLine 34 = .ok (.sipush 20024, 3) := by decide +kernel
theorem d_Reader_kinLine_37 : decode cX4_kinLine 37 = .ok (.invokevirtual 132, 3) := by decide +kernel
theorem d_Reader_kinLine_40 : decode cX4_kinLine 40 = .ok (.ifCond .eq 12, 3) := by decide +kernel
theorem d_Reader_kinLine_43 : decode cX4_kinLine 43 = .ok (.aload_n 0, 1) := by decide +kernel
theorem d_Reader_kinLine_44 : decode cX4_kinLine 44 = .ok (.iload_n 1, 1) := by decide +kernel
theorem d_Reader_kinLine_45 : decode cX4_kinLine 45 = .ok (.iload_n 2, 1) := by decide +kernel
theorem d_Reader_kinLine_46 : decode cX4_kinLine 46 = .ok (.invokevirtual 135, 3) := by decide +kernel
theorem d_Reader_kinLine_49 : decode cX4_kinLine 49 = .ok (.ifCond .ne 5, 3) := by decide +kernel
theorem d_Reader_kinLine_52 : decode cX4_kinLine 52 = .ok (.iconst 0, 1) := by decide +kernel
theorem d_Reader_kinLine_53 : decode cX4_kinLine 53 = .ok (.ireturn, 1) := by decide +kernel
theorem d_Reader_kinLine_54 : decode cX4_kinLine 54 = .ok (.aload_n 0, 1) := by decide +kernel
theorem d_Reader_kinLine_55 : decode cX4_kinLine 55 = .ok (.getfield 37, 3) := by decide +kernel
theorem d_Reader_kinLine_58 : decode cX4_kinLine 58 = .ok (.iload_n 2, 1) := by decide +kernel
theorem d_Reader_kinLine_59 : decode cX4_kinLine 59 = .ok (.aload_n 0, 1) := by decide +kernel
theorem d_Reader_kinLine_60 : decode cX4_kinLine 60 = .ok (.getfield 53, 3) := by decide +kernel
theorem d_Reader_kinLine_63 : decode cX4_kinLine 63 = .ok (.iconst 0, 1) := by decide +kernel
theorem d_Reader_kinLine_64 : decode cX4_kinLine 64 = .ok (.iconst 0, 1) := by decide +kernel
theorem d_Reader_kinLine_65 : decode cX4_kinLine 65 = .ok (.invokevirtual 128, 3) := by decide +kernel
theorem d_Reader_kinLine_68 : decode cX4_kinLine 68 = .ok (.pop, 1) := by decide +kernel
theorem d_Reader_kinLine_69 : decode cX4_kinLine 69 = .ok (.aload_n 0, 1) := by decide +kernel
theorem d_Reader_kinLine_70 : decode cX4_kinLine 70 = .ok (.sipush 10059, 3) := by decide +kernel
theorem d_Reader_kinLine_73 : decode cX4_kinLine 73 = .ok (.invokevirtual 132, 3) := by decide +kernel
theorem d_Reader_kinLine_76 : decode cX4_kinLine 76 = .ok (.ireturn, 1) := by decide +kernel
theorem d_Reader_shiftLine_0 : decode cX4_shiftLine 0 = .ok (.aload_n 0, 1) := by decide +kernel
theorem d_Reader_shiftLine_1 : decode cX4_shiftLine 1 = .ok (.sipush 20025, 3) := by decide +kernel
theorem d_Reader_shiftLine_4 : decode cX4_shiftLine 4 = .ok (.aload_n 0, 1) := by decide +kernel
theorem d_Reader_shiftLine_5 : decode cX4_shiftLine 5 = .ok (.getfield 37, 3) := by decide +kernel
theorem d_Reader_shiftLine_8 : decode cX4_shiftLine 8 = .ok (.getfield 113, 3) := by decide +kernel
theorem d_Reader_shiftLine_11 : decode cX4_shiftLine 11 = .ok (.invokevirtual 116, 3) := by decide +kernel
theorem d_Reader_shiftLine_14 : decode cX4_shiftLine 14 = .ok (.ifCond .eq 14, 3) := by decide +kernel
theorem d_Reader_shiftLine_17 : decode cX4_shiftLine 17 = .ok (.aload_n 0, 1) := by decide +kernel
theorem d_Reader_shiftLine_18 : decode cX4_shiftLine 18 = .ok (.sipush 1000, 3) := by decide +kernel
theorem d_Reader_shiftLine_21 : decode cX4_shiftLine 21 = .ok (.iconst (-1), 1) := by decide +kernel
theorem d_Reader_shiftLine_22 : decode cX4_shiftLine 22 = .ok (.invokevirtual 135, 3) := by decide +kernel
theorem d_Reader_shiftLine_25 : decode cX4_shiftLine 25 = .ok (.ifCond .ne 5, 3) := by decide +kernel
theorem d_Reader_shiftLine_28 : decode cX4_shiftLine 28 = .ok (.iconst 0, 1) := by decide +kernel
theorem d_Reader_shiftLine_29 : decode cX4_shiftLine 29 = .ok (.ireturn, 1) := by decide +kernel
theorem d_Reader_shiftLine_30 : decode cX4_shiftLine 30 = .ok (.aload_n 0, 1) := by decide +kernel
theorem d_Reader_shiftLine_31 : decode cX4_shiftLine 31 = .ok (.getfield 53, 3) := by decide +kernel
theorem d_Reader_shiftLine_34 : decode cX4_shiftLine 34 = .ok (.istore_n 3, 1) := by decide +kernel
theorem d_Reader_shiftLine_35 : decode cX4_shiftLine 35 = .ok (.aload_n 0, 1) := by decide +kernel
theorem d_Reader_shiftLine_36 : decode cX4_shiftLine 36 = .ok (.getfield 50, 3) := by decide +kernel
theorem d_Reader_shiftLine_39 : decode cX4_shiftLine 39 = .ok (.sipush 20013, 3) := by decide +kernel
theorem d_Reader_shiftLine_42 : decode cX4_shiftLine 42 = .ok (.if_icmp .lt 13, 3) := by decide +kernel
theorem d_Reader_shiftLine_45 : decode cX4_shiftLine 45 = .ok (.aload_n 0, 1) := by decide +kernel
theorem d_Reader_shiftLine_46 : decode cX4_shiftLine 46 = .ok (.getfield 50, 3) := by decide +kernel
theorem d_Reader_shiftLine_49 : decode cX4_shiftLine 49 = .ok (.sipush 20018, 3) := by decide +kernel
theorem d_Reader_shiftLine_52 : decode cX4_shiftLine 52 = .ok (.if_icmp .le 9, 3) := by decide +kernel
theorem d_Reader_shiftLine_55 : decode cX4_shiftLine 55 = .ok (.aload_n 0, 1) := by decide +kernel
theorem d_Reader_shiftLine_56 : decode cX4_shiftLine 56 = .ok (.iconst 1, 1) := by decide +kernel
theorem d_Reader_shiftLine_57 : decode cX4_shiftLine 57 = .ok (.invokevirtual 103, 3) := by decide +kernel
theorem d_Reader_shiftLine_60 : decode cX4_shiftLine 60 = .ok (.ireturn, 1) := by decide +kernel
theorem d_Reader_shiftLine_61 : decode cX4_shiftLine 61 = .ok (.aload_n 0, 1) := by decide +kernel
theorem d_Reader_shiftLine_62 : decode cX4_shiftLine 62 = .ok (.getfield 50, 3) := by decide +kernel
theorem d_Reader_shiftLine_65 : decode cX4_shiftLine 65 = .ok (.sipush 20013, 3) := by decide +kernel
theorem d_Reader_shiftLine_68 : decode cX4_shiftLine 68 = .ok (.isub, 1) := by decide +kernel
theorem d_Reader_shiftLine_69 : decode cX4_shiftLine 69 = .ok (.istore 4, 2) := by decide +kernel
theorem d_Reader_shiftLine_71 : decode cX4_shiftLine 71 = .ok (.aload_n 0, 1) := by decide +kernel
theorem d_Reader_shiftLine_72 : decode cX4_shiftLine 72 = .ok (.invokevirtual 106, 3) := by decide +kernel
theorem d_Reader_shiftLine_75 : decode cX4_shiftLine 75 = .ok (.iload 4, 2) := by decide +kernel
theorem d_Reader_shiftLine_77 : decode cX4_shiftLine 77 = .ok (.iconst 3, 1) := by decide +kernel
theorem d_Reader_shiftLine_78 : decode cX4_shiftLine 78 = .ok (.if_icmp .ne 7, 3) := by decide +kernel
theorem d_Reader_shiftLine_81 : decode cX4_shiftLine 81 = .ok (.iload_n 2, 1) := by decide +kernel
theorem d_Reader_shiftLine_82 : decode cX4_shiftLine 82 = .ok (.goto 20, 3) := by decide +kernel
theorem d_Reader_shiftLine_85 : decode cX4_shiftLine 85 = .ok (.iload 4, 2) := by decide +kernel
theorem d_Reader_shiftLine_87 : decode cX4_shiftLine 87 = .ok (.iconst 4, 1) := by decide +kernel
theorem d_Reader_shiftLine_88 : decode cX4_shiftLine 88 = .ok (.if_icmp .eq 9, 3) := by decide +kernel
theorem d_Reader_shiftLine_91 : decode cX4_shiftLine 91 = .ok (.iload 4, 2) := by decide +kernel
theorem d_Reader_shiftLine_93 : decode cX4_shiftLine 93 = .ok (.iconst 5, 1) := by decide +kernel
theorem d_Reader_shiftLine_94 : decode cX4_shiftLine 94 = .ok (.if_icmp .ne 7, 3) := by decide +kernel
theorem d_Reader_shiftLine_97 : decode cX4_shiftLine 97 = .ok (.iconst 4, 1) := by decide +kernel
theorem d_Reader_shiftLine_98 : decode cX4_shiftLine 98 = .ok (.goto 4, 3) := by decide +kernel
theorem d_Reader_shiftLine_101 : decode cX4_shiftLine 101 = .ok (.iload_n 1, 1) := by decide +kernel
theorem d_Reader_shiftLine_102 : decode cX4_shiftLine 102 = .ok (.istore 5, 2) := by decide +kernel
theorem d_Reader_shiftLine_104 : decode cX4_shiftLine 104 = .ok (.aload_n 0, 1) := by decide +kernel
theorem d_Reader_shiftLine_105 : decode cX4_shiftLine 105 = .ok (.iload 5, 2) := by decide +kernel
theorem d_Reader_shiftLine_107 : decode cX4_shiftLine 107 = .ok (.iconst (-1), 1) := by decide +kernel
theorem d_Reader_shiftLine_108 : decode cX4_shiftLine 108 = .ok (.invokevirtual 135, 3) := by decide +kernel
theorem d_Reader_shiftLine_111 : decode cX4_shiftLine 111 = .ok (.ifCond .ne 5, 3) := by decide +kernel
theorem d_Reader_shiftLine_114 : decode cX4_shiftLine 114 = .ok (.iconst 0, 1) := by decide +kernel
theorem d_Reader_shiftLine_115 : decode cX4_shiftLine 115 = .ok (.ireturn, 1) := by decide +kernel
theorem d_Reader_shiftLine_116 : decode cX4_shiftLine 116 = .ok (.aload_n 0, 1) := by decide +kernel
theorem d_Reader_shiftLine_117 : decode cX4_shiftLine 117 = .ok (.getfield 53, 3) := by decide +kernel
theorem d_Reader_shiftLine_120 : decode cX4_shiftLine 120 = .ok (.istore 6, 2) := by decide +kernel
theorem d_Reader_shiftLine_122 : decode cX4_shiftLine 122 = .ok (.iload 4, 2) := by decide +kernel
theorem d_Reader_shiftLine_124 : decode cX4_shiftLine 124 = .ok (.ifCond .eq 9, 3) := by decide +kernel
theorem d_Reader_shiftLine_127 : decode cX4_shiftLine 127 = .ok (.iload 4, 2) := by decide +kernel
theorem d_Reader_shiftLine_129 : decode cX4_shiftLine 129 = .ok (.iconst 3, 1) := by decide +kernel
theorem d_Reader_shiftLine_130 : decode cX4_shiftLine 130 = .ok (.if_icmp .ne 24, 3) := by decide +kernel
theorem d_Reader_shiftLine_133 : decode cX4_shiftLine 133 = .ok (.aload_n 0, 1) := by decide +kernel
theorem d_Reader_shiftLine_134 : decode cX4_shiftLine 134 = .ok (.sipush 20026, 3) := by decide +kernel
theorem d_Reader_shiftLine_137 : decode cX4_shiftLine 137 = .ok (.invokevirtual 132, 3) := by decide +kernel
theorem d_Reader_shiftLine_140 : decode cX4_shiftLine 140 = .ok (.ifCond .eq 12, 3) := by decide +kernel
theorem d_Reader_shiftLine_143 : decode cX4_shiftLine 143 = .ok (.aload_n 0, 1) := by decide +kernel
theorem d_Reader_shiftLine_144 : decode cX4_shiftLine 144 = .ok (.iconst 4, 1) := by decide +kernel
theorem d_Reader_shiftLine_145 : decode cX4_shiftLine 145 = .ok (.iconst (-1), 1) := by decide +kernel
theorem d_Reader_shiftLine_146 : decode cX4_shiftLine 146 = .ok (.invokevirtual 135, 3) := by decide +kernel
theorem d_Reader_shiftLine_149 : decode cX4_shiftLine 149 = .ok (.ifCond .ne 5, 3) := by decide +kernel
theorem d_Reader_shiftLine_152 : decode cX4_shiftLine 152 = .ok (.iconst 0, 1) := by decide +kernel
theorem d_Reader_shiftLine_153 : decode cX4_shiftLine 153 = .ok (.ireturn, 1) := by decide +kernel
theorem d_Reader_shiftLine_154 : decode cX4_shiftLine 154 = .ok (.aload_n 0, 1) := by decide +kernel
theorem d_Reader_shiftLine_155 : decode cX4_shiftLine 155 = .ok (.getfield 37, 3) := by decide +kernel
theorem d_Reader_shiftLine_158 : decode cX4_shiftLine 158 = .ok (.iload_n 3, 1) := by decide +kernel
theorem d_Reader_shiftLine_159 : decode cX4_shiftLine 159 = .ok (.iload 4, 2) := by decide +kernel
theorem d_Reader_shiftLine_161 : decode cX4_shiftLine 161 = .ok (.iload 6, 2) := by decide +kernel
theorem d_Reader_shiftLine_163 : decode cX4_shiftLine 163 = .ok (.aload_n 0, 1) := by decide +kernel
theorem d_Reader_shiftLine_164 : decode cX4_shiftLine 164 = .ok (.getfield 53, 3) := by decide +kernel
theorem d_Reader_shiftLine_167 : decode cX4_shiftLine 167 = .ok (.invokevirtual 128, 3) := by decide +kernel
theorem d_Reader_shiftLine_170 : decode cX4_shiftLine 170 = .ok (.pop, 1) := by decide +kernel
theorem d_Reader_shiftLine_171 : decode cX4_shiftLine 171 = .ok (.aload_n 0, 1) := by decide +kernel
theorem d_Reader_shiftLine_172 : decode cX4_shiftLine 172 = .ok (.sipush 10059, 3) := by decide +kernel
theorem d_Reader_shiftLine_175 : decode cX4_shiftLine 175 = .ok (.invokevirtual 132, 3) := by decide +kernel
theorem d_Reader_shiftLine_178 : decode cX4_shiftLine 178 = .ok (.ireturn, 1) := by decide +kernel
theorem d_Reader_roadLine_0 : decode cX4_roadLine 0 = .ok (.aload_n 0, 1) := by decide +kernel
theorem d_Reader_roadLine_1 : decode cX4_roadLine 1 = .ok (.sipush 20027, 3) := by decide +kernel
theorem d_Reader_roadLine_4 : decode cX4_roadLine 4 = .ok (.aload_n 0, 1) := by decide +kernel
theorem d_Reader_roadLine_5 : decode cX4_roadLine 5 = .ok (.getfield 37, 3) := by decide +kernel
theorem d_Reader_roadLine_8 : decode cX4_roadLine 8 = .ok (.getfield 113, 3) := by decide +kernel
theorem d_Reader_roadLine_11 : decode cX4_roadLine 11 = .ok (.invokevirtual 116, 3) := by decide +kernel
theorem d_Reader_roadLine_14 : decode cX4_roadLine 14 = .ok (.ifCond .eq 13, 3) := by decide +kernel
theorem d_Reader_roadLine_17 : decode cX4_roadLine 17 = .ok (.aload_n 0, 1) := by decide +kernel
theorem d_Reader_roadLine_18 : decode cX4_roadLine 18 = .ok (.bipush 10, 2) := by decide +kernel
theorem d_Reader_roadLine_20 : decode cX4_roadLine 20 = .ok (.iconst (-1), 1) := by decide +kernel
theorem d_Reader_roadLine_21 : decode cX4_roadLine 21 = .ok (.invokevirtual 135, 3) := by decide +kernel
theorem d_Reader_roadLine_24 : decode cX4_roadLine 24 = .ok (.ifCond .ne 5, 3) := by decide +kernel
theorem d_Reader_roadLine_27 : decode cX4_roadLine 27 = .ok (.iconst 0, 1) := by decide +kernel
theorem d_Reader_roadLine_28 : decode cX4_roadLine 28 = .ok (.ireturn, 1) := by decide +kernel
theorem d_Reader_roadLine_29 : decode cX4_roadLine 29 = .ok (.aload_n 0, 1) := by decide +kernel
theorem d_Reader_roadLine_30 : decode cX4_roadLine 30 = .ok (.getfield 53, 3) := by decide +kernel
theorem d_Reader_roadLine_33 : decode cX4_roadLine 33 = .ok (.istore_n 1, 1) := by decide +kernel
theorem d_Reader_roadLine_34 : decode cX4_roadLine 34 = .ok (.aload_n 0, 1) := by decide +kernel
theorem d_Reader_roadLine_35 : decode cX4_roadLine 35 = .ok (.bipush 10, 2) := by decide +kernel
theorem d_Reader_roadLine_37 : decode cX4_roadLine 37 = .ok (.iload_n 1, 1) := by decide +kernel
theorem d_Reader_roadLine_38 : decode cX4_roadLine 38 = .ok (.invokevirtual 135, 3) := by decide +kernel
theorem d_Reader_roadLine_41 : decode cX4_roadLine 41 = .ok (.ifCond .ne 5, 3) := by decide +kernel
theorem d_Reader_roadLine_44 : decode cX4_roadLine 44 = .ok (.iconst 0, 1) := by decide +kernel
theorem d_Reader_roadLine_45 : decode cX4_roadLine 45 = .ok (.ireturn, 1) := by decide +kernel
theorem d_Reader_roadLine_46 : decode cX4_roadLine 46 = .ok (.aload_n 0, 1) := by decide +kernel
theorem d_Reader_roadLine_47 : decode cX4_roadLine 47 = .ok (.getfield 53, 3) := by decide +kernel
theorem d_Reader_roadLine_50 : decode cX4_roadLine 50 = .ok (.istore_n 2, 1) := by decide +kernel
theorem d_Reader_roadLine_51 : decode cX4_roadLine 51 = .ok (.aload_n 0, 1) := by decide +kernel
theorem d_Reader_roadLine_52 : decode cX4_roadLine 52 = .ok (.sipush 20028, 3) := by decide +kernel
theorem d_Reader_roadLine_55 : decode cX4_roadLine 55 = .ok (.invokevirtual 132, 3) := by decide +kernel
theorem d_Reader_roadLine_58 : decode cX4_roadLine 58 = .ok (.ifCond .eq 13, 3) := by decide +kernel
theorem d_Reader_roadLine_61 : decode cX4_roadLine 61 = .ok (.aload_n 0, 1) := by decide +kernel
theorem d_Reader_roadLine_62 : decode cX4_roadLine 62 = .ok (.bipush 100, 2) := by decide +kernel
theorem d_Reader_roadLine_64 : decode cX4_roadLine 64 = .ok (.iconst (-1), 1) := by decide +kernel
theorem d_Reader_roadLine_65 : decode cX4_roadLine 65 = .ok (.invokevirtual 135, 3) := by decide +kernel
theorem d_Reader_roadLine_68 : decode cX4_roadLine 68 = .ok (.ifCond .ne 5, 3) := by decide +kernel
theorem d_Reader_roadLine_71 : decode cX4_roadLine 71 = .ok (.iconst 0, 1) := by decide +kernel
theorem d_Reader_roadLine_72 : decode cX4_roadLine 72 = .ok (.ireturn, 1) := by decide +kernel
theorem d_Reader_roadLine_73 : decode cX4_roadLine 73 = .ok (.aload_n 0, 1) := by decide +kernel
theorem d_Reader_roadLine_74 : decode cX4_roadLine 74 = .ok (.getfield 53, 3) := by decide +kernel
theorem d_Reader_roadLine_77 : decode cX4_roadLine 77 = .ok (.istore_n 3, 1) := by decide +kernel
theorem d_Reader_roadLine_78 : decode cX4_roadLine 78 = .ok (.aload_n 0, 1) := by decide +kernel
theorem d_Reader_roadLine_79 : decode cX4_roadLine 79 = .ok (.sipush 20005, 3) := by decide +kernel
theorem d_Reader_roadLine_82 : decode cX4_roadLine 82 = .ok (.invokevirtual 132, 3) := by decide +kernel
theorem d_Reader_roadLine_85 : decode cX4_roadLine 85 = .ok (.ifCond .eq 13, 3) := by decide +kernel
theorem d_Reader_roadLine_88 : decode cX4_roadLine 88 = .ok (.aload_n 0, 1) := by decide +kernel
theorem d_Reader_roadLine_89 : decode cX4_roadLine 89 = .ok (.bipush 100, 2) := by decide +kernel
theorem d_Reader_roadLine_91 : decode cX4_roadLine 91 = .ok (.iconst (-1), 1) := by decide +kernel
theorem d_Reader_roadLine_92 : decode cX4_roadLine 92 = .ok (.invokevirtual 135, 3) := by decide +kernel
theorem d_Reader_roadLine_95 : decode cX4_roadLine 95 = .ok (.ifCond .ne 5, 3) := by decide +kernel
theorem d_Reader_roadLine_98 : decode cX4_roadLine 98 = .ok (.iconst 0, 1) := by decide +kernel
theorem d_Reader_roadLine_99 : decode cX4_roadLine 99 = .ok (.ireturn, 1) := by decide +kernel
theorem d_Reader_roadLine_100 : decode cX4_roadLine 100 = .ok (.aload_n 0, 1) := by decide +kernel
theorem d_Reader_roadLine_101 : decode cX4_roadLine 101 = .ok (.getfield 37, 3) := by decide +kernel
theorem d_Reader_roadLine_104 : decode cX4_roadLine 104 = .ok (.iload_n 1, 1) := by decide +kernel
theorem d_Reader_roadLine_105 : decode cX4_roadLine 105 = .ok (.iload_n 2, 1) := by decide +kernel
theorem d_Reader_roadLine_106 : decode cX4_roadLine 106 = .ok (.iload_n 3, 1) := by decide +kernel
theorem d_Reader_roadLine_107 : decode cX4_roadLine 107 = .ok (.aload_n 0, 1) := by decide +kernel
theorem d_Reader_roadLine_108 : decode cX4_roadLine 108 = .ok (.getfield 53, 3) := by decide +kernel
theorem d_Reader_roadLine_111 : decode cX4_roadLine 111 = .ok (.invokevirtual 128, 3) := by decide +kernel
theorem d_Reader_roadLine_114 : decode cX4_roadLine 114 = .ok (.pop, 1) := by decide +kernel
theorem d_Reader_roadLine_115 : decode cX4_roadLine 115 = .ok (.aload_n 0, 1) := by decide +kernel
theorem d_Reader_roadLine_116 : decode cX4_roadLine 116 = .ok (.sipush 10059, 3) := by decide +kernel
theorem d_Reader_roadLine_119 : decode cX4_roadLine 119 = .ok (.invokevirtual 132, 3) := by decide +kernel
theorem d_Reader_roadLine_122 : decode cX4_roadLine 122 = .ok (.ireturn, 1) := by decide +kernel
theorem d_Reader_readText_0 : decode cX4_readText 0 = .ok (.aload_n 0, 1) := by decide +kernel
theorem d_Reader_readText_1 : decode cX4_readText 1 = .ok (.iconst 0, 1) := by decide +kernel
theorem d_Reader_readText_2 : decode cX4_readText 2 = .ok (.putfield 19, 3) := by decide +kernel
theorem d_Reader_readText_5 : decode cX4_readText 5 = .ok (.aload_n 0, 1) := by decide +kernel
theorem d_Reader_readText_6 : decode cX4_readText 6 = .ok (.iconst (-1), 1) := by decide +kernel
theorem d_Reader_readText_7 : decode cX4_readText 7 = .ok (.putfield 22, 3) := by decide +kernel
theorem d_Reader_readText_10 : decode cX4_readText 10 = .ok (.iload_n 1, 1) := by decide +kernel
theorem d_Reader_readText_11 : decode cX4_readText 11 = .ok (.ifCond .lt 8, 3) := by decide +kernel
theorem d_Reader_readText_14 : decode cX4_readText 14 = .ok (.iload_n 1, 1) := by decide +kernel
theorem d_Reader_readText_15 : decode cX4_readText 15 = .ok (.iconst 3, 1) := by decide +kernel
theorem d_Reader_readText_16 : decode cX4_readText 16 = .ok (.if_icmp .le 5, 3) := by decide +kernel
theorem d_Reader_readText_19 : decode cX4_readText 19 = .ok (.iconst 0, 1) := by decide +kernel
theorem d_Reader_readText_20 : decode cX4_readText 20 = .ok (.ireturn, 1) := by decide +kernel
theorem d_Reader_readText_21 : decode cX4_readText 21 = .ok (.aload_n 0, 1) := by decide +kernel
theorem d_Reader_readText_22 : decode cX4_readText 22 = .ok (.invokevirtual 56, 3) := by decide +kernel
theorem d_Reader_readText_25 : decode cX4_readText 25 = .ok (.aload_n 0, 1) := by decide +kernel
theorem d_Reader_readText_26 : decode cX4_readText 26 = .ok (.getfield 28, 3) := by decide +kernel
theorem d_Reader_readText_29 : decode cX4_readText 29 = .ok (.invokevirtual 59, 3) := by decide +kernel
theorem d_Reader_readText_32 : decode cX4_readText 32 = .ok (.aload_n 0, 1) := by decide +kernel
theorem d_Reader_readText_33 : decode cX4_readText 33 = .ok (.getfield 37, 3) := by decide +kernel
theorem d_Reader_readText_36 : decode cX4_readText 36 = .ok (.invokevirtual 62, 3) := by decide +kernel
theorem d_Reader_readText_39 : decode cX4_readText 39 = .ok (.pop, 1) := by decide +kernel
theorem d_Reader_readText_40 : decode cX4_readText 40 = .ok (.iconst 0, 1) := by decide +kernel
theorem d_Reader_readText_41 : decode cX4_readText 41 = .ok (.istore 4, 2) := by decide +kernel
theorem d_Reader_readText_43 : decode cX4_readText 43 = .ok (.iload 4, 2) := by decide +kernel
theorem d_Reader_readText_45 : decode cX4_readText 45 = .ok (.bipush 16, 2) := by decide +kernel
theorem d_Reader_readText_47 : decode cX4_readText 47 = .ok (.if_icmp .gt 70, 3) := by decide +kernel
theorem d_Reader_readText_50 : decode cX4_readText 50 = .ok (.aload_n 0, 1) := by decide +kernel
theorem d_Reader_readText_51 : decode cX4_readText 51 = .ok (.getfield 50, 3) := by decide +kernel
theorem d_Reader_readText_54 : decode cX4_readText 54 = .ok (.iconst (-1), 1) := by decide +kernel
theorem d_Reader_readText_55 : decode cX4_readText 55 = .ok (.if_icmp .ne 5, 3) := by decide +kernel
theorem d_Reader_readText_58 : decode cX4_readText 58 = .ok (.iconst 1, 1) := by decide +kernel
theorem d_Reader_readText_59 : decode cX4_readText 59 = .ok (.ireturn, 1) := by decide +kernel
theorem d_Reader_readText_60 : decode cX4_readText 60 = .ok (.iload_n 1, 1) := by decide +kernel
theorem d_Reader_readText_61 : decode cX4_readText 61 = .ok (.ifCond .ne 10, 3) := by decide +kernel
theorem d_Reader_readText_64 : decode cX4_readText 64 = .ok (.aload_n 0, 1) := by decide +kernel
theorem d_Reader_readText_65 : decode cX4_readText 65 = .ok (.invokevirtual 65, 3) := by decide +kernel
theorem d_Reader_readText_68 : decode cX4_readText 68 = .ok (.goto 34, 3) := by decide +kernel
theorem d_Reader_readText_71 : decode cX4_readText 71 = .ok (.iload_n 1, 1) := by decide +kernel
theorem d_Reader_readText_72 : decode cX4_readText 72 = .ok (.iconst 1, 1) := by decide +kernel
theorem d_Reader_readText_73 : decode cX4_readText 73 = .ok (.if_icmp .ne 11, 3) := by decide +kernel
theorem d_Reader_readText_76 : decode cX4_readText 76 = .ok (.aload_n 0, 1) := by decide +kernel
theorem d_Reader_readText_77 : decode cX4_readText 77 = .ok (.iload_n 2, 1) := by decide +kernel
theorem d_Reader_readText_78 : decode cX4_readText 78 = .ok (.invokevirtual 69, 3) := by decide +kernel
theorem d_Reader_readText_81 : decode cX4_readText 81 = .ok (.goto 21, 3) := by decide +kernel
theorem d_Reader_readText_84 : decode cX4_readText 84 = .ok (.iload_n 1, 1) := by decide +kernel
theorem d_Reader_readText_85 : decode cX4_readText 85 = .ok (.iconst 2, 1) := by decide +kernel
theorem d_Reader_readText_86 : decode cX4_readText 86 = .ok (.if_icmp .ne 12, 3) := by decide +kernel
theorem d_Reader_readText_89 : decode cX4_readText 89 = .ok (.aload_n 0, 1) := by decide +kernel
theorem d_Reader_readText_90 : decode cX4_readText 90 = .ok (.iload_n 2, 1) := by decide +kernel
theorem d_Reader_readText_91 : decode cX4_readText 91 = .ok (.iload_n 3, 1) := by decide +kernel
theorem d_Reader_readText_92 : decode cX4_readText 92 = .ok (.invokevirtual 73, 3) := by decide +kernel
theorem d_Reader_readText_95 : decode cX4_readText 95 = .ok (.goto 7, 3) := by decide +kernel
theorem d_Reader_readText_98 : decode cX4_readText 98 = .ok (.aload_n 0, 1) := by decide +kernel
theorem d_Reader_readText_99 : decode cX4_readText 99 = .ok (.invokevirtual 77, 3) := by decide +kernel
theorem d_Reader_readText_102 : decode cX4_readText 102 = .ok (.istore 5, 2) := by decide +kernel
theorem d_Reader_readText_104 : decode cX4_readText 104 = .ok (.iload 5, 2) := by decide +kernel
theorem d_Reader_readText_106 : decode cX4_readText 106 = .ok (.ifCond .ne 5, 3) := by decide +kernel
theorem d_Reader_readText_109 : decode cX4_readText 109 = .ok (.iconst 0, 1) := by decide +kernel
theorem d_Reader_readText_110 : decode cX4_readText 110 = .ok (.ireturn, 1) := by decide +kernel
theorem d_Reader_readText_111 : decode cX4_readText 111 = .ok (.iinc 4 1, 3) := by decide +kernel
theorem d_Reader_readText_114 : decode cX4_readText 114 = .ok (.goto (-71), 3) := by decide +kernel
theorem d_Reader_readText_117 : decode cX4_readText 117 = .ok (.iconst 0, 1) := by decide +kernel
theorem d_Reader_readText_118 : decode cX4_readText 118 = .ok (.ireturn, 1) := by decide +kernel
theorem d_Law_copyFrom_0 : decode cX2_copyFrom 0 = .ok (.aload_n 0, 1) := by decide +kernel
theorem d_Law_copyFrom_1 : decode cX2_copyFrom 1 = .ok (.getfield 14, 3) := by decide +kernel
theorem d_Law_copyFrom_4 : decode cX2_copyFrom 4 = .ok (.aload_n 1, 1) := by decide +kernel
theorem d_Law_copyFrom_5 : decode cX2_copyFrom 5 = .ok (.getfield 14, 3) := by decide +kernel
theorem d_Law_copyFrom_8 : decode cX2_copyFrom 8 = .ok (.invokevirtual 38, 3) := by decide +kernel
theorem d_Law_copyFrom_11 : decode cX2_copyFrom 11 = .ok (.aload_n 1, 1) := by decide +kernel
theorem d_Law_copyFrom_12 : decode cX2_copyFrom 12 = .ok (.getfield 20, 3) := by decide +kernel
theorem d_Law_copyFrom_15 : decode cX2_copyFrom 15 = .ok (.iconst 0, 1) := by decide +kernel
theorem d_Law_copyFrom_16 : decode cX2_copyFrom 16 = .ok (.aload_n 0, 1) := by decide +kernel
theorem d_Law_copyFrom_17 : decode cX2_copyFrom 17 = .ok (.getfield 20, 3) := by decide +kernel
theorem d_Law_copyFrom_20 : decode cX2_copyFrom 20 = .ok (.iconst 0, 1) := by decide +kernel
theorem d_Law_copyFrom_21 : decode cX2_copyFrom 21 = .ok (.sipush 400, 3) := by decide +kernel
theorem d_Law_copyFrom_24 : decode cX2_copyFrom 24 = .ok (.invokestatic 42, 3) := by decide +kernel
theorem d_Law_copyFrom_27 : decode cX2_copyFrom 27 = .ok (.aload_n 0, 1) := by decide +kernel
theorem d_Law_copyFrom_28 : decode cX2_copyFrom 28 = .ok (.aload_n 1, 1) := by decide +kernel
theorem d_Law_copyFrom_29 : decode cX2_copyFrom 29 = .ok (.getfield 24, 3) := by decide +kernel
theorem d_Law_copyFrom_32 : decode cX2_copyFrom 32 = .ok (.putfield 24, 3) := by decide +kernel
theorem d_Law_copyFrom_35 : decode cX2_copyFrom 35 = .ok (.return_, 1) := by decide +kernel
theorem d_Tc_text_0 : decode cX8_text 0 = .ok (.aload_n 0, 1) := by decide +kernel
theorem d_Tc_text_1 : decode cX8_text 1 = .ok (.getfield 26, 3) := by decide +kernel
theorem d_Tc_text_4 : decode cX8_text 4 = .ok (.iload_n 1, 1) := by decide +kernel
theorem d_Tc_text_5 : decode cX8_text 5 = .ok (.aload_n 0, 1) := by decide +kernel
theorem d_Tc_text_6 : decode cX8_text 6 = .ok (.getfield 10, 3) := by decide +kernel
theorem d_Tc_text_9 : decode cX8_text 9 = .ok (.getfield 47, 3) := by decide +kernel
theorem d_Tc_text_12 : decode cX8_text 12 = .ok (.getfield 120, 3) := by decide +kernel
theorem d_Tc_text_15 : decode cX8_text 15 = .ok (.aload_n 0, 1) := by decide +kernel
theorem d_Tc_text_16 : decode cX8_text 16 = .ok (.getfield 10, 3) := by decide +kernel
theorem d_Tc_text_19 : decode cX8_text 19 = .ok (.getfield 47, 3) := by decide +kernel
theorem d_Tc_text_22 : decode cX8_text 22 = .ok (.getfield 123, 3) := by decide +kernel
theorem d_Tc_text_25 : decode cX8_text 25 = .ok (.invokevirtual 126, 3) := by decide +kernel
theorem d_Tc_text_28 : decode cX8_text 28 = .ok (.istore_n 2, 1) := by decide +kernel
theorem d_Tc_text_29 : decode cX8_text 29 = .ok (.aload_n 0, 1) := by decide +kernel
theorem d_Tc_text_30 : decode cX8_text 30 = .ok (.getfield 26, 3) := by decide +kernel
theorem d_Tc_text_33 : decode cX8_text 33 = .ok (.iconst 0, 1) := by decide +kernel
theorem d_Tc_text_34 : decode cX8_text 34 = .ok (.putfield 113, 3) := by decide +kernel
theorem d_Tc_text_37 : decode cX8_text 37 = .ok (.iload_n 2, 1) := by decide +kernel
theorem d_Tc_text_38 : decode cX8_text 38 = .ok (.ifCond .ne 5, 3) := by decide +kernel
theorem d_Tc_text_41 : decode cX8_text 41 = .ok (.iconst (-1), 1) := by decide +kernel
theorem d_Tc_text_42 : decode cX8_text 42 = .ok (.ireturn, 1) := by decide +kernel
theorem d_Tc_text_43 : decode cX8_text 43 = .ok (.iload_n 1, 1) := by decide +kernel
theorem d_Tc_text_44 : decode cX8_text 44 = .ok (.ifCond .ne 34, 3) := by decide +kernel
theorem d_Tc_text_47 : decode cX8_text 47 = .ok (.aload_n 0, 1) := by decide +kernel
theorem d_Tc_text_48 : decode cX8_text 48 = .ok (.getfield 10, 3) := by decide +kernel
theorem d_Tc_text_51 : decode cX8_text 51 = .ok (.getfield 129, 3) := by decide +kernel
theorem d_Tc_text_54 : decode cX8_text 54 = .ok (.aload_n 0, 1) := by decide +kernel
theorem d_Tc_text_55 : decode cX8_text 55 = .ok (.getfield 26, 3) := by decide +kernel
theorem d_Tc_text_58 : decode cX8_text 58 = .ok (.getfield 133, 3) := by decide +kernel
theorem d_Tc_text_61 : decode cX8_text 61 = .ok (.invokevirtual 134, 3) := by decide +kernel
theorem d_Tc_text_64 : decode cX8_text 64 = .ok (.aload_n 0, 1) := by decide +kernel
theorem d_Tc_text_65 : decode cX8_text 65 = .ok (.getfield 10, 3) := by decide +kernel
theorem d_Tc_text_68 : decode cX8_text 68 = .ok (.getfield 129, 3) := by decide +kernel
theorem d_Tc_text_71 : decode cX8_text 71 = .ok (.getfield 140, 3) := by decide +kernel
theorem d_Tc_text_74 : decode cX8_text 74 = .ok (.getfield 144, 3) := by decide +kernel
theorem d_Tc_text_77 : decode cX8_text 77 = .ok (.ireturn, 1) := by decide +kernel
theorem d_Tc_text_78 : decode cX8_text 78 = .ok (.iload_n 1, 1) := by decide +kernel
theorem d_Tc_text_79 : decode cX8_text 79 = .ok (.iconst 2, 1) := by decide +kernel
theorem d_Tc_text_80 : decode cX8_text 80 = .ok (.if_icmp .ne 10, 3) := by decide +kernel
theorem d_Tc_text_83 : decode cX8_text 83 = .ok (.aload_n 0, 1) := by decide +kernel
theorem d_Tc_text_84 : decode cX8_text 84 = .ok (.getfield 19, 3) := by decide +kernel
theorem d_Tc_text_87 : decode cX8_text 87 = .ok (.invokevirtual 54, 3) := by decide +kernel
theorem d_Tc_text_90 : decode cX8_text 90 = .ok (.iload_n 1, 1) := by decide +kernel
theorem d_Tc_text_91 : decode cX8_text 91 = .ok (.iconst 1, 1) := by decide +kernel
theorem d_Tc_text_92 : decode cX8_text 92 = .ok (.if_icmp .ne 13, 3) := by decide +kernel
theorem d_Tc_text_95 : decode cX8_text 95 = .ok (.aload_n 0, 1) := by decide +kernel
theorem d_Tc_text_96 : decode cX8_text 96 = .ok (.getfield 10, 3) := by decide +kernel
theorem d_Tc_text_99 : decode cX8_text 99 = .ok (.getfield 149, 3) := by decide +kernel
theorem d_Tc_text_102 : decode cX8_text 102 = .ok (.goto 25, 3) := by decide +kernel
theorem d_Tc_text_105 : decode cX8_text 105 = .ok (.iload_n 1, 1) := by decide +kernel
theorem d_Tc_text_106 : decode cX8_text 106 = .ok (.iconst 2, 1) := by decide +kernel
theorem d_Tc_text_107 : decode cX8_text 107 = .ok (.if_icmp .ne 13, 3) := by decide +kernel
theorem d_Tc_text_110 : decode cX8_text 110 = .ok (.aload_n 0, 1) := by decide +kernel
theorem d_Tc_text_111 : decode cX8_text 111 = .ok (.getfield 10, 3) := by decide +kernel
theorem d_Tc_text_114 : decode cX8_text 114 = .ok (.getfield 152, 3) := by decide +kernel
theorem d_Tc_text_117 : decode cX8_text 117 = .ok (.goto 10, 3) := by decide +kernel
theorem d_Tc_text_120 : decode cX8_text 120 = .ok (.aload_n 0, 1) := by decide +kernel
theorem d_Tc_text_121 : decode cX8_text 121 = .ok (.getfield 10, 3) := by decide +kernel
theorem d_Tc_text_124 : decode cX8_text 124 = .ok (.getfield 155, 3) := by decide +kernel
theorem d_Tc_text_127 : decode cX8_text 127 = .ok (.astore_n 3, 1) := by decide +kernel
theorem d_Tc_text_128 : decode cX8_text 128 = .ok (.aload_n 3, 1) := by decide +kernel
theorem d_Tc_text_129 : decode cX8_text 129 = .ok (.aload_n 0, 1) := by decide +kernel
theorem d_Tc_text_130 : decode cX8_text 130 = .ok (.getfield 26, 3) := by decide +kernel
theorem d_Tc_text_133 : decode cX8_text 133 = .ok (.getfield 158, 3) := by decide +kernel
theorem d_Tc_text_136 : decode cX8_text 136 = .ok (.invokevirtual 159, 3) := by decide +kernel
theorem d_Tc_text_139 : decode cX8_text 139 = .ok (.aload_n 3, 1) := by decide +kernel
theorem d_Tc_text_140 : decode cX8_text 140 = .ok (.getfield 144, 3) := by decide +kernel
theorem d_Tc_text_143 : decode cX8_text 143 = .ok (.ireturn, 1) := by decide +kernel
theorem d_Tc_fault_0 : decode cX8_fault 0 = .ok (.iload_n 1, 1) := by decide +kernel
theorem d_Tc_fault_1 : decode cX8_fault 1 = .ok (.ifCond .ne 11, 3) := by decide +kernel
theorem d_Tc_fault_4 : decode cX8_fault 4 = .ok (.aload_n 0, 1) := by decide +kernel
theorem d_Tc_fault_5 : decode cX8_fault 5 = .ok (.getfield 26, 3) := by decide +kernel
theorem d_Tc_fault_8 : decode cX8_fault 8 = .ok (.getfield 162, 3) := by decide +kernel
theorem d_Tc_fault_11 : decode cX8_fault 11 = .ok (.ireturn, 1) := by decide +kernel
theorem d_Tc_fault_12 : decode cX8_fault 12 = .ok (.iload_n 1, 1) := by decide +kernel
theorem d_Tc_fault_13 : decode cX8_fault 13 = .ok (.iconst 1, 1) := by decide +kernel
theorem d_Tc_fault_14 : decode cX8_fault 14 = .ok (.if_icmp .ne 13, 3) := by decide +kernel
theorem d_Tc_fault_17 : decode cX8_fault 17 = .ok (.aload_n 0, 1) := by decide +kernel
theorem d_Tc_fault_18 : decode cX8_fault 18 = .ok (.getfield 26, 3) := by decide +kernel
theorem d_Tc_fault_21 : decode cX8_fault 21 = .ok (.getfield 165, 3) := by decide +kernel
theorem d_Tc_fault_24 : decode cX8_fault 24 = .ok (.goto 4, 3) := by decide +kernel
theorem d_Tc_fault_27 : decode cX8_fault 27 = .ok (.iconst (-1), 1) := by decide +kernel
theorem d_Tc_fault_28 : decode cX8_fault 28 = .ok (.ireturn, 1) := by decide +kernel
theorem d_Tc_of_0 : decode cX8_of 0 = .ok (.aload_n 0, 1) := by decide +kernel
theorem d_Tc_of_1 : decode cX8_of 1 = .ok (.getfield 10, 3) := by decide +kernel
theorem d_Tc_of_4 : decode cX8_of 4 = .ok (.getfield 47, 3) := by decide +kernel
theorem d_Tc_of_7 : decode cX8_of 7 = .ok (.astore_n 3, 1) := by decide +kernel
theorem d_Tc_of_8 : decode cX8_of 8 = .ok (.aload_n 3, 1) := by decide +kernel
theorem d_Tc_of_9 : decode cX8_of 9 = .ok (.iload_n 1, 1) := by decide +kernel
theorem d_Tc_of_10 : decode cX8_of 10 = .ok (.invokevirtual 168, 3) := by decide +kernel
theorem d_Tc_of_13 : decode cX8_of 13 = .ok (.ifCond .ne 6, 3) := by decide +kernel
theorem d_Tc_of_16 : decode cX8_of 16 = .ok (.bipush (-2), 2) := by decide +kernel
theorem d_Tc_of_18 : decode cX8_of 18 = .ok (.ireturn, 1) := by decide +kernel
theorem d_Tc_of_19 : decode cX8_of 19 = .ok (.iload_n 2, 1) := by decide +kernel
theorem d_Tc_of_20 : decode cX8_of 20 = .ok (.bipush 20, 2) := by decide +kernel
theorem d_Tc_of_22 : decode cX8_of 22 = .ok (.if_icmp .lt 34, 3) := by decide +kernel
theorem d_Tc_of_25 : decode cX8_of 25 = .ok (.aload_n 3, 1) := by decide +kernel
theorem d_Tc_of_26 : decode cX8_of 26 = .ok (.iload_n 2, 1) := by decide +kernel
theorem d_Tc_of_27 : decode cX8_of 27 = .ok (.bipush 20, 2) := by decide +kernel
theorem d_Tc_of_29 : decode cX8_of 29 = .ok (.isub, 1) := by decide +kernel
theorem d_Tc_of_30 : decode cX8_of 30 = .ok (.invokevirtual 90, 3) := by decide +kernel
theorem d_Tc_of_33 : decode cX8_of 33 = .ok (.ifCond .eq 20, 3) := by decide +kernel
theorem d_Tc_of_36 : decode cX8_of 36 = .ok (.aload_n 0, 1) := by decide +kernel
theorem d_Tc_of_37 : decode cX8_of 37 = .ok (.getfield 10, 3) := by decide +kernel
theorem d_Tc_of_40 : decode cX8_of 40 = .ok (.aload_n 3, 1) := by decide +kernel
theorem d_Tc_of_41 : decode cX8_of 41 = .ok (.iconst 2, 1) := by decide +kernel
theorem d_Tc_of_42 : decode cX8_of 42 = .ok (.iload_n 1, 1) := by decide +kernel
theorem d_Tc_of_43 : decode cX8_of 43 = .ok (.iload_n 2, 1) := by decide +kernel
theorem d_Tc_of_44 : decode cX8_of 44 = .ok (.bipush 20, 2) := by decide +kernel
theorem d_Tc_of_46 : decode cX8_of 46 = .ok (.isub, 1) := by decide +kernel
theorem d_Tc_of_47 : decode cX8_of 47 = .ok (.invokevirtual 171, 3) := by decide +kernel
theorem d_Tc_of_50 : decode cX8_of 50 = .ok (.goto 5, 3) := by decide +kernel
theorem d_Tc_of_53 : decode cX8_of 53 = .ok (.bipush (-2), 2) := by decide +kernel
theorem d_Tc_of_55 : decode cX8_of 55 = .ok (.ireturn, 1) := by decide +kernel
theorem d_Tc_of_56 : decode cX8_of 56 = .ok (.iload_n 2, 1) := by decide +kernel
theorem d_Tc_of_57 : decode cX8_of 57 = .ok (.bipush 10, 2) := by decide +kernel
theorem d_Tc_of_59 : decode cX8_of 59 = .ok (.if_icmp .lt 34, 3) := by decide +kernel
theorem d_Tc_of_62 : decode cX8_of 62 = .ok (.aload_n 3, 1) := by decide +kernel
theorem d_Tc_of_63 : decode cX8_of 63 = .ok (.iload_n 2, 1) := by decide +kernel
theorem d_Tc_of_64 : decode cX8_of 64 = .ok (.bipush 10, 2) := by decide +kernel
theorem d_Tc_of_66 : decode cX8_of 66 = .ok (.isub, 1) := by decide +kernel
theorem d_Tc_of_67 : decode cX8_of 67 = .ok (.invokevirtual 90, 3) := by decide +kernel
theorem d_Tc_of_70 : decode cX8_of 70 = .ok (.ifCond .eq 20, 3) := by decide +kernel
theorem d_Tc_of_73 : decode cX8_of 73 = .ok (.aload_n 0, 1) := by decide +kernel
theorem d_Tc_of_74 : decode cX8_of 74 = .ok (.getfield 10, 3) := by decide +kernel
theorem d_Tc_of_77 : decode cX8_of 77 = .ok (.aload_n 3, 1) := by decide +kernel
theorem d_Tc_of_78 : decode cX8_of 78 = .ok (.iconst 1, 1) := by decide +kernel
theorem d_Tc_of_79 : decode cX8_of 79 = .ok (.iload_n 1, 1) := by decide +kernel
theorem d_Tc_of_80 : decode cX8_of 80 = .ok (.iload_n 2, 1) := by decide +kernel
theorem d_Tc_of_81 : decode cX8_of 81 = .ok (.bipush 10, 2) := by decide +kernel
theorem d_Tc_of_83 : decode cX8_of 83 = .ok (.isub, 1) := by decide +kernel
theorem d_Tc_of_84 : decode cX8_of 84 = .ok (.invokevirtual 171, 3) := by decide +kernel
theorem d_Tc_of_87 : decode cX8_of 87 = .ok (.goto 5, 3) := by decide +kernel
theorem d_Tc_of_90 : decode cX8_of 90 = .ok (.bipush (-2), 2) := by decide +kernel
theorem d_Tc_of_92 : decode cX8_of 92 = .ok (.ireturn, 1) := by decide +kernel
theorem d_Tc_of_93 : decode cX8_of 93 = .ok (.iload_n 2, 1) := by decide +kernel
theorem d_Tc_of_94 : decode cX8_of 94 = .ok (.tableswitch 124 0 8 #[50, 57, 64, 71, 78, 85, 94, 103, 112], 50) := by decide +kernel
theorem d_Tc_of_144 : decode cX8_of 144 = .ok (.aload_n 3, 1) := by decide +kernel
theorem d_Tc_of_145 : decode cX8_of 145 = .ok (.getfield 175, 3) := by decide +kernel
theorem d_Tc_of_148 : decode cX8_of 148 = .ok (.iload_n 1, 1) := by decide +kernel
theorem d_Tc_of_149 : decode cX8_of 149 = .ok (.iaload, 1) := by decide +kernel
theorem d_Tc_of_150 : decode cX8_of 150 = .ok (.ireturn, 1) := by decide +kernel
theorem d_Tc_of_151 : decode cX8_of 151 = .ok (.aload_n 3, 1) := by decide +kernel
theorem d_Tc_of_152 : decode cX8_of 152 = .ok (.getfield 179, 3) := by decide +kernel
theorem d_Tc_of_155 : decode cX8_of 155 = .ok (.iload_n 1, 1) := by decide +kernel
theorem d_Tc_of_156 : decode cX8_of 156 = .ok (.iaload, 1) := by decide +kernel
theorem d_Tc_of_157 : decode cX8_of 157 = .ok (.ireturn, 1) := by decide +kernel
theorem d_Tc_of_158 : decode cX8_of 158 = .ok (.aload_n 3, 1) := by decide +kernel
theorem d_Tc_of_159 : decode cX8_of 159 = .ok (.getfield 182, 3) := by decide +kernel
theorem d_Tc_of_162 : decode cX8_of 162 = .ok (.iload_n 1, 1) := by decide +kernel
theorem d_Tc_of_163 : decode cX8_of 163 = .ok (.iaload, 1) := by decide +kernel
theorem d_Tc_of_164 : decode cX8_of 164 = .ok (.ireturn, 1) := by decide +kernel
theorem d_Tc_of_165 : decode cX8_of 165 = .ok (.aload_n 3, 1) := by decide +kernel
theorem d_Tc_of_166 : decode cX8_of 166 = .ok (.getfield 185, 3) := by decide +kernel
theorem d_Tc_of_169 : decode cX8_of 169 = .ok (.iload_n 1, 1) := by decide +kernel
theorem d_Tc_of_170 : decode cX8_of 170 = .ok (.iaload, 1) := by decide +kernel
theorem d_Tc_of_171 : decode cX8_of 171 = .ok (.ireturn, 1) := by decide +kernel
theorem d_Tc_of_172 : decode cX8_of 172 = .ok (.aload_n 3, 1) := by decide +kernel
theorem d_Tc_of_173 : decode cX8_of 173 = .ok (.getfield 188, 3) := by decide +kernel
theorem d_Tc_of_176 : decode cX8_of 176 = .ok (.iload_n 1, 1) := by decide +kernel
theorem d_Tc_of_177 : decode cX8_of 177 = .ok (.iaload, 1) := by decide +kernel
theorem d_Tc_of_178 : decode cX8_of 178 = .ok (.ireturn, 1) := by decide +kernel
theorem d_Tc_of_179 : decode cX8_of 179 = .ok (.aload_n 3, 1) := by decide +kernel
theorem d_Tc_of_180 : decode cX8_of 180 = .ok (.getfield 100, 3) := by decide +kernel
theorem d_Tc_of_183 : decode cX8_of 183 = .ok (.iload_n 1, 1) := by decide +kernel
theorem d_Tc_of_184 : decode cX8_of 184 = .ok (.ishr, 1) := by decide +kernel
theorem d_Tc_of_185 : decode cX8_of 185 = .ok (.iconst 1, 1) := by decide +kernel
theorem d_Tc_of_186 : decode cX8_of 186 = .ok (.iand, 1) := by decide +kernel
theorem d_Tc_of_187 : decode cX8_of 187 = .ok (.ireturn, 1) := by decide +kernel
theorem d_Tc_of_188 : decode cX8_of 188 = .ok (.aload_n 3, 1) := by decide +kernel
theorem d_Tc_of_189 : decode cX8_of 189 = .ok (.getfield 191, 3) := by decide +kernel
theorem d_Tc_of_192 : decode cX8_of 192 = .ok (.iload_n 1, 1) := by decide +kernel
theorem d_Tc_of_193 : decode cX8_of 193 = .ok (.ishr, 1) := by decide +kernel
theorem d_Tc_of_194 : decode cX8_of 194 = .ok (.iconst 1, 1) := by decide +kernel
theorem d_Tc_of_195 : decode cX8_of 195 = .ok (.iand, 1) := by decide +kernel
theorem d_Tc_of_196 : decode cX8_of 196 = .ok (.ireturn, 1) := by decide +kernel
theorem d_Tc_of_197 : decode cX8_of 197 = .ok (.aload_n 0, 1) := by decide +kernel
theorem d_Tc_of_198 : decode cX8_of 198 = .ok (.getfield 10, 3) := by decide +kernel
theorem d_Tc_of_201 : decode cX8_of 201 = .ok (.iload_n 1, 1) := by decide +kernel
theorem d_Tc_of_202 : decode cX8_of 202 = .ok (.invokevirtual 194, 3) := by decide +kernel
theorem d_Tc_of_205 : decode cX8_of 205 = .ok (.ireturn, 1) := by decide +kernel
theorem d_Tc_of_206 : decode cX8_of 206 = .ok (.aload_n 0, 1) := by decide +kernel
theorem d_Tc_of_207 : decode cX8_of 207 = .ok (.getfield 10, 3) := by decide +kernel
theorem d_Tc_of_210 : decode cX8_of 210 = .ok (.aload_n 3, 1) := by decide +kernel
theorem d_Tc_of_211 : decode cX8_of 211 = .ok (.iconst 0, 1) := by decide +kernel
theorem d_Tc_of_212 : decode cX8_of 212 = .ok (.iload_n 1, 1) := by decide +kernel
theorem d_Tc_of_213 : decode cX8_of 213 = .ok (.iconst (-1), 1) := by decide +kernel
theorem d_Tc_of_214 : decode cX8_of 214 = .ok (.invokevirtual 171, 3) := by decide +kernel
theorem d_Tc_of_217 : decode cX8_of 217 = .ok (.ireturn, 1) := by decide +kernel
theorem d_Tc_of_218 : decode cX8_of 218 = .ok (.bipush (-2), 2) := by decide +kernel
theorem d_Tc_of_220 : decode cX8_of 220 = .ok (.ireturn, 1) := by decide +kernel
theorem d_Tc_who_0 : decode cX8_who 0 = .ok (.aload_n 0, 1) := by decide +kernel
theorem d_Tc_who_1 : decode cX8_who 1 = .ok (.getfield 10, 3) := by decide +kernel
theorem d_Tc_who_4 : decode cX8_who 4 = .ok (.getfield 47, 3) := by decide +kernel
theorem d_Tc_who_7 : decode cX8_who 7 = .ok (.astore_n 3, 1) := by decide +kernel
theorem d_Tc_who_8 : decode cX8_who 8 = .ok (.aload_n 3, 1) := by decide +kernel
theorem d_Tc_who_9 : decode cX8_who 9 = .ok (.iload_n 1, 1) := by decide +kernel
theorem d_Tc_who_10 : decode cX8_who 10 = .ok (.invokevirtual 90, 3) := by decide +kernel
theorem d_Tc_who_13 : decode cX8_who 13 = .ok (.ifCond .ne 5, 3) := by decide +kernel
theorem d_Tc_who_16 : decode cX8_who 16 = .ok (.iconst (-1), 1) := by decide +kernel
theorem d_Tc_who_17 : decode cX8_who 17 = .ok (.ireturn, 1) := by decide +kernel
theorem d_Tc_who_18 : decode cX8_who 18 = .ok (.iload_n 2, 1) := by decide +kernel
theorem d_Tc_who_19 : decode cX8_who 19 = .ok (.tableswitch 57 0 3 #[29, 36, 43, 50], 29) := by decide +kernel
theorem d_Tc_who_48 : decode cX8_who 48 = .ok (.aload_n 3, 1) := by decide +kernel
theorem d_Tc_who_49 : decode cX8_who 49 = .ok (.getfield 197, 3) := by decide +kernel
theorem d_Tc_who_52 : decode cX8_who 52 = .ok (.iload_n 1, 1) := by decide +kernel
theorem d_Tc_who_53 : decode cX8_who 53 = .ok (.iaload, 1) := by decide +kernel
theorem d_Tc_who_54 : decode cX8_who 54 = .ok (.ireturn, 1) := by decide +kernel
theorem d_Tc_who_55 : decode cX8_who 55 = .ok (.aload_n 3, 1) := by decide +kernel
theorem d_Tc_who_56 : decode cX8_who 56 = .ok (.getfield 200, 3) := by decide +kernel
theorem d_Tc_who_59 : decode cX8_who 59 = .ok (.iload_n 1, 1) := by decide +kernel
theorem d_Tc_who_60 : decode cX8_who 60 = .ok (.iaload, 1) := by decide +kernel
theorem d_Tc_who_61 : decode cX8_who 61 = .ok (.ireturn, 1) := by decide +kernel
theorem d_Tc_who_62 : decode cX8_who 62 = .ok (.aload_n 3, 1) := by decide +kernel
theorem d_Tc_who_63 : decode cX8_who 63 = .ok (.getfield 203, 3) := by decide +kernel
theorem d_Tc_who_66 : decode cX8_who 66 = .ok (.iload_n 1, 1) := by decide +kernel
theorem d_Tc_who_67 : decode cX8_who 67 = .ok (.iaload, 1) := by decide +kernel
theorem d_Tc_who_68 : decode cX8_who 68 = .ok (.ireturn, 1) := by decide +kernel
theorem d_Tc_who_69 : decode cX8_who 69 = .ok (.aload_n 3, 1) := by decide +kernel
theorem d_Tc_who_70 : decode cX8_who 70 = .ok (.getfield 206, 3) := by decide +kernel
theorem d_Tc_who_73 : decode cX8_who 73 = .ok (.iload_n 1, 1) := by decide +kernel
theorem d_Tc_who_74 : decode cX8_who 74 = .ok (.iaload, 1) := by decide +kernel
theorem d_Tc_who_75 : decode cX8_who 75 = .ok (.ireturn, 1) := by decide +kernel
theorem d_Tc_who_76 : decode cX8_who 76 = .ok (.iconst (-1), 1) := by decide +kernel
theorem d_Tc_who_77 : decode cX8_who 77 = .ok (.ireturn, 1) := by decide +kernel
theorem d_Land_bookCell_0 : decode cX1_bookCell 0 = .ok (.iload_n 1, 1) := by decide +kernel
theorem d_Land_bookCell_1 : decode cX1_bookCell 1 = .ok (.iconst 4, 1) := by decide +kernel
theorem d_Land_bookCell_2 : decode cX1_bookCell 2 = .ok (.imul, 1) := by decide +kernel
theorem d_Land_bookCell_3 : decode cX1_bookCell 3 = .ok (.iload_n 2, 1) := by decide +kernel
theorem d_Land_bookCell_4 : decode cX1_bookCell 4 = .ok (.iadd, 1) := by decide +kernel
theorem d_Land_bookCell_5 : decode cX1_bookCell 5 = .ok (.istore_n 3, 1) := by decide +kernel
theorem d_Land_bookCell_6 : decode cX1_bookCell 6 = .ok (.iload_n 3, 1) := by decide +kernel
theorem d_Land_bookCell_7 : decode cX1_bookCell 7 = .ok (.aload_n 0, 1) := by decide +kernel
theorem d_Land_bookCell_8 : decode cX1_bookCell 8 = .ok (.getfield 18, 3) := by decide +kernel
theorem d_Land_bookCell_11 : decode cX1_bookCell 11 = .ok (.arraylength, 1) := by decide +kernel
theorem d_Land_bookCell_12 : decode cX1_bookCell 12 = .ok (.iconst 1, 1) := by decide +kernel
theorem d_Land_bookCell_13 : decode cX1_bookCell 13 = .ok (.isub, 1) := by decide +kernel
theorem d_Land_bookCell_14 : decode cX1_bookCell 14 = .ok (.invokestatic 70, 3) := by decide +kernel
theorem d_Land_bookCell_17 : decode cX1_bookCell 17 = .ok (.ifCond .eq 12, 3) := by decide +kernel
theorem d_Land_bookCell_20 : decode cX1_bookCell 20 = .ok (.aload_n 0, 1) := by decide +kernel
theorem d_Land_bookCell_21 : decode cX1_bookCell 21 = .ok (.getfield 18, 3) := by decide +kernel
theorem d_Land_bookCell_24 : decode cX1_bookCell 24 = .ok (.iload_n 3, 1) := by decide +kernel
theorem d_Land_bookCell_25 : decode cX1_bookCell 25 = .ok (.iaload, 1) := by decide +kernel
theorem d_Land_bookCell_26 : decode cX1_bookCell 26 = .ok (.goto 4, 3) := by decide +kernel
theorem d_Land_bookCell_29 : decode cX1_bookCell 29 = .ok (.iconst (-1), 1) := by decide +kernel
theorem d_Land_bookCell_30 : decode cX1_bookCell 30 = .ok (.ireturn, 1) := by decide +kernel
theorem d_Tc_book_0 : decode cX8_book 0 = .ok (.iload_n 1, 1) := by decide +kernel
theorem d_Tc_book_1 : decode cX8_book 1 = .ok (.ifCond .lt 25, 3) := by decide +kernel
theorem d_Tc_book_4 : decode cX8_book 4 = .ok (.iload_n 1, 1) := by decide +kernel
theorem d_Tc_book_5 : decode cX8_book 5 = .ok (.aload_n 0, 1) := by decide +kernel
theorem d_Tc_book_6 : decode cX8_book 6 = .ok (.getfield 10, 3) := by decide +kernel
theorem d_Tc_book_9 : decode cX8_book 9 = .ok (.getfield 47, 3) := by decide +kernel
theorem d_Tc_book_12 : decode cX8_book 12 = .ok (.getfield 209, 3) := by decide +kernel
theorem d_Tc_book_15 : decode cX8_book 15 = .ok (.if_icmp .ge 11, 3) := by decide +kernel
theorem d_Tc_book_18 : decode cX8_book 18 = .ok (.iload_n 2, 1) := by decide +kernel
theorem d_Tc_book_19 : decode cX8_book 19 = .ok (.iconst 3, 1) := by decide +kernel
theorem d_Tc_book_20 : decode cX8_book 20 = .ok (.invokestatic 57, 3) := by decide +kernel
theorem d_Tc_book_23 : decode cX8_book 23 = .ok (.ifCond .ne 5, 3) := by decide +kernel
theorem d_Tc_book_26 : decode cX8_book 26 = .ok (.iconst (-1), 1) := by decide +kernel
theorem d_Tc_book_27 : decode cX8_book 27 = .ok (.ireturn, 1) := by decide +kernel
theorem d_Tc_book_28 : decode cX8_book 28 = .ok (.aload_n 0, 1) := by decide +kernel
theorem d_Tc_book_29 : decode cX8_book 29 = .ok (.getfield 10, 3) := by decide +kernel
theorem d_Tc_book_32 : decode cX8_book 32 = .ok (.iload_n 1, 1) := by decide +kernel
theorem d_Tc_book_33 : decode cX8_book 33 = .ok (.iload_n 2, 1) := by decide +kernel
theorem d_Tc_book_34 : decode cX8_book 34 = .ok (.invokevirtual 211, 3) := by decide +kernel
theorem d_Tc_book_37 : decode cX8_book 37 = .ok (.ireturn, 1) := by decide +kernel
theorem d_Tc_goes_0 : decode cX8_goes 0 = .ok (.iload_n 1, 1) := by decide +kernel
theorem d_Tc_goes_1 : decode cX8_goes 1 = .ok (.iconst 1, 1) := by decide +kernel
theorem d_Tc_goes_2 : decode cX8_goes 2 = .ok (.if_icmp .lt 17, 3) := by decide +kernel
theorem d_Tc_goes_5 : decode cX8_goes 5 = .ok (.iload_n 1, 1) := by decide +kernel
theorem d_Tc_goes_6 : decode cX8_goes 6 = .ok (.bipush 60, 2) := by decide +kernel
theorem d_Tc_goes_8 : decode cX8_goes 8 = .ok (.if_icmp .gt 11, 3) := by decide +kernel
theorem d_Tc_goes_11 : decode cX8_goes 11 = .ok (.iload_n 2, 1) := by decide +kernel
theorem d_Tc_goes_12 : decode cX8_goes 12 = .ok (.iconst 3, 1) := by decide +kernel
theorem d_Tc_goes_13 : decode cX8_goes 13 = .ok (.invokestatic 57, 3) := by decide +kernel
theorem d_Tc_goes_16 : decode cX8_goes 16 = .ok (.ifCond .ne 5, 3) := by decide +kernel
theorem d_Tc_goes_19 : decode cX8_goes 19 = .ok (.iconst (-1), 1) := by decide +kernel
theorem d_Tc_goes_20 : decode cX8_goes 20 = .ok (.ireturn, 1) := by decide +kernel
theorem d_Tc_goes_21 : decode cX8_goes 21 = .ok (.aload_n 0, 1) := by decide +kernel
theorem d_Tc_goes_22 : decode cX8_goes 22 = .ok (.getfield 33, 3) := by decide +kernel
theorem d_Tc_goes_25 : decode cX8_goes 25 = .ok (.aload_n 0, 1) := by decide +kernel
theorem d_Tc_goes_26 : decode cX8_goes 26 = .ok (.getfield 10, 3) := by decide +kernel
theorem d_Tc_goes_29 : decode cX8_goes 29 = .ok (.getfield 47, 3) := by decide +kernel
theorem d_Tc_goes_32 : decode cX8_goes 32 = .ok (.invokevirtual 215, 3) := by decide +kernel
theorem d_Tc_goes_35 : decode cX8_goes 35 = .ok (.iconst 0, 1) := by decide +kernel
theorem d_Tc_goes_36 : decode cX8_goes 36 = .ok (.istore_n 3, 1) := by decide +kernel
theorem d_Tc_goes_37 : decode cX8_goes 37 = .ok (.iload_n 3, 1) := by decide +kernel
theorem d_Tc_goes_38 : decode cX8_goes 38 = .ok (.iload_n 1, 1) := by decide +kernel
theorem d_Tc_goes_39 : decode cX8_goes 39 = .ok (.if_icmp .ge 21, 3) := by decide +kernel
theorem d_Tc_goes_42 : decode cX8_goes 42 = .ok (.aload_n 0, 1) := by decide +kernel
theorem d_Tc_goes_43 : decode cX8_goes 43 = .ok (.getfield 10, 3) := by decide +kernel
theorem d_Tc_goes_46 : decode cX8_goes 46 = .ok (.aload_n 0, 1) := by decide +kernel
theorem d_Tc_goes_47 : decode cX8_goes 47 = .ok (.getfield 33, 3) := by decide +kernel
theorem d_Tc_goes_50 : decode cX8_goes 50 = .ok (.iconst 1, 1) := by decide +kernel
theorem d_Tc_goes_51 : decode cX8_goes 51 = .ok (.invokevirtual 109, 3) := by decide +kernel
theorem d_Tc_goes_54 : decode cX8_goes 54 = .ok (.iinc 3 1, 3) := by decide +kernel
theorem d_Tc_goes_57 : decode cX8_goes 57 = .ok (.goto (-20), 3) := by decide +kernel
theorem d_Tc_goes_60 : decode cX8_goes 60 = .ok (.iload_n 2, 1) := by decide +kernel
theorem d_Tc_goes_61 : decode cX8_goes 61 = .ok (.tableswitch 54 0 2 #[27, 35, 46], 27) := by decide +kernel
theorem d_Tc_goes_88 : decode cX8_goes 88 = .ok (.aload_n 0, 1) := by decide +kernel
theorem d_Tc_goes_89 : decode cX8_goes 89 = .ok (.getfield 33, 3) := by decide +kernel
theorem d_Tc_goes_92 : decode cX8_goes 92 = .ok (.getfield 217, 3) := by decide +kernel
theorem d_Tc_goes_95 : decode cX8_goes 95 = .ok (.ireturn, 1) := by decide +kernel
theorem d_Tc_goes_96 : decode cX8_goes 96 = .ok (.aload_n 0, 1) := by decide +kernel
theorem d_Tc_goes_97 : decode cX8_goes 97 = .ok (.getfield 33, 3) := by decide +kernel
theorem d_Tc_goes_100 : decode cX8_goes 100 = .ok (.getfield 100, 3) := by decide +kernel
theorem d_Tc_goes_103 : decode cX8_goes 103 = .ok (.invokestatic 103, 3) := by decide +kernel
theorem d_Tc_goes_106 : decode cX8_goes 106 = .ok (.ireturn, 1) := by decide +kernel
theorem d_Tc_goes_107 : decode cX8_goes 107 = .ok (.aload_n 0, 1) := by decide +kernel
theorem d_Tc_goes_108 : decode cX8_goes 108 = .ok (.getfield 33, 3) := by decide +kernel
theorem d_Tc_goes_111 : decode cX8_goes 111 = .ok (.getfield 220, 3) := by decide +kernel
theorem d_Tc_goes_114 : decode cX8_goes 114 = .ok (.ireturn, 1) := by decide +kernel
theorem d_Tc_goes_115 : decode cX8_goes 115 = .ok (.aload_n 0, 1) := by decide +kernel
theorem d_Tc_goes_116 : decode cX8_goes 116 = .ok (.getfield 33, 3) := by decide +kernel
theorem d_Tc_goes_119 : decode cX8_goes 119 = .ok (.getfield 191, 3) := by decide +kernel
theorem d_Tc_goes_122 : decode cX8_goes 122 = .ok (.invokestatic 103, 3) := by decide +kernel
theorem d_Tc_goes_125 : decode cX8_goes 125 = .ok (.ireturn, 1) := by decide +kernel
theorem d_Realm_takenAt_0 : decode cX5_takenAt 0 = .ok (.iconst 0, 1) := by decide +kernel
theorem d_Realm_takenAt_1 : decode cX5_takenAt 1 = .ok (.istore_n 2, 1) := by decide +kernel
theorem d_Realm_takenAt_2 : decode cX5_takenAt 2 = .ok (.iconst 0, 1) := by decide +kernel
theorem d_Realm_takenAt_3 : decode cX5_takenAt 3 = .ok (.istore_n 3, 1) := by decide +kernel
theorem d_Realm_takenAt_4 : decode cX5_takenAt 4 = .ok (.iload_n 3, 1) := by decide +kernel
theorem d_Realm_takenAt_5 : decode cX5_takenAt 5 = .ok (.aload_n 0, 1) := by decide +kernel
theorem d_Realm_takenAt_6 : decode cX5_takenAt 6 = .ok (.getfield 15, 3) := by decide +kernel
theorem d_Realm_takenAt_9 : decode cX5_takenAt 9 = .ok (.if_icmp .ge 45, 3) := by decide +kernel
theorem d_Realm_takenAt_12 : decode cX5_takenAt 12 = .ok (.aload_n 0, 1) := by decide +kernel
theorem d_Realm_takenAt_13 : decode cX5_takenAt 13 = .ok (.iload_n 3, 1) := by decide +kernel
theorem d_Realm_takenAt_14 : decode cX5_takenAt 14 = .ok (.invokevirtual 90, 3) := by decide +kernel
theorem d_Realm_takenAt_17 : decode cX5_takenAt 17 = .ok (.ifCond .eq 31, 3) := by decide +kernel
theorem d_Realm_takenAt_20 : decode cX5_takenAt 20 = .ok (.aload_n 0, 1) := by decide +kernel
theorem d_Realm_takenAt_21 : decode cX5_takenAt 21 = .ok (.getfield 25, 3) := by decide +kernel
theorem d_Realm_takenAt_24 : decode cX5_takenAt 24 = .ok (.iload_n 3, 1) := by decide +kernel
theorem d_Realm_takenAt_25 : decode cX5_takenAt 25 = .ok (.iaload, 1) := by decide +kernel
theorem d_Realm_takenAt_26 : decode cX5_takenAt 26 = .ok (.iload_n 1, 1) := by decide +kernel
theorem d_Realm_takenAt_27 : decode cX5_takenAt 27 = .ok (.aload_n 0, 1) := by decide +kernel
theorem d_Realm_takenAt_28 : decode cX5_takenAt 28 = .ok (.getfield 28, 3) := by decide +kernel
theorem d_Realm_takenAt_31 : decode cX5_takenAt 31 = .ok (.iload_n 3, 1) := by decide +kernel
theorem d_Realm_takenAt_32 : decode cX5_takenAt 32 = .ok (.iaload, 1) := by decide +kernel
theorem d_Realm_takenAt_33 : decode cX5_takenAt 33 = .ok (.imul, 1) := by decide +kernel
theorem d_Realm_takenAt_34 : decode cX5_takenAt 34 = .ok (.if_icmp .lt 14, 3) := by decide +kernel
theorem d_Realm_takenAt_37 : decode cX5_takenAt 37 = .ok (.iload_n 2, 1) := by decide +kernel
theorem d_Realm_takenAt_38 : decode cX5_takenAt 38 = .ok (.iload_n 1, 1) := by decide +kernel
theorem d_Realm_takenAt_39 : decode cX5_takenAt 39 = .ok (.aload_n 0, 1) := by decide +kernel
theorem d_Realm_takenAt_40 : decode cX5_takenAt 40 = .ok (.getfield 28, 3) := by decide +kernel
theorem d_Realm_takenAt_43 : decode cX5_takenAt 43 = .ok (.iload_n 3, 1) := by decide +kernel
theorem d_Realm_takenAt_44 : decode cX5_takenAt 44 = .ok (.iaload, 1) := by decide +kernel
theorem d_Realm_takenAt_45 : decode cX5_takenAt 45 = .ok (.imul, 1) := by decide +kernel
theorem d_Realm_takenAt_46 : decode cX5_takenAt 46 = .ok (.iadd, 1) := by decide +kernel
theorem d_Realm_takenAt_47 : decode cX5_takenAt 47 = .ok (.istore_n 2, 1) := by decide +kernel
theorem d_Realm_takenAt_48 : decode cX5_takenAt 48 = .ok (.iinc 3 1, 3) := by decide +kernel
theorem d_Realm_takenAt_51 : decode cX5_takenAt 51 = .ok (.goto (-47), 3) := by decide +kernel
theorem d_Realm_takenAt_54 : decode cX5_takenAt 54 = .ok (.iload_n 2, 1) := by decide +kernel
theorem d_Realm_takenAt_55 : decode cX5_takenAt 55 = .ok (.ireturn, 1) := by decide +kernel
theorem d_Realm_bestRate_0 : decode cX5_bestRate 0 = .ok (.iconst 0, 1) := by decide +kernel
theorem d_Realm_bestRate_1 : decode cX5_bestRate 1 = .ok (.istore_n 1, 1) := by decide +kernel
theorem d_Realm_bestRate_2 : decode cX5_bestRate 2 = .ok (.iconst 0, 1) := by decide +kernel
theorem d_Realm_bestRate_3 : decode cX5_bestRate 3 = .ok (.istore_n 2, 1) := by decide +kernel
theorem d_Realm_bestRate_4 : decode cX5_bestRate 4 = .ok (.iconst 1, 1) := by decide +kernel
theorem d_Realm_bestRate_5 : decode cX5_bestRate 5 = .ok (.istore_n 3, 1) := by decide +kernel
theorem d_Realm_bestRate_6 : decode cX5_bestRate 6 = .ok (.iload_n 3, 1) := by decide +kernel
theorem d_Realm_bestRate_7 : decode cX5_bestRate 7 = .ok (.bipush 99, 2) := by decide +kernel
theorem d_Realm_bestRate_9 : decode cX5_bestRate 9 = .ok (.if_icmp .gt 27, 3) := by decide +kernel
theorem d_Realm_bestRate_12 : decode cX5_bestRate 12 = .ok (.aload_n 0, 1) := by decide +kernel
theorem d_Realm_bestRate_13 : decode cX5_bestRate 13 = .ok (.iload_n 3, 1) := by decide +kernel
theorem d_Realm_bestRate_14 : decode cX5_bestRate 14 = .ok (.invokevirtual 108, 3) := by decide +kernel
theorem d_Realm_bestRate_17 : decode cX5_bestRate 17 = .ok (.istore 4, 2) := by decide +kernel
theorem d_Realm_bestRate_19 : decode cX5_bestRate 19 = .ok (.iload 4, 2) := by decide +kernel
theorem d_Realm_bestRate_21 : decode cX5_bestRate 21 = .ok (.iload_n 2, 1) := by decide +kernel
theorem d_Realm_bestRate_22 : decode cX5_bestRate 22 = .ok (.if_icmp .le 8, 3) := by decide +kernel
theorem d_Realm_bestRate_25 : decode cX5_bestRate 25 = .ok (.iload 4, 2) := by decide +kernel
theorem d_Realm_bestRate_27 : decode cX5_bestRate 27 = .ok (.istore_n 2, 1) := by decide +kernel
theorem d_Realm_bestRate_28 : decode cX5_bestRate 28 = .ok (.iload_n 3, 1) := by decide +kernel
theorem d_Realm_bestRate_29 : decode cX5_bestRate 29 = .ok (.istore_n 1, 1) := by decide +kernel
theorem d_Realm_bestRate_30 : decode cX5_bestRate 30 = .ok (.iinc 3 1, 3) := by decide +kernel
theorem d_Realm_bestRate_33 : decode cX5_bestRate 33 = .ok (.goto (-27), 3) := by decide +kernel
theorem d_Realm_bestRate_36 : decode cX5_bestRate 36 = .ok (.iload_n 1, 1) := by decide +kernel
theorem d_Realm_bestRate_37 : decode cX5_bestRate 37 = .ok (.ireturn, 1) := by decide +kernel
theorem d_Tc_rate_0 : decode cX8_rate 0 = .ok (.iload_n 1, 1) := by decide +kernel
theorem d_Tc_rate_1 : decode cX8_rate 1 = .ok (.iconst 1, 1) := by decide +kernel
theorem d_Tc_rate_2 : decode cX8_rate 2 = .ok (.invokestatic 57, 3) := by decide +kernel
theorem d_Tc_rate_5 : decode cX8_rate 5 = .ok (.ifCond .ne 5, 3) := by decide +kernel
theorem d_Tc_rate_8 : decode cX8_rate 8 = .ok (.iconst (-1), 1) := by decide +kernel
theorem d_Tc_rate_9 : decode cX8_rate 9 = .ok (.ireturn, 1) := by decide +kernel
theorem d_Tc_rate_10 : decode cX8_rate 10 = .ok (.aload_n 0, 1) := by decide +kernel
theorem d_Tc_rate_11 : decode cX8_rate 11 = .ok (.getfield 10, 3) := by decide +kernel
theorem d_Tc_rate_14 : decode cX8_rate 14 = .ok (.getfield 47, 3) := by decide +kernel
theorem d_Tc_rate_17 : decode cX8_rate 17 = .ok (.invokevirtual 223, 3) := by decide +kernel
theorem d_Tc_rate_20 : decode cX8_rate 20 = .ok (.istore_n 2, 1) := by decide +kernel
theorem d_Tc_rate_21 : decode cX8_rate 21 = .ok (.iload_n 1, 1) := by decide +kernel
theorem d_Tc_rate_22 : decode cX8_rate 22 = .ok (.ifCond .ne 7, 3) := by decide +kernel
theorem d_Tc_rate_25 : decode cX8_rate 25 = .ok (.iload_n 2, 1) := by decide +kernel
theorem d_Tc_rate_26 : decode cX8_rate 26 = .ok (.goto 14, 3) := by decide +kernel
theorem d_Tc_rate_29 : decode cX8_rate 29 = .ok (.aload_n 0, 1) := by decide +kernel
theorem d_Tc_rate_30 : decode cX8_rate 30 = .ok (.getfield 10, 3) := by decide +kernel
theorem d_Tc_rate_33 : decode cX8_rate 33 = .ok (.getfield 47, 3) := by decide +kernel
theorem d_Tc_rate_36 : decode cX8_rate 36 = .ok (.iload_n 2, 1) := by decide +kernel
theorem d_Tc_rate_37 : decode cX8_rate 37 = .ok (.invokevirtual 227, 3) := by decide +kernel
theorem d_Tc_rate_40 : decode cX8_rate 40 = .ok (.ireturn, 1) := by decide +kernel
theorem d_Tc_order_0 : decode cX8_order 0 = .ok (.iload_n 1, 1) := by decide +kernel
theorem d_Tc_order_1 : decode cX8_order 1 = .ok (.iconst (-1), 1) := by decide +kernel
theorem d_Tc_order_2 : decode cX8_order 2 = .ok (.if_icmp .ne 17, 3) := by decide +kernel
theorem d_Tc_order_5 : decode cX8_order 5 = .ok (.aload_n 0, 1) := by decide +kernel
theorem d_Tc_order_6 : decode cX8_order 6 = .ok (.getfield 10, 3) := by decide +kernel
theorem d_Tc_order_9 : decode cX8_order 9 = .ok (.getfield 230, 3) := by decide +kernel
theorem d_Tc_order_12 : decode cX8_order 12 = .ok (.getfield 234, 3) := by decide +kernel
theorem d_Tc_order_15 : decode cX8_order 15 = .ok (.invokevirtual 239, 3) := by decide +kernel
theorem d_Tc_order_18 : decode cX8_order 18 = .ok (.ireturn, 1) := by decide +kernel
theorem d_Tc_order_19 : decode cX8_order 19 = .ok (.iload_n 1, 1) := by decide +kernel
theorem d_Tc_order_20 : decode cX8_order 20 = .ok (.bipush 99, 2) := by decide +kernel
theorem d_Tc_order_22 : decode cX8_order 22 = .ok (.invokestatic 57, 3) := by decide +kernel
theorem d_Tc_order_25 : decode cX8_order 25 = .ok (.ifCond .eq 23, 3) := by decide +kernel
theorem d_Tc_order_28 : decode cX8_order 28 = .ok (.iload_n 2, 1) := by decide +kernel
theorem d_Tc_order_29 : decode cX8_order 29 = .ok (.bipush 9, 2) := by decide +kernel
theorem d_Tc_order_31 : decode cX8_order 31 = .ok (.invokestatic 57, 3) := by decide +kernel
theorem d_Tc_order_34 : decode cX8_order 34 = .ok (.ifCond .eq 14, 3) := by decide +kernel
theorem d_Tc_order_37 : decode cX8_order 37 = .ok (.iload_n 3, 1) := by decide +kernel
theorem d_Tc_order_38 : decode cX8_order 38 = .ok (.iconst 1, 1) := by decide +kernel
theorem d_Tc_order_39 : decode cX8_order 39 = .ok (.if_icmp .lt 9, 3) := by decide +kernel
theorem d_Tc_order_42 : decode cX8_order 42 = .ok (.iload_n 3, 1) := by decide +kernel
theorem d_Tc_order_43 : decode cX8_order 43 = .ok (.bipush 9, 2) := by decide +kernel
theorem d_Tc_order_45 : decode cX8_order 45 = .ok (.if_icmp .le 5, 3) := by decide +kernel
theorem d_Tc_order_48 : decode cX8_order 48 = .ok (.iconst (-1), 1) := by decide +kernel
theorem d_Tc_order_49 : decode cX8_order 49 = .ok (.ireturn, 1) := by decide +kernel
theorem d_Tc_order_50 : decode cX8_order 50 = .ok (.aload_n 0, 1) := by decide +kernel
theorem d_Tc_order_51 : decode cX8_order 51 = .ok (.getfield 10, 3) := by decide +kernel
theorem d_Tc_order_54 : decode cX8_order 54 = .ok (.getfield 230, 3) := by decide +kernel
theorem d_Tc_order_57 : decode cX8_order 57 = .ok (.getfield 234, 3) := by decide +kernel
theorem d_Tc_order_60 : decode cX8_order 60 = .ok (.iload_n 1, 1) := by decide +kernel
theorem d_Tc_order_61 : decode cX8_order 61 = .ok (.iload_n 2, 1) := by decide +kernel
theorem d_Tc_order_62 : decode cX8_order 62 = .ok (.iload_n 3, 1) := by decide +kernel
theorem d_Tc_order_63 : decode cX8_order 63 = .ok (.iconst 0, 1) := by decide +kernel
theorem d_Tc_order_64 : decode cX8_order 64 = .ok (.invokevirtual 242, 3) := by decide +kernel
theorem d_Tc_order_67 : decode cX8_order 67 = .ok (.ireturn, 1) := by decide +kernel
theorem d_Desk_hourly_0 : decode cX0_hourly 0 = .ok (.aload_n 1, 1) := by decide +kernel
theorem d_Desk_hourly_1 : decode cX0_hourly 1 = .ok (.iload_n 2, 1) := by decide +kernel
theorem d_Desk_hourly_2 : decode cX0_hourly 2 = .ok (.iconst 1, 1) := by decide +kernel
theorem d_Desk_hourly_3 : decode cX0_hourly 3 = .ok (.invokevirtual 30, 3) := by decide +kernel
theorem d_Desk_hourly_6 : decode cX0_hourly 6 = .ok (.aload_n 1, 1) := by decide +kernel
theorem d_Desk_hourly_7 : decode cX0_hourly 7 = .ok (.iload_n 2, 1) := by decide +kernel
theorem d_Desk_hourly_8 : decode cX0_hourly 8 = .ok (.iconst 2, 1) := by decide +kernel
theorem d_Desk_hourly_9 : decode cX0_hourly 9 = .ok (.invokevirtual 30, 3) := by decide +kernel
theorem d_Desk_hourly_12 : decode cX0_hourly 12 = .ok (.imul, 1) := by decide +kernel
theorem d_Desk_hourly_13 : decode cX0_hourly 13 = .ok (.ireturn, 1) := by decide +kernel
theorem d_Desk_turnOf_0 : decode cX0_turnOf 0 = .ok (.iconst 0, 1) := by decide +kernel
theorem d_Desk_turnOf_1 : decode cX0_turnOf 1 = .ok (.istore_n 3, 1) := by decide +kernel
theorem d_Desk_turnOf_2 : decode cX0_turnOf 2 = .ok (.iconst 0, 1) := by decide +kernel
theorem d_Desk_turnOf_3 : decode cX0_turnOf 3 = .ok (.istore 4, 2) := by decide +kernel
theorem d_Desk_turnOf_5 : decode cX0_turnOf 5 = .ok (.iload 4, 2) := by decide +kernel
theorem d_Desk_turnOf_7 : decode cX0_turnOf 7 = .ok (.aload_n 1, 1) := by decide +kernel
theorem d_Desk_turnOf_8 : decode cX0_turnOf 8 = .ok (.getfield 36, 3) := by decide +kernel
theorem d_Desk_turnOf_11 : decode cX0_turnOf 11 = .ok (.if_icmp .ge 44, 3) := by decide +kernel
theorem d_Desk_turnOf_14 : decode cX0_turnOf 14 = .ok (.aload_n 0, 1) := by decide +kernel
theorem d_Desk_turnOf_15 : decode cX0_turnOf 15 = .ok (.aload_n 1, 1) := by decide +kernel
theorem d_Desk_turnOf_16 : decode cX0_turnOf 16 = .ok (.iload 4, 2) := by decide +kernel
theorem d_Desk_turnOf_18 : decode cX0_turnOf 18 = .ok (.invokevirtual 40, 3) := by decide +kernel
theorem d_Desk_turnOf_21 : decode cX0_turnOf 21 = .ok (.aload_n 0, 1) := by decide +kernel
theorem d_Desk_turnOf_22 : decode cX0_turnOf 22 = .ok (.aload_n 1, 1) := by decide +kernel
theorem d_Desk_turnOf_23 : decode cX0_turnOf 23 = .ok (.iload_n 2, 1) := by decide +kernel
theorem d_Desk_turnOf_24 : decode cX0_turnOf 24 = .ok (.invokevirtual 40, 3) := by decide +kernel
theorem d_Desk_turnOf_27 : decode cX0_turnOf 27 = .ok (.isub, 1) := by decide +kernel
theorem d_Desk_turnOf_28 : decode cX0_turnOf 28 = .ok (.istore 5, 2) := by decide +kernel
theorem d_Desk_turnOf_30 : decode cX0_turnOf 30 = .ok (.iload 5, 2) := by decide +kernel
theorem d_Desk_turnOf_32 : decode cX0_turnOf 32 = .ok (.ifCond .gt 14, 3) := by decide +kernel
theorem d_Desk_turnOf_35 : decode cX0_turnOf 35 = .ok (.iload 5, 2) := by decide +kernel
theorem d_Desk_turnOf_37 : decode cX0_turnOf 37 = .ok (.ifCond .ne 12, 3) := by decide +kernel
theorem d_Desk_turnOf_40 : decode cX0_turnOf 40 = .ok (.iload 4, 2) := by decide +kernel
theorem d_Desk_turnOf_42 : decode cX0_turnOf 42 = .ok (.iload_n 2, 1) := by decide +kernel
theorem d_Desk_turnOf_43 : decode cX0_turnOf 43 = .ok (.if_icmp .ge 6, 3) := by decide +kernel
theorem d_Desk_turnOf_46 : decode cX0_turnOf 46 = .ok (.iinc 3 1, 3) := by decide +kernel
theorem d_Desk_turnOf_49 : decode cX0_turnOf 49 = .ok (.iinc 4 1, 3) := by decide +kernel
theorem d_Desk_turnOf_52 : decode cX0_turnOf 52 = .ok (.goto (-47), 3) := by decide +kernel
theorem d_Desk_turnOf_55 : decode cX0_turnOf 55 = .ok (.iload_n 3, 1) := by decide +kernel
theorem d_Desk_turnOf_56 : decode cX0_turnOf 56 = .ok (.ireturn, 1) := by decide +kernel
theorem d_Desk_orderSum_0 : decode cX0_orderSum 0 = .ok (.iconst 0, 1) := by decide +kernel
theorem d_Desk_orderSum_1 : decode cX0_orderSum 1 = .ok (.istore_n 2, 1) := by decide +kernel
theorem d_Desk_orderSum_2 : decode cX0_orderSum 2 = .ok (.iconst 0, 1) := by decide +kernel
theorem d_Desk_orderSum_3 : decode cX0_orderSum 3 = .ok (.istore_n 3, 1) := by decide +kernel
theorem d_Desk_orderSum_4 : decode cX0_orderSum 4 = .ok (.iload_n 3, 1) := by decide +kernel
theorem d_Desk_orderSum_5 : decode cX0_orderSum 5 = .ok (.aload_n 1, 1) := by decide +kernel
theorem d_Desk_orderSum_6 : decode cX0_orderSum 6 = .ok (.getfield 36, 3) := by decide +kernel
theorem d_Desk_orderSum_9 : decode cX0_orderSum 9 = .ok (.if_icmp .ge 39, 3) := by decide +kernel
theorem d_Desk_orderSum_12 : decode cX0_orderSum 12 = .ok (.iload_n 2, 1) := by decide +kernel
theorem d_Desk_orderSum_13 : decode cX0_orderSum 13 = .ok (.aload_n 1, 1) := by decide +kernel
theorem d_Desk_orderSum_14 : decode cX0_orderSum 14 = .ok (.iload_n 3, 1) := by decide +kernel
theorem d_Desk_orderSum_15 : decode cX0_orderSum 15 = .ok (.iconst 0, 1) := by decide +kernel
theorem d_Desk_orderSum_16 : decode cX0_orderSum 16 = .ok (.invokevirtual 30, 3) := by decide +kernel
theorem d_Desk_orderSum_19 : decode cX0_orderSum 19 = .ok (.aload_n 1, 1) := by decide +kernel
theorem d_Desk_orderSum_20 : decode cX0_orderSum 20 = .ok (.iload_n 3, 1) := by decide +kernel
theorem d_Desk_orderSum_21 : decode cX0_orderSum 21 = .ok (.iconst 2, 1) := by decide +kernel
theorem d_Desk_orderSum_22 : decode cX0_orderSum 22 = .ok (.invokevirtual 30, 3) := by decide +kernel
theorem d_Desk_orderSum_25 : decode cX0_orderSum 25 = .ok (.imul, 1) := by decide +kernel
theorem d_Desk_orderSum_26 : decode cX0_orderSum 26 = .ok (.aload_n 0, 1) := by decide +kernel
theorem d_Desk_orderSum_27 : decode cX0_orderSum 27 = .ok (.aload_n 1, 1) := by decide +kernel
theorem d_Desk_orderSum_28 : decode cX0_orderSum 28 = .ok (.iload_n 3, 1) := by decide +kernel
theorem d_Desk_orderSum_29 : decode cX0_orderSum 29 = .ok (.invokevirtual 44, 3) := by decide +kernel
theorem d_Desk_orderSum_32 : decode cX0_orderSum 32 = .ok (.aload_n 0, 1) := by decide +kernel
theorem d_Desk_orderSum_33 : decode cX0_orderSum 33 = .ok (.aload_n 1, 1) := by decide +kernel
theorem d_Desk_orderSum_34 : decode cX0_orderSum 34 = .ok (.iload_n 3, 1) := by decide +kernel
theorem d_Desk_orderSum_35 : decode cX0_orderSum 35 = .ok (.invokevirtual 40, 3) := by decide +kernel
theorem d_Desk_orderSum_38 : decode cX0_orderSum 38 = .ok (.imul, 1) := by decide +kernel
theorem d_Desk_orderSum_39 : decode cX0_orderSum 39 = .ok (.iadd, 1) := by decide +kernel
theorem d_Desk_orderSum_40 : decode cX0_orderSum 40 = .ok (.iadd, 1) := by decide +kernel
theorem d_Desk_orderSum_41 : decode cX0_orderSum 41 = .ok (.istore_n 2, 1) := by decide +kernel
theorem d_Desk_orderSum_42 : decode cX0_orderSum 42 = .ok (.iinc 3 1, 3) := by decide +kernel
theorem d_Desk_orderSum_45 : decode cX0_orderSum 45 = .ok (.goto (-41), 3) := by decide +kernel
theorem d_Desk_orderSum_48 : decode cX0_orderSum 48 = .ok (.iload_n 2, 1) := by decide +kernel
theorem d_Desk_orderSum_49 : decode cX0_orderSum 49 = .ok (.ireturn, 1) := by decide +kernel
theorem d_Desk_orderFirst_0 : decode cX0_orderFirst 0 = .ok (.iconst 0, 1) := by decide +kernel
theorem d_Desk_orderFirst_1 : decode cX0_orderFirst 1 = .ok (.istore_n 2, 1) := by decide +kernel
theorem d_Desk_orderFirst_2 : decode cX0_orderFirst 2 = .ok (.iload_n 2, 1) := by decide +kernel
theorem d_Desk_orderFirst_3 : decode cX0_orderFirst 3 = .ok (.aload_n 1, 1) := by decide +kernel
theorem d_Desk_orderFirst_4 : decode cX0_orderFirst 4 = .ok (.getfield 36, 3) := by decide +kernel
theorem d_Desk_orderFirst_7 : decode cX0_orderFirst 7 = .ok (.if_icmp .ge 20, 3) := by decide +kernel
theorem d_Desk_orderFirst_10 : decode cX0_orderFirst 10 = .ok (.aload_n 0, 1) := by decide +kernel
theorem d_Desk_orderFirst_11 : decode cX0_orderFirst 11 = .ok (.aload_n 1, 1) := by decide +kernel
theorem d_Desk_orderFirst_12 : decode cX0_orderFirst 12 = .ok (.iload_n 2, 1) := by decide +kernel
theorem d_Desk_orderFirst_13 : decode cX0_orderFirst 13 = .ok (.invokevirtual 44, 3) := by decide +kernel
theorem d_Desk_orderFirst_16 : decode cX0_orderFirst 16 = .ok (.ifCond .ne 5, 3) := by decide +kernel
theorem d_Desk_orderFirst_19 : decode cX0_orderFirst 19 = .ok (.iload_n 2, 1) := by decide +kernel
theorem d_Desk_orderFirst_20 : decode cX0_orderFirst 20 = .ok (.ireturn, 1) := by decide +kernel
theorem d_Desk_orderFirst_21 : decode cX0_orderFirst 21 = .ok (.iinc 2 1, 3) := by decide +kernel
theorem d_Desk_orderFirst_24 : decode cX0_orderFirst 24 = .ok (.goto (-22), 3) := by decide +kernel
theorem d_Desk_orderFirst_27 : decode cX0_orderFirst 27 = .ok (.iconst (-1), 1) := by decide +kernel
theorem d_Desk_orderFirst_28 : decode cX0_orderFirst 28 = .ok (.ireturn, 1) := by decide +kernel
theorem d_Tc_ordered_0 : decode cX8_ordered 0 = .ok (.iload_n 1, 1) := by decide +kernel
theorem d_Tc_ordered_1 : decode cX8_ordered 1 = .ok (.ifCond .ne 21, 3) := by decide +kernel
theorem d_Tc_ordered_4 : decode cX8_ordered 4 = .ok (.aload_n 0, 1) := by decide +kernel
theorem d_Tc_ordered_5 : decode cX8_ordered 5 = .ok (.getfield 40, 3) := by decide +kernel
theorem d_Tc_ordered_8 : decode cX8_ordered 8 = .ok (.aload_n 0, 1) := by decide +kernel
theorem d_Tc_ordered_9 : decode cX8_ordered 9 = .ok (.getfield 10, 3) := by decide +kernel
theorem d_Tc_ordered_12 : decode cX8_ordered 12 = .ok (.getfield 230, 3) := by decide +kernel
theorem d_Tc_ordered_15 : decode cX8_ordered 15 = .ok (.getfield 234, 3) := by decide +kernel
theorem d_Tc_ordered_18 : decode cX8_ordered 18 = .ok (.invokevirtual 246, 3) := by decide +kernel
theorem d_Tc_ordered_21 : decode cX8_ordered 21 = .ok (.ireturn, 1) := by decide +kernel
theorem d_Tc_ordered_22 : decode cX8_ordered 22 = .ok (.iload_n 1, 1) := by decide +kernel
theorem d_Tc_ordered_23 : decode cX8_ordered 23 = .ok (.iconst 1, 1) := by decide +kernel
theorem d_Tc_ordered_24 : decode cX8_ordered 24 = .ok (.if_icmp .ne 23, 3) := by decide +kernel
theorem d_Tc_ordered_27 : decode cX8_ordered 27 = .ok (.aload_n 0, 1) := by decide +kernel
theorem d_Tc_ordered_28 : decode cX8_ordered 28 = .ok (.getfield 40, 3) := by decide +kernel
theorem d_Tc_ordered_31 : decode cX8_ordered 31 = .ok (.aload_n 0, 1) := by decide +kernel
theorem d_Tc_ordered_32 : decode cX8_ordered 32 = .ok (.getfield 10, 3) := by decide +kernel
theorem d_Tc_ordered_35 : decode cX8_ordered 35 = .ok (.getfield 230, 3) := by decide +kernel
theorem d_Tc_ordered_38 : decode cX8_ordered 38 = .ok (.getfield 234, 3) := by decide +kernel
theorem d_Tc_ordered_41 : decode cX8_ordered 41 = .ok (.invokevirtual 250, 3) := by decide +kernel
theorem d_Tc_ordered_44 : decode cX8_ordered 44 = .ok (.goto 4, 3) := by decide +kernel
theorem d_Tc_ordered_47 : decode cX8_ordered 47 = .ok (.iconst (-1), 1) := by decide +kernel
theorem d_Tc_ordered_48 : decode cX8_ordered 48 = .ok (.ireturn, 1) := by decide +kernel
theorem d_Tc_hand_0 : decode cX8_hand 0 = .ok (.iload_n 1, 1) := by decide +kernel
theorem d_Tc_hand_1 : decode cX8_hand 1 = .ok (.iconst (-1), 1) := by decide +kernel
theorem d_Tc_hand_2 : decode cX8_hand 2 = .ok (.if_icmp .ne 17, 3) := by decide +kernel
theorem d_Tc_hand_5 : decode cX8_hand 5 = .ok (.aload_n 0, 1) := by decide +kernel
theorem d_Tc_hand_6 : decode cX8_hand 6 = .ok (.getfield 10, 3) := by decide +kernel
theorem d_Tc_hand_9 : decode cX8_hand 9 = .ok (.getfield 230, 3) := by decide +kernel
theorem d_Tc_hand_12 : decode cX8_hand 12 = .ok (.getfield 253, 3) := by decide +kernel
theorem d_Tc_hand_15 : decode cX8_hand 15 = .ok (.invokevirtual 239, 3) := by decide +kernel
theorem d_Tc_hand_18 : decode cX8_hand 18 = .ok (.ireturn, 1) := by decide +kernel
theorem d_Tc_hand_19 : decode cX8_hand 19 = .ok (.iload_n 1, 1) := by decide +kernel
theorem d_Tc_hand_20 : decode cX8_hand 20 = .ok (.iconst 5, 1) := by decide +kernel
theorem d_Tc_hand_21 : decode cX8_hand 21 = .ok (.invokestatic 57, 3) := by decide +kernel
theorem d_Tc_hand_24 : decode cX8_hand 24 = .ok (.ifCond .eq 11, 3) := by decide +kernel
theorem d_Tc_hand_27 : decode cX8_hand 27 = .ok (.iload_n 2, 1) := by decide +kernel
theorem d_Tc_hand_28 : decode cX8_hand 28 = .ok (.iconst 5, 1) := by decide +kernel
theorem d_Tc_hand_29 : decode cX8_hand 29 = .ok (.invokestatic 57, 3) := by decide +kernel
theorem d_Tc_hand_32 : decode cX8_hand 32 = .ok (.ifCond .ne 5, 3) := by decide +kernel
theorem d_Tc_hand_35 : decode cX8_hand 35 = .ok (.iconst (-1), 1) := by decide +kernel
theorem d_Tc_hand_36 : decode cX8_hand 36 = .ok (.ireturn, 1) := by decide +kernel
theorem d_Tc_hand_37 : decode cX8_hand 37 = .ok (.aload_n 0, 1) := by decide +kernel
theorem d_Tc_hand_38 : decode cX8_hand 38 = .ok (.getfield 10, 3) := by decide +kernel
theorem d_Tc_hand_41 : decode cX8_hand 41 = .ok (.getfield 230, 3) := by decide +kernel
theorem d_Tc_hand_44 : decode cX8_hand 44 = .ok (.getfield 253, 3) := by decide +kernel
theorem d_Tc_hand_47 : decode cX8_hand 47 = .ok (.iload_n 1, 1) := by decide +kernel
theorem d_Tc_hand_48 : decode cX8_hand 48 = .ok (.iload_n 2, 1) := by decide +kernel
theorem d_Tc_hand_49 : decode cX8_hand 49 = .ok (.iconst 0, 1) := by decide +kernel
theorem d_Tc_hand_50 : decode cX8_hand 50 = .ok (.iconst 0, 1) := by decide +kernel
theorem d_Tc_hand_51 : decode cX8_hand 51 = .ok (.invokevirtual 242, 3) := by decide +kernel
theorem d_Tc_hand_54 : decode cX8_hand 54 = .ok (.ireturn, 1) := by decide +kernel
theorem d_Desk_handsOf_0 : decode cX0_handsOf 0 = .ok (.iconst 0, 1) := by decide +kernel
theorem d_Desk_handsOf_1 : decode cX0_handsOf 1 = .ok (.istore_n 3, 1) := by decide +kernel
theorem d_Desk_handsOf_2 : decode cX0_handsOf 2 = .ok (.iconst 0, 1) := by decide +kernel
theorem d_Desk_handsOf_3 : decode cX0_handsOf 3 = .ok (.istore 4, 2) := by decide +kernel
theorem d_Desk_handsOf_5 : decode cX0_handsOf 5 = .ok (.iload 4, 2) := by decide +kernel
theorem d_Desk_handsOf_7 : decode cX0_handsOf 7 = .ok (.aload_n 1, 1) := by decide +kernel
theorem d_Desk_handsOf_8 : decode cX0_handsOf 8 = .ok (.getfield 36, 3) := by decide +kernel
theorem d_Desk_handsOf_11 : decode cX0_handsOf 11 = .ok (.if_icmp .ge 32, 3) := by decide +kernel
theorem d_Desk_handsOf_14 : decode cX0_handsOf 14 = .ok (.aload_n 1, 1) := by decide +kernel
theorem d_Desk_handsOf_15 : decode cX0_handsOf 15 = .ok (.iload 4, 2) := by decide +kernel
theorem d_Desk_handsOf_17 : decode cX0_handsOf 17 = .ok (.iconst 0, 1) := by decide +kernel
theorem d_Desk_handsOf_18 : decode cX0_handsOf 18 = .ok (.invokevirtual 30, 3) := by decide +kernel
theorem d_Desk_handsOf_21 : decode cX0_handsOf 21 = .ok (.iload_n 2, 1) := by decide +kernel
theorem d_Desk_handsOf_22 : decode cX0_handsOf 22 = .ok (.if_icmp .ne 15, 3) := by decide +kernel
theorem d_Desk_handsOf_25 : decode cX0_handsOf 25 = .ok (.iload_n 3, 1) := by decide +kernel
theorem d_Desk_handsOf_26 : decode cX0_handsOf 26 = .ok (.iconst 1, 1) := by decide +kernel
theorem d_Desk_handsOf_27 : decode cX0_handsOf 27 = .ok (.aload_n 1, 1) := by decide +kernel
theorem d_Desk_handsOf_28 : decode cX0_handsOf 28 = .ok (.iload 4, 2) := by decide +kernel
theorem d_Desk_handsOf_30 : decode cX0_handsOf 30 = .ok (.iconst 1, 1) := by decide +kernel
theorem d_Desk_handsOf_31 : decode cX0_handsOf 31 = .ok (.invokevirtual 30, 3) := by decide +kernel
theorem d_Desk_handsOf_34 : decode cX0_handsOf 34 = .ok (.ishl, 1) := by decide +kernel
theorem d_Desk_handsOf_35 : decode cX0_handsOf 35 = .ok (.ior, 1) := by decide +kernel
theorem d_Desk_handsOf_36 : decode cX0_handsOf 36 = .ok (.istore_n 3, 1) := by decide +kernel
theorem d_Desk_handsOf_37 : decode cX0_handsOf 37 = .ok (.iinc 4 1, 3) := by decide +kernel
theorem d_Desk_handsOf_40 : decode cX0_handsOf 40 = .ok (.goto (-35), 3) := by decide +kernel
theorem d_Desk_handsOf_43 : decode cX0_handsOf 43 = .ok (.iload_n 3, 1) := by decide +kernel
theorem d_Desk_handsOf_44 : decode cX0_handsOf 44 = .ok (.ireturn, 1) := by decide +kernel
theorem d_Desk_takeHands_0 : decode cX0_takeHands 0 = .ok (.aload_n 0, 1) := by decide +kernel
theorem d_Desk_takeHands_1 : decode cX0_takeHands 1 = .ok (.getfield 9, 3) := by decide +kernel
theorem d_Desk_takeHands_4 : decode cX0_takeHands 4 = .ok (.arraylength, 1) := by decide +kernel
theorem d_Desk_takeHands_5 : decode cX0_takeHands 5 = .ok (.iconst 1, 1) := by decide +kernel
theorem d_Desk_takeHands_6 : decode cX0_takeHands 6 = .ok (.isub, 1) := by decide +kernel
theorem d_Desk_takeHands_7 : decode cX0_takeHands 7 = .ok (.istore_n 2, 1) := by decide +kernel
theorem d_Desk_takeHands_8 : decode cX0_takeHands 8 = .ok (.iload_n 2, 1) := by decide +kernel
theorem d_Desk_takeHands_9 : decode cX0_takeHands 9 = .ok (.ifCond .lt 71, 3) := by decide +kernel
theorem d_Desk_takeHands_12 : decode cX0_takeHands 12 = .ok (.iconst 0, 1) := by decide +kernel
theorem d_Desk_takeHands_13 : decode cX0_takeHands 13 = .ok (.istore_n 3, 1) := by decide +kernel
theorem d_Desk_takeHands_14 : decode cX0_takeHands 14 = .ok (.iload_n 3, 1) := by decide +kernel
theorem d_Desk_takeHands_15 : decode cX0_takeHands 15 = .ok (.bipush 6, 2) := by decide +kernel
theorem d_Desk_takeHands_17 : decode cX0_takeHands 17 = .ok (.if_icmp .ge 57, 3) := by decide +kernel
theorem d_Desk_takeHands_20 : decode cX0_takeHands 20 = .ok (.iload_n 2, 1) := by decide +kernel
theorem d_Desk_takeHands_21 : decode cX0_takeHands 21 = .ok (.iconst 1, 1) := by decide +kernel
theorem d_Desk_takeHands_22 : decode cX0_takeHands 22 = .ok (.iload_n 3, 1) := by decide +kernel
theorem d_Desk_takeHands_23 : decode cX0_takeHands 23 = .ok (.ishl, 1) := by decide +kernel
theorem d_Desk_takeHands_24 : decode cX0_takeHands 24 = .ok (.ior, 1) := by decide +kernel
theorem d_Desk_takeHands_25 : decode cX0_takeHands 25 = .ok (.istore 4, 2) := by decide +kernel
theorem d_Desk_takeHands_27 : decode cX0_takeHands 27 = .ok (.iload_n 1, 1) := by decide +kernel
theorem d_Desk_takeHands_28 : decode cX0_takeHands 28 = .ok (.iload_n 3, 1) := by decide +kernel
theorem d_Desk_takeHands_29 : decode cX0_takeHands 29 = .ok (.ishr, 1) := by decide +kernel
theorem d_Desk_takeHands_30 : decode cX0_takeHands 30 = .ok (.iconst 1, 1) := by decide +kernel
theorem d_Desk_takeHands_31 : decode cX0_takeHands 31 = .ok (.iand, 1) := by decide +kernel
theorem d_Desk_takeHands_32 : decode cX0_takeHands 32 = .ok (.iconst 1, 1) := by decide +kernel
theorem d_Desk_takeHands_33 : decode cX0_takeHands 33 = .ok (.if_icmp .ne 35, 3) := by decide +kernel
theorem d_Desk_takeHands_36 : decode cX0_takeHands 36 = .ok (.iload 4, 2) := by decide +kernel
theorem d_Desk_takeHands_38 : decode cX0_takeHands 38 = .ok (.iload_n 2, 1) := by decide +kernel
theorem d_Desk_takeHands_39 : decode cX0_takeHands 39 = .ok (.if_icmp .eq 29, 3) := by decide +kernel
theorem d_Desk_takeHands_42 : decode cX0_takeHands 42 = .ok (.iload 4, 2) := by decide +kernel
theorem d_Desk_takeHands_44 : decode cX0_takeHands 44 = .ok (.aload_n 0, 1) := by decide +kernel
theorem d_Desk_takeHands_45 : decode cX0_takeHands 45 = .ok (.getfield 9, 3) := by decide +kernel
theorem d_Desk_takeHands_48 : decode cX0_takeHands 48 = .ok (.arraylength, 1) := by decide +kernel
theorem d_Desk_takeHands_49 : decode cX0_takeHands 49 = .ok (.if_icmp .ge 19, 3) := by decide +kernel
theorem d_Desk_takeHands_52 : decode cX0_takeHands 52 = .ok (.aload_n 0, 1) := by decide +kernel
theorem d_Desk_takeHands_53 : decode cX0_takeHands 53 = .ok (.getfield 9, 3) := by decide +kernel
theorem d_Desk_takeHands_56 : decode cX0_takeHands 56 = .ok (.iload 4, 2) := by decide +kernel
theorem d_Desk_takeHands_58 : decode cX0_takeHands 58 = .ok (.dup2, 1) := by decide +kernel
theorem d_Desk_takeHands_59 : decode cX0_takeHands 59 = .ok (.iaload, 1) := by decide +kernel
theorem d_Desk_takeHands_60 : decode cX0_takeHands 60 = .ok (.aload_n 0, 1) := by decide +kernel
theorem d_Desk_takeHands_61 : decode cX0_takeHands 61 = .ok (.getfield 9, 3) := by decide +kernel
theorem d_Desk_takeHands_64 : decode cX0_takeHands 64 = .ok (.iload_n 2, 1) := by decide +kernel
theorem d_Desk_takeHands_65 : decode cX0_takeHands 65 = .ok (.iaload, 1) := by decide +kernel
theorem d_Desk_takeHands_66 : decode cX0_takeHands 66 = .ok (.iadd, 1) := by decide +kernel
theorem d_Desk_takeHands_67 : decode cX0_takeHands 67 = .ok (.iastore, 1) := by decide +kernel
theorem d_Desk_takeHands_68 : decode cX0_takeHands 68 = .ok (.iinc 3 1, 3) := by decide +kernel
theorem d_Desk_takeHands_71 : decode cX0_takeHands 71 = .ok (.goto (-57), 3) := by decide +kernel
theorem d_Desk_takeHands_74 : decode cX0_takeHands 74 = .ok (.iinc 2 (-1), 3) := by decide +kernel
theorem d_Desk_takeHands_77 : decode cX0_takeHands 77 = .ok (.goto (-69), 3) := by decide +kernel
theorem d_Desk_takeHands_80 : decode cX0_takeHands 80 = .ok (.return_, 1) := by decide +kernel
theorem d_Desk_mostHands_0 : decode cX0_mostHands 0 = .ok (.iconst 0, 1) := by decide +kernel
theorem d_Desk_mostHands_1 : decode cX0_mostHands 1 = .ok (.istore_n 2, 1) := by decide +kernel
theorem d_Desk_mostHands_2 : decode cX0_mostHands 2 = .ok (.iload_n 2, 1) := by decide +kernel
theorem d_Desk_mostHands_3 : decode cX0_mostHands 3 = .ok (.aload_n 0, 1) := by decide +kernel
theorem d_Desk_mostHands_4 : decode cX0_mostHands 4 = .ok (.getfield 9, 3) := by decide +kernel
theorem d_Desk_mostHands_7 : decode cX0_mostHands 7 = .ok (.arraylength, 1) := by decide +kernel
theorem d_Desk_mostHands_8 : decode cX0_mostHands 8 = .ok (.if_icmp .ge 24, 3) := by decide +kernel
theorem d_Desk_mostHands_11 : decode cX0_mostHands 11 = .ok (.aload_n 0, 1) := by decide +kernel
theorem d_Desk_mostHands_12 : decode cX0_mostHands 12 = .ok (.getfield 9, 3) := by decide +kernel
theorem d_Desk_mostHands_15 : decode cX0_mostHands 15 = .ok (.iload_n 2, 1) := by decide +kernel
theorem d_Desk_mostHands_16 : decode cX0_mostHands 16 = .ok (.iload_n 2, 1) := by decide +kernel
theorem d_Desk_mostHands_17 : decode cX0_mostHands 17 = .ok (.ifCond .ne 7, 3) := by decide +kernel
theorem d_Desk_mostHands_20 : decode cX0_mostHands 20 = .ok (.iconst 1, 1) := by decide +kernel
theorem d_Desk_mostHands_21 : decode cX0_mostHands 21 = .ok (.goto 4, 3) := by decide +kernel
theorem d_Desk_mostHands_24 : decode cX0_mostHands 24 = .ok (.iconst 0, 1) := by decide +kernel
theorem d_Desk_mostHands_25 : decode cX0_mostHands 25 = .ok (.iastore, 1) := by decide +kernel
theorem d_Desk_mostHands_26 : decode cX0_mostHands 26 = .ok (.iinc 2 1, 3) := by decide +kernel
theorem d_Desk_mostHands_29 : decode cX0_mostHands 29 = .ok (.goto (-27), 3) := by decide +kernel
theorem d_Desk_mostHands_32 : decode cX0_mostHands 32 = .ok (.iconst 0, 1) := by decide +kernel
theorem d_Desk_mostHands_33 : decode cX0_mostHands 33 = .ok (.istore_n 2, 1) := by decide +kernel
theorem d_Desk_mostHands_34 : decode cX0_mostHands 34 = .ok (.iload_n 2, 1) := by decide +kernel
theorem d_Desk_mostHands_35 : decode cX0_mostHands 35 = .ok (.bipush 6, 2) := by decide +kernel
theorem d_Desk_mostHands_37 : decode cX0_mostHands 37 = .ok (.if_icmp .ge 19, 3) := by decide +kernel
theorem d_Desk_mostHands_40 : decode cX0_mostHands 40 = .ok (.aload_n 0, 1) := by decide +kernel
theorem d_Desk_mostHands_41 : decode cX0_mostHands 41 = .ok (.aload_n 0, 1) := by decide +kernel
theorem d_Desk_mostHands_42 : decode cX0_mostHands 42 = .ok (.aload_n 1, 1) := by decide +kernel
theorem d_Desk_mostHands_43 : decode cX0_mostHands 43 = .ok (.iload_n 2, 1) := by decide +kernel
theorem d_Desk_mostHands_44 : decode cX0_mostHands 44 = .ok (.invokevirtual 47, 3) := by decide +kernel
theorem d_Desk_mostHands_47 : decode cX0_mostHands 47 = .ok (.invokevirtual 50, 3) := by decide +kernel
theorem d_Desk_mostHands_50 : decode cX0_mostHands 50 = .ok (.iinc 2 1, 3) := by decide +kernel
theorem d_Desk_mostHands_53 : decode cX0_mostHands 53 = .ok (.goto (-19), 3) := by decide +kernel
theorem d_Desk_mostHands_56 : decode cX0_mostHands 56 = .ok (.iconst 0, 1) := by decide +kernel
theorem d_Desk_mostHands_57 : decode cX0_mostHands 57 = .ok (.istore_n 2, 1) := by decide +kernel
theorem d_Desk_mostHands_58 : decode cX0_mostHands 58 = .ok (.iconst 0, 1) := by decide +kernel
theorem d_Desk_mostHands_59 : decode cX0_mostHands 59 = .ok (.istore_n 3, 1) := by decide +kernel
theorem d_Desk_mostHands_60 : decode cX0_mostHands 60 = .ok (.iload_n 3, 1) := by decide +kernel
theorem d_Desk_mostHands_61 : decode cX0_mostHands 61 = .ok (.aload_n 0, 1) := by decide +kernel
theorem d_Desk_mostHands_62 : decode cX0_mostHands 62 = .ok (.getfield 9, 3) := by decide +kernel
theorem d_Desk_mostHands_65 : decode cX0_mostHands 65 = .ok (.arraylength, 1) := by decide +kernel
theorem d_Desk_mostHands_66 : decode cX0_mostHands 66 = .ok (.if_icmp .ge 27, 3) := by decide +kernel
theorem d_Desk_mostHands_69 : decode cX0_mostHands 69 = .ok (.aload_n 0, 1) := by decide +kernel
theorem d_Desk_mostHands_70 : decode cX0_mostHands 70 = .ok (.getfield 9, 3) := by decide +kernel
theorem d_Desk_mostHands_73 : decode cX0_mostHands 73 = .ok (.iload_n 3, 1) := by decide +kernel
theorem d_Desk_mostHands_74 : decode cX0_mostHands 74 = .ok (.iaload, 1) := by decide +kernel
theorem d_Desk_mostHands_75 : decode cX0_mostHands 75 = .ok (.ifCond .le 12, 3) := by decide +kernel
theorem d_Desk_mostHands_78 : decode cX0_mostHands 78 = .ok (.iload_n 2, 1) := by decide +kernel
theorem d_Desk_mostHands_79 : decode cX0_mostHands 79 = .ok (.iload_n 3, 1) := by decide +kernel
theorem d_Desk_mostHands_80 : decode cX0_mostHands 80 = .ok (.invokestatic 54, 3) := by decide +kernel
theorem d_Desk_mostHands_83 : decode cX0_mostHands 83 = .ok (.invokestatic 60, 3) := by decide +kernel
theorem d_Desk_mostHands_86 : decode cX0_mostHands 86 = .ok (.istore_n 2, 1) := by decide +kernel
theorem d_Desk_mostHands_87 : decode cX0_mostHands 87 = .ok (.iinc 3 1, 3) := by decide +kernel
theorem d_Desk_mostHands_90 : decode cX0_mostHands 90 = .ok (.goto (-30), 3) := by decide +kernel
theorem d_Desk_mostHands_93 : decode cX0_mostHands 93 = .ok (.iload_n 2, 1) := by decide +kernel
theorem d_Desk_mostHands_94 : decode cX0_mostHands 94 = .ok (.ireturn, 1) := by decide +kernel
theorem d_Desk_waysOf_0 : decode cX0_waysOf 0 = .ok (.iconst 0, 1) := by decide +kernel
theorem d_Desk_waysOf_1 : decode cX0_waysOf 1 = .ok (.istore_n 2, 1) := by decide +kernel
theorem d_Desk_waysOf_2 : decode cX0_waysOf 2 = .ok (.iconst 0, 1) := by decide +kernel
theorem d_Desk_waysOf_3 : decode cX0_waysOf 3 = .ok (.istore_n 3, 1) := by decide +kernel
theorem d_Desk_waysOf_4 : decode cX0_waysOf 4 = .ok (.iload_n 3, 1) := by decide +kernel
theorem d_Desk_waysOf_5 : decode cX0_waysOf 5 = .ok (.aload_n 0, 1) := by decide +kernel
theorem d_Desk_waysOf_6 : decode cX0_waysOf 6 = .ok (.getfield 9, 3) := by decide +kernel
theorem d_Desk_waysOf_9 : decode cX0_waysOf 9 = .ok (.arraylength, 1) := by decide +kernel
theorem d_Desk_waysOf_10 : decode cX0_waysOf 10 = .ok (.if_icmp .ge 26, 3) := by decide +kernel
theorem d_Desk_waysOf_13 : decode cX0_waysOf 13 = .ok (.iload_n 3, 1) := by decide +kernel
theorem d_Desk_waysOf_14 : decode cX0_waysOf 14 = .ok (.invokestatic 54, 3) := by decide +kernel
theorem d_Desk_waysOf_17 : decode cX0_waysOf 17 = .ok (.iload_n 1, 1) := by decide +kernel
theorem d_Desk_waysOf_18 : decode cX0_waysOf 18 = .ok (.if_icmp .ne 12, 3) := by decide +kernel
theorem d_Desk_waysOf_21 : decode cX0_waysOf 21 = .ok (.iload_n 2, 1) := by decide +kernel
theorem d_Desk_waysOf_22 : decode cX0_waysOf 22 = .ok (.aload_n 0, 1) := by decide +kernel
theorem d_Desk_waysOf_23 : decode cX0_waysOf 23 = .ok (.getfield 9, 3) := by decide +kernel
theorem d_Desk_waysOf_26 : decode cX0_waysOf 26 = .ok (.iload_n 3, 1) := by decide +kernel
theorem d_Desk_waysOf_27 : decode cX0_waysOf 27 = .ok (.iaload, 1) := by decide +kernel
theorem d_Desk_waysOf_28 : decode cX0_waysOf 28 = .ok (.iadd, 1) := by decide +kernel
theorem d_Desk_waysOf_29 : decode cX0_waysOf 29 = .ok (.istore_n 2, 1) := by decide +kernel
theorem d_Desk_waysOf_30 : decode cX0_waysOf 30 = .ok (.iinc 3 1, 3) := by decide +kernel
theorem d_Desk_waysOf_33 : decode cX0_waysOf 33 = .ok (.goto (-29), 3) := by decide +kernel
theorem d_Desk_waysOf_36 : decode cX0_waysOf 36 = .ok (.iload_n 2, 1) := by decide +kernel
theorem d_Desk_waysOf_37 : decode cX0_waysOf 37 = .ok (.ireturn, 1) := by decide +kernel
theorem d_Tc_hands_0 : decode cX8_hands 0 = .ok (.iload_n 1, 1) := by decide +kernel
theorem d_Tc_hands_1 : decode cX8_hands 1 = .ok (.iconst 1, 1) := by decide +kernel
theorem d_Tc_hands_2 : decode cX8_hands 2 = .ok (.invokestatic 57, 3) := by decide +kernel
theorem d_Tc_hands_5 : decode cX8_hands 5 = .ok (.ifCond .ne 5, 3) := by decide +kernel
theorem d_Tc_hands_8 : decode cX8_hands 8 = .ok (.iconst (-1), 1) := by decide +kernel
theorem d_Tc_hands_9 : decode cX8_hands 9 = .ok (.ireturn, 1) := by decide +kernel
theorem d_Tc_hands_10 : decode cX8_hands 10 = .ok (.aload_n 0, 1) := by decide +kernel
theorem d_Tc_hands_11 : decode cX8_hands 11 = .ok (.getfield 40, 3) := by decide +kernel
theorem d_Tc_hands_14 : decode cX8_hands 14 = .ok (.aload_n 0, 1) := by decide +kernel
theorem d_Tc_hands_15 : decode cX8_hands 15 = .ok (.getfield 10, 3) := by decide +kernel
theorem d_Tc_hands_18 : decode cX8_hands 18 = .ok (.getfield 230, 3) := by decide +kernel
theorem d_Tc_hands_21 : decode cX8_hands 21 = .ok (.getfield 253, 3) := by decide +kernel
theorem d_Tc_hands_24 : decode cX8_hands 24 = .ok (.invokevirtual 256, 3) := by decide +kernel
theorem d_Tc_hands_27 : decode cX8_hands 27 = .ok (.istore_n 2, 1) := by decide +kernel
theorem d_Tc_hands_28 : decode cX8_hands 28 = .ok (.iload_n 1, 1) := by decide +kernel
theorem d_Tc_hands_29 : decode cX8_hands 29 = .ok (.ifCond .ne 7, 3) := by decide +kernel
theorem d_Tc_hands_32 : decode cX8_hands 32 = .ok (.iload_n 2, 1) := by decide +kernel
theorem d_Tc_hands_33 : decode cX8_hands 33 = .ok (.goto 11, 3) := by decide +kernel
theorem d_Tc_hands_36 : decode cX8_hands 36 = .ok (.aload_n 0, 1) := by decide +kernel
theorem d_Tc_hands_37 : decode cX8_hands 37 = .ok (.getfield 40, 3) := by decide +kernel
theorem d_Tc_hands_40 : decode cX8_hands 40 = .ok (.iload_n 2, 1) := by decide +kernel
theorem d_Tc_hands_41 : decode cX8_hands 41 = .ok (.invokevirtual 259, 3) := by decide +kernel
theorem d_Tc_hands_44 : decode cX8_hands 44 = .ok (.ireturn, 1) := by decide +kernel
theorem d_Tc_weight_0 : decode cX8_weight 0 = .ok (.iload_n 1, 1) := by decide +kernel
theorem d_Tc_weight_1 : decode cX8_weight 1 = .ok (.iconst (-1), 1) := by decide +kernel
theorem d_Tc_weight_2 : decode cX8_weight 2 = .ok (.if_icmp .ne 17, 3) := by decide +kernel
theorem d_Tc_weight_5 : decode cX8_weight 5 = .ok (.aload_n 0, 1) := by decide +kernel
theorem d_Tc_weight_6 : decode cX8_weight 6 = .ok (.getfield 10, 3) := by decide +kernel
theorem d_Tc_weight_9 : decode cX8_weight 9 = .ok (.getfield 230, 3) := by decide +kernel
theorem d_Tc_weight_12 : decode cX8_weight 12 = .ok (.getfield 262, 3) := by decide +kernel
theorem d_Tc_weight_15 : decode cX8_weight 15 = .ok (.invokevirtual 239, 3) := by decide +kernel
theorem d_Tc_weight_18 : decode cX8_weight 18 = .ok (.ireturn, 1) := by decide +kernel
theorem d_Tc_weight_19 : decode cX8_weight 19 = .ok (.iload_n 1, 1) := by decide +kernel
theorem d_Tc_weight_20 : decode cX8_weight 20 = .ok (.iconst 1, 1) := by decide +kernel
theorem d_Tc_weight_21 : decode cX8_weight 21 = .ok (.if_icmp .lt 9, 3) := by decide +kernel
theorem d_Tc_weight_24 : decode cX8_weight 24 = .ok (.iload_n 1, 1) := by decide +kernel
theorem d_Tc_weight_25 : decode cX8_weight 25 = .ok (.bipush 40, 2) := by decide +kernel
theorem d_Tc_weight_27 : decode cX8_weight 27 = .ok (.if_icmp .le 7, 3) := by decide +kernel
theorem d_Tc_weight_30 : decode cX8_weight 30 = .ok (.iconst (-1), 1) := by decide +kernel
theorem d_Tc_weight_31 : decode cX8_weight 31 = .ok (.goto 20, 3) := by decide +kernel
theorem d_Tc_weight_34 : decode cX8_weight 34 = .ok (.aload_n 0, 1) := by decide +kernel
theorem d_Tc_weight_35 : decode cX8_weight 35 = .ok (.getfield 10, 3) := by decide +kernel
theorem d_Tc_weight_38 : decode cX8_weight 38 = .ok (.getfield 230, 3) := by decide +kernel
theorem d_Tc_weight_41 : decode cX8_weight 41 = .ok (.getfield 262, 3) := by decide +kernel
theorem d_Tc_weight_44 : decode cX8_weight 44 = .ok (.iload_n 1, 1) := by decide +kernel
theorem d_Tc_weight_45 : decode cX8_weight 45 = .ok (.iconst 0, 1) := by decide +kernel
theorem d_Tc_weight_46 : decode cX8_weight 46 = .ok (.iconst 0, 1) := by decide +kernel
theorem d_Tc_weight_47 : decode cX8_weight 47 = .ok (.iconst 0, 1) := by decide +kernel
theorem d_Tc_weight_48 : decode cX8_weight 48 = .ok (.invokevirtual 242, 3) := by decide +kernel
theorem d_Tc_weight_51 : decode cX8_weight 51 = .ok (.ireturn, 1) := by decide +kernel
theorem d_Desk_withOne_0 : decode cX0_withOne 0 = .ok (.iload_n 0, 1) := by decide +kernel
theorem d_Desk_withOne_1 : decode cX0_withOne 1 = .ok (.bipush 100, 2) := by decide +kernel
theorem d_Desk_withOne_3 : decode cX0_withOne 3 = .ok (.irem, 1) := by decide +kernel
theorem d_Desk_withOne_4 : decode cX0_withOne 4 = .ok (.iload_n 1, 1) := by decide +kernel
theorem d_Desk_withOne_5 : decode cX0_withOne 5 = .ok (.iadd, 1) := by decide +kernel
theorem d_Desk_withOne_6 : decode cX0_withOne 6 = .ok (.iload_n 2, 1) := by decide +kernel
theorem d_Desk_withOne_7 : decode cX0_withOne 7 = .ok (.if_icmp .gt 7, 3) := by decide +kernel
theorem d_Desk_withOne_10 : decode cX0_withOne 10 = .ok (.iconst 1, 1) := by decide +kernel
theorem d_Desk_withOne_11 : decode cX0_withOne 11 = .ok (.goto 4, 3) := by decide +kernel
theorem d_Desk_withOne_14 : decode cX0_withOne 14 = .ok (.iconst 0, 1) := by decide +kernel
theorem d_Desk_withOne_15 : decode cX0_withOne 15 = .ok (.istore_n 3, 1) := by decide +kernel
theorem d_Desk_withOne_16 : decode cX0_withOne 16 = .ok (.iload_n 3, 1) := by decide +kernel
theorem d_Desk_withOne_17 : decode cX0_withOne 17 = .ok (.ifCond .eq 9, 3) := by decide +kernel
theorem d_Desk_withOne_20 : decode cX0_withOne 20 = .ok (.iload_n 0, 1) := by decide +kernel
theorem d_Desk_withOne_21 : decode cX0_withOne 21 = .ok (.iload_n 1, 1) := by decide +kernel
theorem d_Desk_withOne_22 : decode cX0_withOne 22 = .ok (.iadd, 1) := by decide +kernel
theorem d_Desk_withOne_23 : decode cX0_withOne 23 = .ok (.goto 15, 3) := by decide +kernel
theorem d_Desk_withOne_26 : decode cX0_withOne 26 = .ok (.iload_n 0, 1) := by decide +kernel
theorem d_Desk_withOne_27 : decode cX0_withOne 27 = .ok (.bipush 100, 2) := by decide +kernel
theorem d_Desk_withOne_29 : decode cX0_withOne 29 = .ok (.idiv, 1) := by decide +kernel
theorem d_Desk_withOne_30 : decode cX0_withOne 30 = .ok (.bipush 100, 2) := by decide +kernel
theorem d_Desk_withOne_32 : decode cX0_withOne 32 = .ok (.imul, 1) := by decide +kernel
theorem d_Desk_withOne_33 : decode cX0_withOne 33 = .ok (.bipush 100, 2) := by decide +kernel
theorem d_Desk_withOne_35 : decode cX0_withOne 35 = .ok (.iadd, 1) := by decide +kernel
theorem d_Desk_withOne_36 : decode cX0_withOne 36 = .ok (.iload_n 1, 1) := by decide +kernel
theorem d_Desk_withOne_37 : decode cX0_withOne 37 = .ok (.iadd, 1) := by decide +kernel
theorem d_Desk_withOne_38 : decode cX0_withOne 38 = .ok (.ireturn, 1) := by decide +kernel
theorem d_Desk_fewestCrates_0 : decode cX0_fewestCrates 0 = .ok (.iconst 1, 1) := by decide +kernel
theorem d_Desk_fewestCrates_1 : decode cX0_fewestCrates 1 = .ok (.aload_n 1, 1) := by decide +kernel
theorem d_Desk_fewestCrates_2 : decode cX0_fewestCrates 2 = .ok (.getfield 36, 3) := by decide +kernel
theorem d_Desk_fewestCrates_5 : decode cX0_fewestCrates 5 = .ok (.ishl, 1) := by decide +kernel
theorem d_Desk_fewestCrates_6 : decode cX0_fewestCrates 6 = .ok (.iconst 1, 1) := by decide +kernel
theorem d_Desk_fewestCrates_7 : decode cX0_fewestCrates 7 = .ok (.isub, 1) := by decide +kernel
theorem d_Desk_fewestCrates_8 : decode cX0_fewestCrates 8 = .ok (.istore_n 3, 1) := by decide +kernel
theorem d_Desk_fewestCrates_9 : decode cX0_fewestCrates 9 = .ok (.iconst 0, 1) := by decide +kernel
theorem d_Desk_fewestCrates_10 : decode cX0_fewestCrates 10 = .ok (.istore 4, 2) := by decide +kernel
theorem d_Desk_fewestCrates_12 : decode cX0_fewestCrates 12 = .ok (.iload 4, 2) := by decide +kernel
theorem d_Desk_fewestCrates_14 : decode cX0_fewestCrates 14 = .ok (.aload_n 1, 1) := by decide +kernel
theorem d_Desk_fewestCrates_15 : decode cX0_fewestCrates 15 = .ok (.getfield 36, 3) := by decide +kernel
theorem d_Desk_fewestCrates_18 : decode cX0_fewestCrates 18 = .ok (.if_icmp .ge 22, 3) := by decide +kernel
theorem d_Desk_fewestCrates_21 : decode cX0_fewestCrates 21 = .ok (.aload_n 1, 1) := by decide +kernel
theorem d_Desk_fewestCrates_22 : decode cX0_fewestCrates 22 = .ok (.iload 4, 2) := by decide +kernel
theorem d_Desk_fewestCrates_24 : decode cX0_fewestCrates 24 = .ok (.iconst 0, 1) := by decide +kernel
theorem d_Desk_fewestCrates_25 : decode cX0_fewestCrates 25 = .ok (.invokevirtual 30, 3) := by decide +kernel
theorem d_Desk_fewestCrates_28 : decode cX0_fewestCrates 28 = .ok (.iload_n 2, 1) := by decide +kernel
theorem d_Desk_fewestCrates_29 : decode cX0_fewestCrates 29 = .ok (.if_icmp .le 5, 3) := by decide +kernel
theorem d_Desk_fewestCrates_32 : decode cX0_fewestCrates 32 = .ok (.iconst (-1), 1) := by decide +kernel
theorem d_Desk_fewestCrates_33 : decode cX0_fewestCrates 33 = .ok (.ireturn, 1) := by decide +kernel
theorem d_Desk_fewestCrates_34 : decode cX0_fewestCrates 34 = .ok (.iinc 4 1, 3) := by decide +kernel
theorem d_Desk_fewestCrates_37 : decode cX0_fewestCrates 37 = .ok (.goto (-25), 3) := by decide +kernel
theorem d_Desk_fewestCrates_40 : decode cX0_fewestCrates 40 = .ok (.aload_n 0, 1) := by decide +kernel
theorem d_Desk_fewestCrates_41 : decode cX0_fewestCrates 41 = .ok (.getfield 15, 3) := by decide +kernel
theorem d_Desk_fewestCrates_44 : decode cX0_fewestCrates 44 = .ok (.iconst 0, 1) := by decide +kernel
theorem d_Desk_fewestCrates_45 : decode cX0_fewestCrates 45 = .ok (.iload_n 2, 1) := by decide +kernel
theorem d_Desk_fewestCrates_46 : decode cX0_fewestCrates 46 = .ok (.iastore, 1) := by decide +kernel
theorem d_Desk_fewestCrates_47 : decode cX0_fewestCrates 47 = .ok (.iconst 1, 1) := by decide +kernel
theorem d_Desk_fewestCrates_48 : decode cX0_fewestCrates 48 = .ok (.istore 4, 2) := by decide +kernel
theorem d_Desk_fewestCrates_50 : decode cX0_fewestCrates 50 = .ok (.iload 4, 2) := by decide +kernel
theorem d_Desk_fewestCrates_52 : decode cX0_fewestCrates 52 = .ok (.iload_n 3, 1) := by decide +kernel
theorem d_Desk_fewestCrates_53 : decode cX0_fewestCrates 53 = .ok (.if_icmp .gt 101, 3) := by decide +kernel
theorem d_Desk_fewestCrates_56 : decode cX0_fewestCrates 56 = .ok (.iload 4, 2) := by decide +kernel
theorem d_Desk_fewestCrates_58 : decode cX0_fewestCrates 58 = .ok (.aload_n 0, 1) := by decide +kernel
theorem d_Desk_fewestCrates_59 : decode cX0_fewestCrates 59 = .ok (.getfield 15, 3) := by decide +kernel
theorem d_Desk_fewestCrates_62 : decode cX0_fewestCrates 62 = .ok (.arraylength, 1) := by decide +kernel
theorem d_Desk_fewestCrates_63 : decode cX0_fewestCrates 63 = .ok (.if_icmp .ge 91, 3) := by decide +kernel
theorem d_Desk_fewestCrates_66 : decode cX0_fewestCrates 66 = .ok (.aload_n 0, 1) := by decide +kernel
theorem d_Desk_fewestCrates_67 : decode cX0_fewestCrates 67 = .ok (.getfield 15, 3) := by decide +kernel
theorem d_Desk_fewestCrates_70 : decode cX0_fewestCrates 70 = .ok (.iload 4, 2) := by decide +kernel
theorem d_Desk_fewestCrates_72 : decode cX0_fewestCrates 72 = .ok (.ldc 65, 2) := by decide +kernel
theorem d_Desk_fewestCrates_74 : decode cX0_fewestCrates 74 = .ok (.iastore, 1) := by decide +kernel
theorem d_Desk_fewestCrates_75 : decode cX0_fewestCrates 75 = .ok (.iconst 0, 1) := by decide +kernel
theorem d_Desk_fewestCrates_76 : decode cX0_fewestCrates 76 = .ok (.istore 5, 2) := by decide +kernel
theorem d_Desk_fewestCrates_78 : decode cX0_fewestCrates 78 = .ok (.iload 5, 2) := by decide +kernel
theorem d_Desk_fewestCrates_80 : decode cX0_fewestCrates 80 = .ok (.aload_n 1, 1) := by decide +kernel
theorem d_Desk_fewestCrates_81 : decode cX0_fewestCrates 81 = .ok (.getfield 36, 3) := by decide +kernel
theorem d_Desk_fewestCrates_84 : decode cX0_fewestCrates 84 = .ok (.if_icmp .ge 64, 3) := by decide +kernel
theorem d_Desk_fewestCrates_87 : decode cX0_fewestCrates 87 = .ok (.iload 4, 2) := by decide +kernel
theorem d_Desk_fewestCrates_89 : decode cX0_fewestCrates 89 = .ok (.iload 5, 2) := by decide +kernel
theorem d_Desk_fewestCrates_91 : decode cX0_fewestCrates 91 = .ok (.ishr, 1) := by decide +kernel
theorem d_Desk_fewestCrates_92 : decode cX0_fewestCrates 92 = .ok (.iconst 1, 1) := by decide +kernel
theorem d_Desk_fewestCrates_93 : decode cX0_fewestCrates 93 = .ok (.iand, 1) := by decide +kernel
theorem d_Desk_fewestCrates_94 : decode cX0_fewestCrates 94 = .ok (.iconst 1, 1) := by decide +kernel
theorem d_Desk_fewestCrates_95 : decode cX0_fewestCrates 95 = .ok (.if_icmp .ne 47, 3) := by decide +kernel
theorem d_Desk_fewestCrates_98 : decode cX0_fewestCrates 98 = .ok (.aload_n 0, 1) := by decide +kernel
theorem d_Desk_fewestCrates_99 : decode cX0_fewestCrates 99 = .ok (.getfield 15, 3) := by decide +kernel
theorem d_Desk_fewestCrates_102 : decode cX0_fewestCrates 102 = .ok (.iload 4, 2) := by decide +kernel
theorem d_Desk_fewestCrates_104 : decode cX0_fewestCrates 104 = .ok (.iconst 1, 1) := by decide +kernel
theorem d_Desk_fewestCrates_105 : decode cX0_fewestCrates 105 = .ok (.iload 5, 2) := by decide +kernel
theorem d_Desk_fewestCrates_107 : decode cX0_fewestCrates 107 = .ok (.ishl, 1) := by decide +kernel
theorem d_Desk_fewestCrates_108 : decode cX0_fewestCrates 108 = .ok (.ixor, 1) := by decide +kernel
theorem d_Desk_fewestCrates_109 : decode cX0_fewestCrates 109 = .ok (.iaload, 1) := by decide +kernel
theorem d_Desk_fewestCrates_110 : decode cX0_fewestCrates 110 = .ok (.istore 6, 2) := by decide +kernel
theorem d_Desk_fewestCrates_112 : decode cX0_fewestCrates 112 = .ok (.aload_n 0, 1) := by decide +kernel
theorem d_Desk_fewestCrates_113 : decode cX0_fewestCrates 113 = .ok (.getfield 15, 3) := by decide +kernel
theorem d_Desk_fewestCrates_116 : decode cX0_fewestCrates 116 = .ok (.iload 4, 2) := by decide +kernel
theorem d_Desk_fewestCrates_118 : decode cX0_fewestCrates 118 = .ok (.aload_n 0, 1) := by decide +kernel
theorem d_Desk_fewestCrates_119 : decode cX0_fewestCrates 119 = .ok (.getfield 15, 3) := by decide +kernel
theorem d_Desk_fewestCrates_122 : decode cX0_fewestCrates 122 = .ok (.iload 4, 2) := by decide +kernel
theorem d_Desk_fewestCrates_124 : decode cX0_fewestCrates 124 = .ok (.iaload, 1) := by decide +kernel
theorem d_Desk_fewestCrates_125 : decode cX0_fewestCrates 125 = .ok (.iload 6, 2) := by decide +kernel
theorem d_Desk_fewestCrates_127 : decode cX0_fewestCrates 127 = .ok (.aload_n 1, 1) := by decide +kernel
theorem d_Desk_fewestCrates_128 : decode cX0_fewestCrates 128 = .ok (.iload 5, 2) := by decide +kernel
theorem d_Desk_fewestCrates_130 : decode cX0_fewestCrates 130 = .ok (.iconst 0, 1) := by decide +kernel
theorem d_Desk_fewestCrates_131 : decode cX0_fewestCrates 131 = .ok (.invokevirtual 30, 3) := by decide +kernel
theorem d_Desk_fewestCrates_134 : decode cX0_fewestCrates 134 = .ok (.iload_n 2, 1) := by decide +kernel
theorem d_Desk_fewestCrates_135 : decode cX0_fewestCrates 135 = .ok (.invokestatic 66, 3) := by decide +kernel
theorem d_Desk_fewestCrates_138 : decode cX0_fewestCrates 138 = .ok (.invokestatic 70, 3) := by decide +kernel
theorem d_Desk_fewestCrates_141 : decode cX0_fewestCrates 141 = .ok (.iastore, 1) := by decide +kernel
theorem d_Desk_fewestCrates_142 : decode cX0_fewestCrates 142 = .ok (.iinc 5 1, 3) := by decide +kernel
theorem d_Desk_fewestCrates_145 : decode cX0_fewestCrates 145 = .ok (.goto (-67), 3) := by decide +kernel
theorem d_Desk_fewestCrates_148 : decode cX0_fewestCrates 148 = .ok (.iinc 4 1, 3) := by decide +kernel
theorem d_Desk_fewestCrates_151 : decode cX0_fewestCrates 151 = .ok (.goto (-101), 3) := by decide +kernel
theorem d_Desk_fewestCrates_154 : decode cX0_fewestCrates 154 = .ok (.iload_n 3, 1) := by decide +kernel
theorem d_Desk_fewestCrates_155 : decode cX0_fewestCrates 155 = .ok (.aload_n 0, 1) := by decide +kernel
theorem d_Desk_fewestCrates_156 : decode cX0_fewestCrates 156 = .ok (.getfield 15, 3) := by decide +kernel
theorem d_Desk_fewestCrates_159 : decode cX0_fewestCrates 159 = .ok (.arraylength, 1) := by decide +kernel
theorem d_Desk_fewestCrates_160 : decode cX0_fewestCrates 160 = .ok (.iconst 1, 1) := by decide +kernel
theorem d_Desk_fewestCrates_161 : decode cX0_fewestCrates 161 = .ok (.isub, 1) := by decide +kernel
theorem d_Desk_fewestCrates_162 : decode cX0_fewestCrates 162 = .ok (.invokestatic 73, 3) := by decide +kernel
theorem d_Desk_fewestCrates_165 : decode cX0_fewestCrates 165 = .ok (.ifCond .eq 15, 3) := by decide +kernel
theorem d_Desk_fewestCrates_168 : decode cX0_fewestCrates 168 = .ok (.aload_n 0, 1) := by decide +kernel
theorem d_Desk_fewestCrates_169 : decode cX0_fewestCrates 169 = .ok (.getfield 15, 3) := by decide +kernel
theorem d_Desk_fewestCrates_172 : decode cX0_fewestCrates 172 = .ok (.iload_n 3, 1) := by decide +kernel
theorem d_Desk_fewestCrates_173 : decode cX0_fewestCrates 173 = .ok (.iaload, 1) := by decide +kernel
theorem d_Desk_fewestCrates_174 : decode cX0_fewestCrates 174 = .ok (.bipush 100, 2) := by decide +kernel
theorem d_Desk_fewestCrates_176 : decode cX0_fewestCrates 176 = .ok (.idiv, 1) := by decide +kernel
theorem d_Desk_fewestCrates_177 : decode cX0_fewestCrates 177 = .ok (.goto 4, 3) := by decide +kernel
theorem d_Desk_fewestCrates_180 : decode cX0_fewestCrates 180 = .ok (.iconst (-1), 1) := by decide +kernel
theorem d_Desk_fewestCrates_181 : decode cX0_fewestCrates 181 = .ok (.ireturn, 1) := by decide +kernel
theorem d_Desk_fitOne_0 : decode cX0_fitOne 0 = .ok (.iload_n 2, 1) := by decide +kernel
theorem d_Desk_fitOne_1 : decode cX0_fitOne 1 = .ok (.istore_n 3, 1) := by decide +kernel
theorem d_Desk_fitOne_2 : decode cX0_fitOne 2 = .ok (.iconst 0, 1) := by decide +kernel
theorem d_Desk_fitOne_3 : decode cX0_fitOne 3 = .ok (.istore 4, 2) := by decide +kernel
theorem d_Desk_fitOne_5 : decode cX0_fitOne 5 = .ok (.iconst 1, 1) := by decide +kernel
theorem d_Desk_fitOne_6 : decode cX0_fitOne 6 = .ok (.istore 5, 2) := by decide +kernel
theorem d_Desk_fitOne_8 : decode cX0_fitOne 8 = .ok (.iload 5, 2) := by decide +kernel
theorem d_Desk_fitOne_10 : decode cX0_fitOne 10 = .ok (.bipush 40, 2) := by decide +kernel
theorem d_Desk_fitOne_12 : decode cX0_fitOne 12 = .ok (.if_icmp .gt 53, 3) := by decide +kernel
theorem d_Desk_fitOne_15 : decode cX0_fitOne 15 = .ok (.iconst 0, 1) := by decide +kernel
theorem d_Desk_fitOne_16 : decode cX0_fitOne 16 = .ok (.istore 6, 2) := by decide +kernel
theorem d_Desk_fitOne_18 : decode cX0_fitOne 18 = .ok (.iload 6, 2) := by decide +kernel
theorem d_Desk_fitOne_20 : decode cX0_fitOne 20 = .ok (.aload_n 1, 1) := by decide +kernel
theorem d_Desk_fitOne_21 : decode cX0_fitOne 21 = .ok (.getfield 36, 3) := by decide +kernel
theorem d_Desk_fitOne_24 : decode cX0_fitOne 24 = .ok (.if_icmp .ge 35, 3) := by decide +kernel
theorem d_Desk_fitOne_27 : decode cX0_fitOne 27 = .ok (.aload_n 1, 1) := by decide +kernel
theorem d_Desk_fitOne_28 : decode cX0_fitOne 28 = .ok (.iload 6, 2) := by decide +kernel
theorem d_Desk_fitOne_30 : decode cX0_fitOne 30 = .ok (.iconst 0, 1) := by decide +kernel
theorem d_Desk_fitOne_31 : decode cX0_fitOne 31 = .ok (.invokevirtual 30, 3) := by decide +kernel
theorem d_Desk_fitOne_34 : decode cX0_fitOne 34 = .ok (.iload 5, 2) := by decide +kernel
theorem d_Desk_fitOne_36 : decode cX0_fitOne 36 = .ok (.if_icmp .ne 17, 3) := by decide +kernel
theorem d_Desk_fitOne_39 : decode cX0_fitOne 39 = .ok (.iload 5, 2) := by decide +kernel
theorem d_Desk_fitOne_41 : decode cX0_fitOne 41 = .ok (.iload_n 3, 1) := by decide +kernel
theorem d_Desk_fitOne_42 : decode cX0_fitOne 42 = .ok (.if_icmp .gt 11, 3) := by decide +kernel
theorem d_Desk_fitOne_45 : decode cX0_fitOne 45 = .ok (.iload_n 3, 1) := by decide +kernel
theorem d_Desk_fitOne_46 : decode cX0_fitOne 46 = .ok (.iload 5, 2) := by decide +kernel
theorem d_Desk_fitOne_48 : decode cX0_fitOne 48 = .ok (.isub, 1) := by decide +kernel
theorem d_Desk_fitOne_49 : decode cX0_fitOne 49 = .ok (.istore_n 3, 1) := by decide +kernel
theorem d_Desk_fitOne_50 : decode cX0_fitOne 50 = .ok (.iinc 4 1, 3) := by decide +kernel
theorem d_Desk_fitOne_53 : decode cX0_fitOne 53 = .ok (.iinc 6 1, 3) := by decide +kernel
theorem d_Desk_fitOne_56 : decode cX0_fitOne 56 = .ok (.goto (-38), 3) := by decide +kernel
theorem d_Desk_fitOne_59 : decode cX0_fitOne 59 = .ok (.iinc 5 1, 3) := by decide +kernel
theorem d_Desk_fitOne_62 : decode cX0_fitOne 62 = .ok (.goto (-54), 3) := by decide +kernel
theorem d_Desk_fitOne_65 : decode cX0_fitOne 65 = .ok (.iload 4, 2) := by decide +kernel
theorem d_Desk_fitOne_67 : decode cX0_fitOne 67 = .ok (.ireturn, 1) := by decide +kernel
theorem d_Tc_crates_0 : decode cX8_crates 0 = .ok (.iload_n 1, 1) := by decide +kernel
theorem d_Tc_crates_1 : decode cX8_crates 1 = .ok (.iconst 1, 1) := by decide +kernel
theorem d_Tc_crates_2 : decode cX8_crates 2 = .ok (.if_icmp .lt 9, 3) := by decide +kernel
theorem d_Tc_crates_5 : decode cX8_crates 5 = .ok (.iload_n 1, 1) := by decide +kernel
theorem d_Tc_crates_6 : decode cX8_crates 6 = .ok (.bipush 99, 2) := by decide +kernel
theorem d_Tc_crates_8 : decode cX8_crates 8 = .ok (.if_icmp .le 5, 3) := by decide +kernel
theorem d_Tc_crates_11 : decode cX8_crates 11 = .ok (.iconst (-1), 1) := by decide +kernel
theorem d_Tc_crates_12 : decode cX8_crates 12 = .ok (.ireturn, 1) := by decide +kernel
theorem d_Tc_crates_13 : decode cX8_crates 13 = .ok (.iload_n 2, 1) := by decide +kernel
theorem d_Tc_crates_14 : decode cX8_crates 14 = .ok (.ifCond .ne 22, 3) := by decide +kernel
theorem d_Tc_crates_17 : decode cX8_crates 17 = .ok (.aload_n 0, 1) := by decide +kernel
theorem d_Tc_crates_18 : decode cX8_crates 18 = .ok (.getfield 40, 3) := by decide +kernel
theorem d_Tc_crates_21 : decode cX8_crates 21 = .ok (.aload_n 0, 1) := by decide +kernel
theorem d_Tc_crates_22 : decode cX8_crates 22 = .ok (.getfield 10, 3) := by decide +kernel
theorem d_Tc_crates_25 : decode cX8_crates 25 = .ok (.getfield 230, 3) := by decide +kernel
theorem d_Tc_crates_28 : decode cX8_crates 28 = .ok (.getfield 262, 3) := by decide +kernel
theorem d_Tc_crates_31 : decode cX8_crates 31 = .ok (.iload_n 1, 1) := by decide +kernel
theorem d_Tc_crates_32 : decode cX8_crates 32 = .ok (.invokevirtual 265, 3) := by decide +kernel
theorem d_Tc_crates_35 : decode cX8_crates 35 = .ok (.ireturn, 1) := by decide +kernel
theorem d_Tc_crates_36 : decode cX8_crates 36 = .ok (.iload_n 2, 1) := by decide +kernel
theorem d_Tc_crates_37 : decode cX8_crates 37 = .ok (.iconst 1, 1) := by decide +kernel
theorem d_Tc_crates_38 : decode cX8_crates 38 = .ok (.if_icmp .ne 24, 3) := by decide +kernel
theorem d_Tc_crates_41 : decode cX8_crates 41 = .ok (.aload_n 0, 1) := by decide +kernel
theorem d_Tc_crates_42 : decode cX8_crates 42 = .ok (.getfield 40, 3) := by decide +kernel
theorem d_Tc_crates_45 : decode cX8_crates 45 = .ok (.aload_n 0, 1) := by decide +kernel
theorem d_Tc_crates_46 : decode cX8_crates 46 = .ok (.getfield 10, 3) := by decide +kernel
theorem d_Tc_crates_49 : decode cX8_crates 49 = .ok (.getfield 230, 3) := by decide +kernel
theorem d_Tc_crates_52 : decode cX8_crates 52 = .ok (.getfield 262, 3) := by decide +kernel
theorem d_Tc_crates_55 : decode cX8_crates 55 = .ok (.iload_n 1, 1) := by decide +kernel
theorem d_Tc_crates_56 : decode cX8_crates 56 = .ok (.invokevirtual 269, 3) := by decide +kernel
theorem d_Tc_crates_59 : decode cX8_crates 59 = .ok (.goto 4, 3) := by decide +kernel
theorem d_Tc_crates_62 : decode cX8_crates 62 = .ok (.iconst (-1), 1) := by decide +kernel
theorem d_Tc_crates_63 : decode cX8_crates 63 = .ok (.ireturn, 1) := by decide +kernel
theorem d_Tc_bag_0 : decode cX8_bag 0 = .ok (.iload_n 1, 1) := by decide +kernel
theorem d_Tc_bag_1 : decode cX8_bag 1 = .ok (.iconst (-1), 1) := by decide +kernel
theorem d_Tc_bag_2 : decode cX8_bag 2 = .ok (.if_icmp .ne 31, 3) := by decide +kernel
theorem d_Tc_bag_5 : decode cX8_bag 5 = .ok (.aload_n 0, 1) := by decide +kernel
theorem d_Tc_bag_6 : decode cX8_bag 6 = .ok (.getfield 10, 3) := by decide +kernel
theorem d_Tc_bag_9 : decode cX8_bag 9 = .ok (.getfield 230, 3) := by decide +kernel
theorem d_Tc_bag_12 : decode cX8_bag 12 = .ok (.getfield 272, 3) := by decide +kernel
theorem d_Tc_bag_15 : decode cX8_bag 15 = .ok (.invokevirtual 239, 3) := by decide +kernel
theorem d_Tc_bag_18 : decode cX8_bag 18 = .ok (.pop, 1) := by decide +kernel
theorem d_Tc_bag_19 : decode cX8_bag 19 = .ok (.aload_n 0, 1) := by decide +kernel
theorem d_Tc_bag_20 : decode cX8_bag 20 = .ok (.getfield 10, 3) := by decide +kernel
theorem d_Tc_bag_23 : decode cX8_bag 23 = .ok (.getfield 230, 3) := by decide +kernel
theorem d_Tc_bag_26 : decode cX8_bag 26 = .ok (.getfield 275, 3) := by decide +kernel
theorem d_Tc_bag_29 : decode cX8_bag 29 = .ok (.invokevirtual 239, 3) := by decide +kernel
theorem d_Tc_bag_32 : decode cX8_bag 32 = .ok (.ireturn, 1) := by decide +kernel
theorem d_Tc_bag_33 : decode cX8_bag 33 = .ok (.iload_n 1, 1) := by decide +kernel
theorem d_Tc_bag_34 : decode cX8_bag 34 = .ok (.iconst 1, 1) := by decide +kernel
theorem d_Tc_bag_35 : decode cX8_bag 35 = .ok (.if_icmp .lt 9, 3) := by decide +kernel
theorem d_Tc_bag_38 : decode cX8_bag 38 = .ok (.iload_n 1, 1) := by decide +kernel
theorem d_Tc_bag_39 : decode cX8_bag 39 = .ok (.bipush 99, 2) := by decide +kernel
theorem d_Tc_bag_41 : decode cX8_bag 41 = .ok (.if_icmp .le 7, 3) := by decide +kernel
theorem d_Tc_bag_44 : decode cX8_bag 44 = .ok (.iconst (-1), 1) := by decide +kernel
theorem d_Tc_bag_45 : decode cX8_bag 45 = .ok (.goto 20, 3) := by decide +kernel
theorem d_Tc_bag_48 : decode cX8_bag 48 = .ok (.aload_n 0, 1) := by decide +kernel
theorem d_Tc_bag_49 : decode cX8_bag 49 = .ok (.getfield 10, 3) := by decide +kernel
theorem d_Tc_bag_52 : decode cX8_bag 52 = .ok (.getfield 230, 3) := by decide +kernel
theorem d_Tc_bag_55 : decode cX8_bag 55 = .ok (.getfield 275, 3) := by decide +kernel
theorem d_Tc_bag_58 : decode cX8_bag 58 = .ok (.iload_n 1, 1) := by decide +kernel
theorem d_Tc_bag_59 : decode cX8_bag 59 = .ok (.iconst 0, 1) := by decide +kernel
theorem d_Tc_bag_60 : decode cX8_bag 60 = .ok (.iconst 0, 1) := by decide +kernel
theorem d_Tc_bag_61 : decode cX8_bag 61 = .ok (.iconst 0, 1) := by decide +kernel
theorem d_Tc_bag_62 : decode cX8_bag 62 = .ok (.invokevirtual 242, 3) := by decide +kernel
theorem d_Tc_bag_65 : decode cX8_bag 65 = .ok (.ireturn, 1) := by decide +kernel
theorem d_Tc_weighed_0 : decode cX8_weighed 0 = .ok (.iload_n 1, 1) := by decide +kernel
theorem d_Tc_weighed_1 : decode cX8_weighed 1 = .ok (.iconst 1, 1) := by decide +kernel
theorem d_Tc_weighed_2 : decode cX8_weighed 2 = .ok (.aload_n 0, 1) := by decide +kernel
theorem d_Tc_weighed_3 : decode cX8_weighed 3 = .ok (.getfield 10, 3) := by decide +kernel
theorem d_Tc_weighed_6 : decode cX8_weighed 6 = .ok (.getfield 230, 3) := by decide +kernel
theorem d_Tc_weighed_9 : decode cX8_weighed 9 = .ok (.getfield 275, 3) := by decide +kernel
theorem d_Tc_weighed_12 : decode cX8_weighed 12 = .ok (.getfield 144, 3) := by decide +kernel
theorem d_Tc_weighed_15 : decode cX8_weighed 15 = .ok (.ishl, 1) := by decide +kernel
theorem d_Tc_weighed_16 : decode cX8_weighed 16 = .ok (.iconst 1, 1) := by decide +kernel
theorem d_Tc_weighed_17 : decode cX8_weighed 17 = .ok (.isub, 1) := by decide +kernel
theorem d_Tc_weighed_18 : decode cX8_weighed 18 = .ok (.invokestatic 57, 3) := by decide +kernel
theorem d_Tc_weighed_21 : decode cX8_weighed 21 = .ok (.ifCond .eq 13, 3) := by decide +kernel
theorem d_Tc_weighed_24 : decode cX8_weighed 24 = .ok (.iload_n 2, 1) := by decide +kernel
theorem d_Tc_weighed_25 : decode cX8_weighed 25 = .ok (.sipush 9999, 3) := by decide +kernel
theorem d_Tc_weighed_28 : decode cX8_weighed 28 = .ok (.invokestatic 57, 3) := by decide +kernel
theorem d_Tc_weighed_31 : decode cX8_weighed 31 = .ok (.ifCond .ne 5, 3) := by decide +kernel
theorem d_Tc_weighed_34 : decode cX8_weighed 34 = .ok (.iconst (-1), 1) := by decide +kernel
theorem d_Tc_weighed_35 : decode cX8_weighed 35 = .ok (.ireturn, 1) := by decide +kernel
theorem d_Tc_weighed_36 : decode cX8_weighed 36 = .ok (.aload_n 0, 1) := by decide +kernel
theorem d_Tc_weighed_37 : decode cX8_weighed 37 = .ok (.getfield 10, 3) := by decide +kernel
theorem d_Tc_weighed_40 : decode cX8_weighed 40 = .ok (.getfield 230, 3) := by decide +kernel
theorem d_Tc_weighed_43 : decode cX8_weighed 43 = .ok (.getfield 272, 3) := by decide +kernel
theorem d_Tc_weighed_46 : decode cX8_weighed 46 = .ok (.iload_n 1, 1) := by decide +kernel
theorem d_Tc_weighed_47 : decode cX8_weighed 47 = .ok (.iload_n 2, 1) := by decide +kernel
theorem d_Tc_weighed_48 : decode cX8_weighed 48 = .ok (.iconst 0, 1) := by decide +kernel
theorem d_Tc_weighed_49 : decode cX8_weighed 49 = .ok (.iconst 0, 1) := by decide +kernel
theorem d_Tc_weighed_50 : decode cX8_weighed 50 = .ok (.invokevirtual 242, 3) := by decide +kernel
theorem d_Tc_weighed_53 : decode cX8_weighed 53 = .ok (.ireturn, 1) := by decide +kernel
theorem d_Desk_isAllowed_0 : decode cX0_isAllowed 0 = .ok (.iconst 0, 1) := by decide +kernel
theorem d_Desk_isAllowed_1 : decode cX0_isAllowed 1 = .ok (.istore_n 3, 1) := by decide +kernel
theorem d_Desk_isAllowed_2 : decode cX0_isAllowed 2 = .ok (.iload_n 3, 1) := by decide +kernel
theorem d_Desk_isAllowed_3 : decode cX0_isAllowed 3 = .ok (.aload_n 1, 1) := by decide +kernel
theorem d_Desk_isAllowed_4 : decode cX0_isAllowed 4 = .ok (.getfield 87, 3) := by decide +kernel
theorem d_Desk_isAllowed_7 : decode cX0_isAllowed 7 = .ok (.getfield 36, 3) := by decide +kernel
theorem d_Desk_isAllowed_10 : decode cX0_isAllowed 10 = .ok (.if_icmp .ge 105, 3) := by decide +kernel
theorem d_Desk_isAllowed_13 : decode cX0_isAllowed 13 = .ok (.aload_n 1, 1) := by decide +kernel
theorem d_Desk_isAllowed_14 : decode cX0_isAllowed 14 = .ok (.getfield 87, 3) := by decide +kernel
theorem d_Desk_isAllowed_17 : decode cX0_isAllowed 17 = .ok (.iload_n 3, 1) := by decide +kernel
theorem d_Desk_isAllowed_18 : decode cX0_isAllowed 18 = .ok (.iconst 0, 1) := by decide +kernel
theorem d_Desk_isAllowed_19 : decode cX0_isAllowed 19 = .ok (.invokevirtual 30, 3) := by decide +kernel
theorem d_Desk_isAllowed_22 : decode cX0_isAllowed 22 = .ok (.istore 4, 2) := by decide +kernel
theorem d_Desk_isAllowed_24 : decode cX0_isAllowed 24 = .ok (.iload 4, 2) := by decide +kernel
theorem d_Desk_isAllowed_26 : decode cX0_isAllowed 26 = .ok (.iload_n 2, 1) := by decide +kernel
theorem d_Desk_isAllowed_27 : decode cX0_isAllowed 27 = .ok (.ishr, 1) := by decide +kernel
theorem d_Desk_isAllowed_28 : decode cX0_isAllowed 28 = .ok (.iconst 1, 1) := by decide +kernel
theorem d_Desk_isAllowed_29 : decode cX0_isAllowed 29 = .ok (.iand, 1) := by decide +kernel
theorem d_Desk_isAllowed_30 : decode cX0_isAllowed 30 = .ok (.iconst 1, 1) := by decide +kernel
theorem d_Desk_isAllowed_31 : decode cX0_isAllowed 31 = .ok (.if_icmp .ne 8, 3) := by decide +kernel
theorem d_Desk_isAllowed_34 : decode cX0_isAllowed 34 = .ok (.bipush 7, 2) := by decide +kernel
theorem d_Desk_isAllowed_36 : decode cX0_isAllowed 36 = .ok (.goto 4, 3) := by decide +kernel
theorem d_Desk_isAllowed_39 : decode cX0_isAllowed 39 = .ok (.iconst 0, 1) := by decide +kernel
theorem d_Desk_isAllowed_40 : decode cX0_isAllowed 40 = .ok (.istore 5, 2) := by decide +kernel
theorem d_Desk_isAllowed_42 : decode cX0_isAllowed 42 = .ok (.iconst 0, 1) := by decide +kernel
theorem d_Desk_isAllowed_43 : decode cX0_isAllowed 43 = .ok (.istore 6, 2) := by decide +kernel
theorem d_Desk_isAllowed_45 : decode cX0_isAllowed 45 = .ok (.iload 6, 2) := by decide +kernel
theorem d_Desk_isAllowed_47 : decode cX0_isAllowed 47 = .ok (.aload_n 1, 1) := by decide +kernel
theorem d_Desk_isAllowed_48 : decode cX0_isAllowed 48 = .ok (.getfield 77, 3) := by decide +kernel
theorem d_Desk_isAllowed_51 : decode cX0_isAllowed 51 = .ok (.getfield 36, 3) := by decide +kernel
theorem d_Desk_isAllowed_54 : decode cX0_isAllowed 54 = .ok (.if_icmp .ge 39, 3) := by decide +kernel
theorem d_Desk_isAllowed_57 : decode cX0_isAllowed 57 = .ok (.iload 5, 2) := by decide +kernel
theorem d_Desk_isAllowed_59 : decode cX0_isAllowed 59 = .ok (.iload 4, 2) := by decide +kernel
theorem d_Desk_isAllowed_61 : decode cX0_isAllowed 61 = .ok (.iload 6, 2) := by decide +kernel
theorem d_Desk_isAllowed_63 : decode cX0_isAllowed 63 = .ok (.ishr, 1) := by decide +kernel
theorem d_Desk_isAllowed_64 : decode cX0_isAllowed 64 = .ok (.iconst 1, 1) := by decide +kernel
theorem d_Desk_isAllowed_65 : decode cX0_isAllowed 65 = .ok (.iand, 1) := by decide +kernel
theorem d_Desk_isAllowed_66 : decode cX0_isAllowed 66 = .ok (.iconst 1, 1) := by decide +kernel
theorem d_Desk_isAllowed_67 : decode cX0_isAllowed 67 = .ok (.if_icmp .ne 16, 3) := by decide +kernel
theorem d_Desk_isAllowed_70 : decode cX0_isAllowed 70 = .ok (.aload_n 1, 1) := by decide +kernel
theorem d_Desk_isAllowed_71 : decode cX0_isAllowed 71 = .ok (.getfield 77, 3) := by decide +kernel
theorem d_Desk_isAllowed_74 : decode cX0_isAllowed 74 = .ok (.iload 6, 2) := by decide +kernel
theorem d_Desk_isAllowed_76 : decode cX0_isAllowed 76 = .ok (.iconst 0, 1) := by decide +kernel
theorem d_Desk_isAllowed_77 : decode cX0_isAllowed 77 = .ok (.invokevirtual 30, 3) := by decide +kernel
theorem d_Desk_isAllowed_80 : decode cX0_isAllowed 80 = .ok (.goto 4, 3) := by decide +kernel
theorem d_Desk_isAllowed_83 : decode cX0_isAllowed 83 = .ok (.iconst 0, 1) := by decide +kernel
theorem d_Desk_isAllowed_84 : decode cX0_isAllowed 84 = .ok (.iadd, 1) := by decide +kernel
theorem d_Desk_isAllowed_85 : decode cX0_isAllowed 85 = .ok (.istore 5, 2) := by decide +kernel
theorem d_Desk_isAllowed_87 : decode cX0_isAllowed 87 = .ok (.iinc 6 1, 3) := by decide +kernel
theorem d_Desk_isAllowed_90 : decode cX0_isAllowed 90 = .ok (.goto (-45), 3) := by decide +kernel
theorem d_Desk_isAllowed_93 : decode cX0_isAllowed 93 = .ok (.iload 5, 2) := by decide +kernel
theorem d_Desk_isAllowed_95 : decode cX0_isAllowed 95 = .ok (.aload_n 1, 1) := by decide +kernel
theorem d_Desk_isAllowed_96 : decode cX0_isAllowed 96 = .ok (.getfield 87, 3) := by decide +kernel
theorem d_Desk_isAllowed_99 : decode cX0_isAllowed 99 = .ok (.iload_n 3, 1) := by decide +kernel
theorem d_Desk_isAllowed_100 : decode cX0_isAllowed 100 = .ok (.iconst 1, 1) := by decide +kernel
theorem d_Desk_isAllowed_101 : decode cX0_isAllowed 101 = .ok (.invokevirtual 30, 3) := by decide +kernel
theorem d_Desk_isAllowed_104 : decode cX0_isAllowed 104 = .ok (.if_icmp .eq 5, 3) := by decide +kernel
theorem d_Desk_isAllowed_107 : decode cX0_isAllowed 107 = .ok (.iconst 0, 1) := by decide +kernel
theorem d_Desk_isAllowed_108 : decode cX0_isAllowed 108 = .ok (.ireturn, 1) := by decide +kernel
theorem d_Desk_isAllowed_109 : decode cX0_isAllowed 109 = .ok (.iinc 3 1, 3) := by decide +kernel
theorem d_Desk_isAllowed_112 : decode cX0_isAllowed 112 = .ok (.goto (-110), 3) := by decide +kernel
theorem d_Desk_isAllowed_115 : decode cX0_isAllowed 115 = .ok (.iconst 1, 1) := by decide +kernel
theorem d_Desk_isAllowed_116 : decode cX0_isAllowed 116 = .ok (.ireturn, 1) := by decide +kernel
theorem d_Desk_suspectSet_0 : decode cX0_suspectSet 0 = .ok (.iconst 0, 1) := by decide +kernel
theorem d_Desk_suspectSet_1 : decode cX0_suspectSet 1 = .ok (.istore_n 2, 1) := by decide +kernel
theorem d_Desk_suspectSet_2 : decode cX0_suspectSet 2 = .ok (.iconst 0, 1) := by decide +kernel
theorem d_Desk_suspectSet_3 : decode cX0_suspectSet 3 = .ok (.istore_n 3, 1) := by decide +kernel
theorem d_Desk_suspectSet_4 : decode cX0_suspectSet 4 = .ok (.iload_n 3, 1) := by decide +kernel
theorem d_Desk_suspectSet_5 : decode cX0_suspectSet 5 = .ok (.aload_n 1, 1) := by decide +kernel
theorem d_Desk_suspectSet_6 : decode cX0_suspectSet 6 = .ok (.getfield 77, 3) := by decide +kernel
theorem d_Desk_suspectSet_9 : decode cX0_suspectSet 9 = .ok (.getfield 36, 3) := by decide +kernel
theorem d_Desk_suspectSet_12 : decode cX0_suspectSet 12 = .ok (.if_icmp .ge 24, 3) := by decide +kernel
theorem d_Desk_suspectSet_15 : decode cX0_suspectSet 15 = .ok (.aload_n 0, 1) := by decide +kernel
theorem d_Desk_suspectSet_16 : decode cX0_suspectSet 16 = .ok (.aload_n 1, 1) := by decide +kernel
theorem d_Desk_suspectSet_17 : decode cX0_suspectSet 17 = .ok (.iload_n 3, 1) := by decide +kernel
theorem d_Desk_suspectSet_18 : decode cX0_suspectSet 18 = .ok (.invokevirtual 83, 3) := by decide +kernel
theorem d_Desk_suspectSet_21 : decode cX0_suspectSet 21 = .ok (.ifCond .eq 9, 3) := by decide +kernel
theorem d_Desk_suspectSet_24 : decode cX0_suspectSet 24 = .ok (.iload_n 2, 1) := by decide +kernel
theorem d_Desk_suspectSet_25 : decode cX0_suspectSet 25 = .ok (.iconst 1, 1) := by decide +kernel
theorem d_Desk_suspectSet_26 : decode cX0_suspectSet 26 = .ok (.iload_n 3, 1) := by decide +kernel
theorem d_Desk_suspectSet_27 : decode cX0_suspectSet 27 = .ok (.ishl, 1) := by decide +kernel
theorem d_Desk_suspectSet_28 : decode cX0_suspectSet 28 = .ok (.ior, 1) := by decide +kernel
theorem d_Desk_suspectSet_29 : decode cX0_suspectSet 29 = .ok (.istore_n 2, 1) := by decide +kernel
theorem d_Desk_suspectSet_30 : decode cX0_suspectSet 30 = .ok (.iinc 3 1, 3) := by decide +kernel
theorem d_Desk_suspectSet_33 : decode cX0_suspectSet 33 = .ok (.goto (-29), 3) := by decide +kernel
theorem d_Desk_suspectSet_36 : decode cX0_suspectSet 36 = .ok (.iload_n 2, 1) := by decide +kernel
theorem d_Desk_suspectSet_37 : decode cX0_suspectSet 37 = .ok (.ireturn, 1) := by decide +kernel
theorem d_Desk_nextSet_0 : decode cX0_nextSet 0 = .ok (.iload_n 1, 1) := by decide +kernel
theorem d_Desk_nextSet_1 : decode cX0_nextSet 1 = .ok (.invokestatic 54, 3) := by decide +kernel
theorem d_Desk_nextSet_4 : decode cX0_nextSet 4 = .ok (.iconst 2, 1) := by decide +kernel
theorem d_Desk_nextSet_5 : decode cX0_nextSet 5 = .ok (.if_icmp .ge 5, 3) := by decide +kernel
theorem d_Desk_nextSet_8 : decode cX0_nextSet 8 = .ok (.iconst (-1), 1) := by decide +kernel
theorem d_Desk_nextSet_9 : decode cX0_nextSet 9 = .ok (.ireturn, 1) := by decide +kernel
theorem d_Desk_nextSet_10 : decode cX0_nextSet 10 = .ok (.iconst (-1), 1) := by decide +kernel
theorem d_Desk_nextSet_11 : decode cX0_nextSet 11 = .ok (.istore_n 3, 1) := by decide +kernel
theorem d_Desk_nextSet_12 : decode cX0_nextSet 12 = .ok (.ldc 65, 2) := by decide +kernel
theorem d_Desk_nextSet_14 : decode cX0_nextSet 14 = .ok (.istore 4, 2) := by decide +kernel
theorem d_Desk_nextSet_16 : decode cX0_nextSet 16 = .ok (.iconst 0, 1) := by decide +kernel
theorem d_Desk_nextSet_17 : decode cX0_nextSet 17 = .ok (.istore 5, 2) := by decide +kernel
theorem d_Desk_nextSet_19 : decode cX0_nextSet 19 = .ok (.iload 5, 2) := by decide +kernel
theorem d_Desk_nextSet_21 : decode cX0_nextSet 21 = .ok (.iconst 1, 1) := by decide +kernel
theorem d_Desk_nextSet_22 : decode cX0_nextSet 22 = .ok (.iload_n 2, 1) := by decide +kernel
theorem d_Desk_nextSet_23 : decode cX0_nextSet 23 = .ok (.ishl, 1) := by decide +kernel
theorem d_Desk_nextSet_24 : decode cX0_nextSet 24 = .ok (.if_icmp .ge 76, 3) := by decide +kernel
theorem d_Desk_nextSet_27 : decode cX0_nextSet 27 = .ok (.iload 5, 2) := by decide +kernel
theorem d_Desk_nextSet_29 : decode cX0_nextSet 29 = .ok (.invokestatic 54, 3) := by decide +kernel
theorem d_Desk_nextSet_32 : decode cX0_nextSet 32 = .ok (.istore 6, 2) := by decide +kernel
theorem d_Desk_nextSet_34 : decode cX0_nextSet 34 = .ok (.iload_n 1, 1) := by decide +kernel
theorem d_Desk_nextSet_35 : decode cX0_nextSet 35 = .ok (.iload 5, 2) := by decide +kernel
theorem d_Desk_nextSet_37 : decode cX0_nextSet 37 = .ok (.iand, 1) := by decide +kernel
theorem d_Desk_nextSet_38 : decode cX0_nextSet 38 = .ok (.invokestatic 54, 3) := by decide +kernel
theorem d_Desk_nextSet_41 : decode cX0_nextSet 41 = .ok (.istore 7, 2) := by decide +kernel
theorem d_Desk_nextSet_43 : decode cX0_nextSet 43 = .ok (.iload_n 1, 1) := by decide +kernel
theorem d_Desk_nextSet_44 : decode cX0_nextSet 44 = .ok (.iload 5, 2) := by decide +kernel
theorem d_Desk_nextSet_46 : decode cX0_nextSet 46 = .ok (.iconst (-1), 1) := by decide +kernel
theorem d_Desk_nextSet_47 : decode cX0_nextSet 47 = .ok (.ixor, 1) := by decide +kernel
theorem d_Desk_nextSet_48 : decode cX0_nextSet 48 = .ok (.iand, 1) := by decide +kernel
theorem d_Desk_nextSet_49 : decode cX0_nextSet 49 = .ok (.invokestatic 54, 3) := by decide +kernel
theorem d_Desk_nextSet_52 : decode cX0_nextSet 52 = .ok (.istore 8, 2) := by decide +kernel
theorem d_Desk_nextSet_54 : decode cX0_nextSet 54 = .ok (.iload 7, 2) := by decide +kernel
theorem d_Desk_nextSet_56 : decode cX0_nextSet 56 = .ok (.iload 8, 2) := by decide +kernel
theorem d_Desk_nextSet_58 : decode cX0_nextSet 58 = .ok (.invokestatic 60, 3) := by decide +kernel
theorem d_Desk_nextSet_61 : decode cX0_nextSet 61 = .ok (.iconst 4, 1) := by decide +kernel
theorem d_Desk_nextSet_62 : decode cX0_nextSet 62 = .ok (.imul, 1) := by decide +kernel
theorem d_Desk_nextSet_63 : decode cX0_nextSet 63 = .ok (.iload 6, 2) := by decide +kernel
theorem d_Desk_nextSet_65 : decode cX0_nextSet 65 = .ok (.iadd, 1) := by decide +kernel
theorem d_Desk_nextSet_66 : decode cX0_nextSet 66 = .ok (.istore 9, 2) := by decide +kernel
theorem d_Desk_nextSet_68 : decode cX0_nextSet 68 = .ok (.iload 6, 2) := by decide +kernel
theorem d_Desk_nextSet_70 : decode cX0_nextSet 70 = .ok (.iconst 2, 1) := by decide +kernel
theorem d_Desk_nextSet_71 : decode cX0_nextSet 71 = .ok (.if_icmp .eq 9, 3) := by decide +kernel
theorem d_Desk_nextSet_74 : decode cX0_nextSet 74 = .ok (.iload 6, 2) := by decide +kernel
theorem d_Desk_nextSet_76 : decode cX0_nextSet 76 = .ok (.iconst 3, 1) := by decide +kernel
theorem d_Desk_nextSet_77 : decode cX0_nextSet 77 = .ok (.if_icmp .ne 17, 3) := by decide +kernel
theorem d_Desk_nextSet_80 : decode cX0_nextSet 80 = .ok (.iload 9, 2) := by decide +kernel
theorem d_Desk_nextSet_82 : decode cX0_nextSet 82 = .ok (.iload 4, 2) := by decide +kernel
theorem d_Desk_nextSet_84 : decode cX0_nextSet 84 = .ok (.if_icmp .ge 10, 3) := by decide +kernel
theorem d_Desk_nextSet_87 : decode cX0_nextSet 87 = .ok (.iload 5, 2) := by decide +kernel
theorem d_Desk_nextSet_89 : decode cX0_nextSet 89 = .ok (.istore_n 3, 1) := by decide +kernel
theorem d_Desk_nextSet_90 : decode cX0_nextSet 90 = .ok (.iload 9, 2) := by decide +kernel
theorem d_Desk_nextSet_92 : decode cX0_nextSet 92 = .ok (.istore 4, 2) := by decide +kernel
theorem d_Desk_nextSet_94 : decode cX0_nextSet 94 = .ok (.iinc 5 1, 3) := by decide +kernel
theorem d_Desk_nextSet_97 : decode cX0_nextSet 97 = .ok (.goto (-78), 3) := by decide +kernel
theorem d_Desk_nextSet_100 : decode cX0_nextSet 100 = .ok (.iload_n 3, 1) := by decide +kernel
theorem d_Desk_nextSet_101 : decode cX0_nextSet 101 = .ok (.ireturn, 1) := by decide +kernel
theorem d_Tc_suspects_0 : decode cX8_suspects 0 = .ok (.iload_n 1, 1) := by decide +kernel
theorem d_Tc_suspects_1 : decode cX8_suspects 1 = .ok (.iconst 1, 1) := by decide +kernel
theorem d_Tc_suspects_2 : decode cX8_suspects 2 = .ok (.invokestatic 57, 3) := by decide +kernel
theorem d_Tc_suspects_5 : decode cX8_suspects 5 = .ok (.ifCond .ne 5, 3) := by decide +kernel
theorem d_Tc_suspects_8 : decode cX8_suspects 8 = .ok (.iconst (-1), 1) := by decide +kernel
theorem d_Tc_suspects_9 : decode cX8_suspects 9 = .ok (.ireturn, 1) := by decide +kernel
theorem d_Tc_suspects_10 : decode cX8_suspects 10 = .ok (.aload_n 0, 1) := by decide +kernel
theorem d_Tc_suspects_11 : decode cX8_suspects 11 = .ok (.getfield 40, 3) := by decide +kernel
theorem d_Tc_suspects_14 : decode cX8_suspects 14 = .ok (.aload_n 0, 1) := by decide +kernel
theorem d_Tc_suspects_15 : decode cX8_suspects 15 = .ok (.getfield 10, 3) := by decide +kernel
theorem d_Tc_suspects_18 : decode cX8_suspects 18 = .ok (.getfield 230, 3) := by decide +kernel
theorem d_Tc_suspects_21 : decode cX8_suspects 21 = .ok (.invokevirtual 278, 3) := by decide +kernel
theorem d_Tc_suspects_24 : decode cX8_suspects 24 = .ok (.istore_n 2, 1) := by decide +kernel
theorem d_Tc_suspects_25 : decode cX8_suspects 25 = .ok (.iload_n 1, 1) := by decide +kernel
theorem d_Tc_suspects_26 : decode cX8_suspects 26 = .ok (.ifCond .ne 7, 3) := by decide +kernel
theorem d_Tc_suspects_29 : decode cX8_suspects 29 = .ok (.iload_n 2, 1) := by decide +kernel
theorem d_Tc_suspects_30 : decode cX8_suspects 30 = .ok (.goto 24, 3) := by decide +kernel
theorem d_Tc_suspects_33 : decode cX8_suspects 33 = .ok (.aload_n 0, 1) := by decide +kernel
theorem d_Tc_suspects_34 : decode cX8_suspects 34 = .ok (.getfield 40, 3) := by decide +kernel
theorem d_Tc_suspects_37 : decode cX8_suspects 37 = .ok (.iload_n 2, 1) := by decide +kernel
theorem d_Tc_suspects_38 : decode cX8_suspects 38 = .ok (.aload_n 0, 1) := by decide +kernel
theorem d_Tc_suspects_39 : decode cX8_suspects 39 = .ok (.getfield 10, 3) := by decide +kernel
theorem d_Tc_suspects_42 : decode cX8_suspects 42 = .ok (.getfield 230, 3) := by decide +kernel
theorem d_Tc_suspects_45 : decode cX8_suspects 45 = .ok (.getfield 275, 3) := by decide +kernel
theorem d_Tc_suspects_48 : decode cX8_suspects 48 = .ok (.getfield 144, 3) := by decide +kernel
theorem d_Tc_suspects_51 : decode cX8_suspects 51 = .ok (.invokevirtual 282, 3) := by decide +kernel
theorem d_Tc_suspects_54 : decode cX8_suspects 54 = .ok (.ireturn, 1) := by decide +kernel
theorem d_Desk_isFirst_0 : decode cX0_isFirst 0 = .ok (.iconst 0, 1) := by decide +kernel
theorem d_Desk_isFirst_1 : decode cX0_isFirst 1 = .ok (.istore_n 3, 1) := by decide +kernel
theorem d_Desk_isFirst_2 : decode cX0_isFirst 2 = .ok (.iload_n 3, 1) := by decide +kernel
theorem d_Desk_isFirst_3 : decode cX0_isFirst 3 = .ok (.iload_n 2, 1) := by decide +kernel
theorem d_Desk_isFirst_4 : decode cX0_isFirst 4 = .ok (.if_icmp .ge 41, 3) := by decide +kernel
theorem d_Desk_isFirst_7 : decode cX0_isFirst 7 = .ok (.aload_n 1, 1) := by decide +kernel
theorem d_Desk_isFirst_8 : decode cX0_isFirst 8 = .ok (.iload_n 3, 1) := by decide +kernel
theorem d_Desk_isFirst_9 : decode cX0_isFirst 9 = .ok (.iconst 0, 1) := by decide +kernel
theorem d_Desk_isFirst_10 : decode cX0_isFirst 10 = .ok (.invokevirtual 30, 3) := by decide +kernel
theorem d_Desk_isFirst_13 : decode cX0_isFirst 13 = .ok (.aload_n 1, 1) := by decide +kernel
theorem d_Desk_isFirst_14 : decode cX0_isFirst 14 = .ok (.iload_n 2, 1) := by decide +kernel
theorem d_Desk_isFirst_15 : decode cX0_isFirst 15 = .ok (.iconst 0, 1) := by decide +kernel
theorem d_Desk_isFirst_16 : decode cX0_isFirst 16 = .ok (.invokevirtual 30, 3) := by decide +kernel
theorem d_Desk_isFirst_19 : decode cX0_isFirst 19 = .ok (.if_icmp .ne 20, 3) := by decide +kernel
theorem d_Desk_isFirst_22 : decode cX0_isFirst 22 = .ok (.aload_n 1, 1) := by decide +kernel
theorem d_Desk_isFirst_23 : decode cX0_isFirst 23 = .ok (.iload_n 3, 1) := by decide +kernel
theorem d_Desk_isFirst_24 : decode cX0_isFirst 24 = .ok (.iconst 1, 1) := by decide +kernel
theorem d_Desk_isFirst_25 : decode cX0_isFirst 25 = .ok (.invokevirtual 30, 3) := by decide +kernel
theorem d_Desk_isFirst_28 : decode cX0_isFirst 28 = .ok (.aload_n 1, 1) := by decide +kernel
theorem d_Desk_isFirst_29 : decode cX0_isFirst 29 = .ok (.iload_n 2, 1) := by decide +kernel
theorem d_Desk_isFirst_30 : decode cX0_isFirst 30 = .ok (.iconst 1, 1) := by decide +kernel
theorem d_Desk_isFirst_31 : decode cX0_isFirst 31 = .ok (.invokevirtual 30, 3) := by decide +kernel
theorem d_Desk_isFirst_34 : decode cX0_isFirst 34 = .ok (.if_icmp .ne 5, 3) := by decide +kernel
theorem d_Desk_isFirst_37 : decode cX0_isFirst 37 = .ok (.iconst 0, 1) := by decide +kernel
theorem d_Desk_isFirst_38 : decode cX0_isFirst 38 = .ok (.ireturn, 1) := by decide +kernel
theorem d_Desk_isFirst_39 : decode cX0_isFirst 39 = .ok (.iinc 3 1, 3) := by decide +kernel
theorem d_Desk_isFirst_42 : decode cX0_isFirst 42 = .ok (.goto (-40), 3) := by decide +kernel
theorem d_Desk_isFirst_45 : decode cX0_isFirst 45 = .ok (.iconst 1, 1) := by decide +kernel
theorem d_Desk_isFirst_46 : decode cX0_isFirst 46 = .ok (.ireturn, 1) := by decide +kernel
theorem d_Desk_goOn_0 : decode cX0_goOn 0 = .ok (.iconst 0, 1) := by decide +kernel
theorem d_Desk_goOn_1 : decode cX0_goOn 1 = .ok (.istore_n 2, 1) := by decide +kernel
theorem d_Desk_goOn_2 : decode cX0_goOn 2 = .ok (.iload_n 2, 1) := by decide +kernel
theorem d_Desk_goOn_3 : decode cX0_goOn 3 = .ok (.bipush 10, 2) := by decide +kernel
theorem d_Desk_goOn_5 : decode cX0_goOn 5 = .ok (.if_icmp .ge 16, 3) := by decide +kernel
theorem d_Desk_goOn_8 : decode cX0_goOn 8 = .ok (.aload_n 0, 1) := by decide +kernel
theorem d_Desk_goOn_9 : decode cX0_goOn 9 = .ok (.getfield 27, 3) := by decide +kernel
theorem d_Desk_goOn_12 : decode cX0_goOn 12 = .ok (.iload_n 2, 1) := by decide +kernel
theorem d_Desk_goOn_13 : decode cX0_goOn 13 = .ok (.iconst (-1), 1) := by decide +kernel
theorem d_Desk_goOn_14 : decode cX0_goOn 14 = .ok (.iastore, 1) := by decide +kernel
theorem d_Desk_goOn_15 : decode cX0_goOn 15 = .ok (.iinc 2 1, 3) := by decide +kernel
theorem d_Desk_goOn_18 : decode cX0_goOn 18 = .ok (.goto (-16), 3) := by decide +kernel
theorem d_Desk_goOn_21 : decode cX0_goOn 21 = .ok (.iconst 0, 1) := by decide +kernel
theorem d_Desk_goOn_22 : decode cX0_goOn 22 = .ok (.istore_n 2, 1) := by decide +kernel
theorem d_Desk_goOn_23 : decode cX0_goOn 23 = .ok (.iload_n 2, 1) := by decide +kernel
theorem d_Desk_goOn_24 : decode cX0_goOn 24 = .ok (.aload_n 1, 1) := by decide +kernel
theorem d_Desk_goOn_25 : decode cX0_goOn 25 = .ok (.getfield 36, 3) := by decide +kernel
theorem d_Desk_goOn_28 : decode cX0_goOn 28 = .ok (.if_icmp .ge 132, 3) := by decide +kernel
theorem d_Desk_goOn_31 : decode cX0_goOn 31 = .ok (.aload_n 1, 1) := by decide +kernel
theorem d_Desk_goOn_32 : decode cX0_goOn 32 = .ok (.iload_n 2, 1) := by decide +kernel
theorem d_Desk_goOn_33 : decode cX0_goOn 33 = .ok (.iconst 0, 1) := by decide +kernel
theorem d_Desk_goOn_34 : decode cX0_goOn 34 = .ok (.invokevirtual 30, 3) := by decide +kernel
theorem d_Desk_goOn_37 : decode cX0_goOn 37 = .ok (.istore_n 3, 1) := by decide +kernel
theorem d_Desk_goOn_38 : decode cX0_goOn 38 = .ok (.aload_n 1, 1) := by decide +kernel
theorem d_Desk_goOn_39 : decode cX0_goOn 39 = .ok (.iload_n 2, 1) := by decide +kernel
theorem d_Desk_goOn_40 : decode cX0_goOn 40 = .ok (.iconst 1, 1) := by decide +kernel
theorem d_Desk_goOn_41 : decode cX0_goOn 41 = .ok (.invokevirtual 30, 3) := by decide +kernel
theorem d_Desk_goOn_44 : decode cX0_goOn 44 = .ok (.istore 4, 2) := by decide +kernel
theorem d_Desk_goOn_46 : decode cX0_goOn 46 = .ok (.iload_n 3, 1) := by decide +kernel
theorem d_Desk_goOn_47 : decode cX0_goOn 47 = .ok (.bipush 9, 2) := by decide +kernel
theorem d_Desk_goOn_49 : decode cX0_goOn 49 = .ok (.invokestatic 73, 3) := by decide +kernel
theorem d_Desk_goOn_52 : decode cX0_goOn 52 = .ok (.ifCond .eq 102, 3) := by decide +kernel
theorem d_Desk_goOn_55 : decode cX0_goOn 55 = .ok (.iload 4, 2) := by decide +kernel
theorem d_Desk_goOn_57 : decode cX0_goOn 57 = .ok (.bipush 9, 2) := by decide +kernel
theorem d_Desk_goOn_59 : decode cX0_goOn 59 = .ok (.invokestatic 73, 3) := by decide +kernel
theorem d_Desk_goOn_62 : decode cX0_goOn 62 = .ok (.ifCond .eq 92, 3) := by decide +kernel
theorem d_Desk_goOn_65 : decode cX0_goOn 65 = .ok (.aload_n 0, 1) := by decide +kernel
theorem d_Desk_goOn_66 : decode cX0_goOn 66 = .ok (.getfield 24, 3) := by decide +kernel
theorem d_Desk_goOn_69 : decode cX0_goOn 69 = .ok (.iload_n 3, 1) := by decide +kernel
theorem d_Desk_goOn_70 : decode cX0_goOn 70 = .ok (.iaload, 1) := by decide +kernel
theorem d_Desk_goOn_71 : decode cX0_goOn 71 = .ok (.iconst (-1), 1) := by decide +kernel
theorem d_Desk_goOn_72 : decode cX0_goOn 72 = .ok (.if_icmp .eq 82, 3) := by decide +kernel
theorem d_Desk_goOn_75 : decode cX0_goOn 75 = .ok (.aload_n 0, 1) := by decide +kernel
theorem d_Desk_goOn_76 : decode cX0_goOn 76 = .ok (.aload_n 1, 1) := by decide +kernel
theorem d_Desk_goOn_77 : decode cX0_goOn 77 = .ok (.iload_n 2, 1) := by decide +kernel
theorem d_Desk_goOn_78 : decode cX0_goOn 78 = .ok (.invokevirtual 94, 3) := by decide +kernel
theorem d_Desk_goOn_81 : decode cX0_goOn 81 = .ok (.ifCond .eq 73, 3) := by decide +kernel
theorem d_Desk_goOn_84 : decode cX0_goOn 84 = .ok (.iconst 0, 1) := by decide +kernel
theorem d_Desk_goOn_85 : decode cX0_goOn 85 = .ok (.aload_n 0, 1) := by decide +kernel
theorem d_Desk_goOn_86 : decode cX0_goOn 86 = .ok (.getfield 24, 3) := by decide +kernel
theorem d_Desk_goOn_89 : decode cX0_goOn 89 = .ok (.iload_n 3, 1) := by decide +kernel
theorem d_Desk_goOn_90 : decode cX0_goOn 90 = .ok (.iaload, 1) := by decide +kernel
theorem d_Desk_goOn_91 : decode cX0_goOn 91 = .ok (.aload_n 1, 1) := by decide +kernel
theorem d_Desk_goOn_92 : decode cX0_goOn 92 = .ok (.iload_n 2, 1) := by decide +kernel
theorem d_Desk_goOn_93 : decode cX0_goOn 93 = .ok (.iconst 2, 1) := by decide +kernel
theorem d_Desk_goOn_94 : decode cX0_goOn 94 = .ok (.invokevirtual 30, 3) := by decide +kernel
theorem d_Desk_goOn_97 : decode cX0_goOn 97 = .ok (.isub, 1) := by decide +kernel
theorem d_Desk_goOn_98 : decode cX0_goOn 98 = .ok (.invokestatic 60, 3) := by decide +kernel
theorem d_Desk_goOn_101 : decode cX0_goOn 101 = .ok (.istore 5, 2) := by decide +kernel
theorem d_Desk_goOn_103 : decode cX0_goOn 103 = .ok (.bipush 99, 2) := by decide +kernel
theorem d_Desk_goOn_105 : decode cX0_goOn 105 = .ok (.iload 5, 2) := by decide +kernel
theorem d_Desk_goOn_107 : decode cX0_goOn 107 = .ok (.aload_n 1, 1) := by decide +kernel
theorem d_Desk_goOn_108 : decode cX0_goOn 108 = .ok (.iload_n 2, 1) := by decide +kernel
theorem d_Desk_goOn_109 : decode cX0_goOn 109 = .ok (.iconst 3, 1) := by decide +kernel
theorem d_Desk_goOn_110 : decode cX0_goOn 110 = .ok (.invokevirtual 30, 3) := by decide +kernel
theorem d_Desk_goOn_113 : decode cX0_goOn 113 = .ok (.iadd, 1) := by decide +kernel
theorem d_Desk_goOn_114 : decode cX0_goOn 114 = .ok (.invokestatic 70, 3) := by decide +kernel
theorem d_Desk_goOn_117 : decode cX0_goOn 117 = .ok (.istore 5, 2) := by decide +kernel
theorem d_Desk_goOn_119 : decode cX0_goOn 119 = .ok (.aload_n 0, 1) := by decide +kernel
theorem d_Desk_goOn_120 : decode cX0_goOn 120 = .ok (.getfield 27, 3) := by decide +kernel
theorem d_Desk_goOn_123 : decode cX0_goOn 123 = .ok (.iload 4, 2) := by decide +kernel
theorem d_Desk_goOn_125 : decode cX0_goOn 125 = .ok (.aload_n 0, 1) := by decide +kernel
theorem d_Desk_goOn_126 : decode cX0_goOn 126 = .ok (.getfield 27, 3) := by decide +kernel
theorem d_Desk_goOn_129 : decode cX0_goOn 129 = .ok (.iload 4, 2) := by decide +kernel
theorem d_Desk_goOn_131 : decode cX0_goOn 131 = .ok (.iaload, 1) := by decide +kernel
theorem d_Desk_goOn_132 : decode cX0_goOn 132 = .ok (.iconst (-1), 1) := by decide +kernel
theorem d_Desk_goOn_133 : decode cX0_goOn 133 = .ok (.if_icmp .ne 8, 3) := by decide +kernel
theorem d_Desk_goOn_136 : decode cX0_goOn 136 = .ok (.iload 5, 2) := by decide +kernel
theorem d_Desk_goOn_138 : decode cX0_goOn 138 = .ok (.goto 15, 3) := by decide +kernel
theorem d_Desk_goOn_141 : decode cX0_goOn 141 = .ok (.aload_n 0, 1) := by decide +kernel
theorem d_Desk_goOn_142 : decode cX0_goOn 142 = .ok (.getfield 27, 3) := by decide +kernel
theorem d_Desk_goOn_145 : decode cX0_goOn 145 = .ok (.iload 4, 2) := by decide +kernel
theorem d_Desk_goOn_147 : decode cX0_goOn 147 = .ok (.iaload, 1) := by decide +kernel
theorem d_Desk_goOn_148 : decode cX0_goOn 148 = .ok (.iload 5, 2) := by decide +kernel
theorem d_Desk_goOn_150 : decode cX0_goOn 150 = .ok (.invokestatic 70, 3) := by decide +kernel
theorem d_Desk_goOn_153 : decode cX0_goOn 153 = .ok (.iastore, 1) := by decide +kernel
theorem d_Desk_goOn_154 : decode cX0_goOn 154 = .ok (.iinc 2 1, 3) := by decide +kernel
theorem d_Desk_goOn_157 : decode cX0_goOn 157 = .ok (.goto (-134), 3) := by decide +kernel
theorem d_Desk_goOn_160 : decode cX0_goOn 160 = .ok (.aload_n 0, 1) := by decide +kernel
theorem d_Desk_goOn_161 : decode cX0_goOn 161 = .ok (.getfield 24, 3) := by decide +kernel
theorem d_Desk_goOn_164 : decode cX0_goOn 164 = .ok (.astore_n 2, 1) := by decide +kernel
theorem d_Desk_goOn_165 : decode cX0_goOn 165 = .ok (.aload_n 0, 1) := by decide +kernel
theorem d_Desk_goOn_166 : decode cX0_goOn 166 = .ok (.aload_n 0, 1) := by decide +kernel
theorem d_Desk_goOn_167 : decode cX0_goOn 167 = .ok (.getfield 27, 3) := by decide +kernel
theorem d_Desk_goOn_170 : decode cX0_goOn 170 = .ok (.putfield 24, 3) := by decide +kernel
theorem d_Desk_goOn_173 : decode cX0_goOn 173 = .ok (.aload_n 0, 1) := by decide +kernel
theorem d_Desk_goOn_174 : decode cX0_goOn 174 = .ok (.aload_n 2, 1) := by decide +kernel
theorem d_Desk_goOn_175 : decode cX0_goOn 175 = .ok (.putfield 27, 3) := by decide +kernel
theorem d_Desk_goOn_178 : decode cX0_goOn 178 = .ok (.return_, 1) := by decide +kernel
theorem d_Desk_driestWay_0 : decode cX0_driestWay 0 = .ok (.iconst 0, 1) := by decide +kernel
theorem d_Desk_driestWay_1 : decode cX0_driestWay 1 = .ok (.istore 6, 2) := by decide +kernel
theorem d_Desk_driestWay_3 : decode cX0_driestWay 3 = .ok (.iload 6, 2) := by decide +kernel
theorem d_Desk_driestWay_5 : decode cX0_driestWay 5 = .ok (.bipush 10, 2) := by decide +kernel
theorem d_Desk_driestWay_7 : decode cX0_driestWay 7 = .ok (.if_icmp .ge 28, 3) := by decide +kernel
theorem d_Desk_driestWay_10 : decode cX0_driestWay 10 = .ok (.aload_n 0, 1) := by decide +kernel
theorem d_Desk_driestWay_11 : decode cX0_driestWay 11 = .ok (.getfield 24, 3) := by decide +kernel
theorem d_Desk_driestWay_14 : decode cX0_driestWay 14 = .ok (.iload 6, 2) := by decide +kernel
theorem d_Desk_driestWay_16 : decode cX0_driestWay 16 = .ok (.iload 6, 2) := by decide +kernel
theorem d_Desk_driestWay_18 : decode cX0_driestWay 18 = .ok (.iload_n 2, 1) := by decide +kernel
theorem d_Desk_driestWay_19 : decode cX0_driestWay 19 = .ok (.if_icmp .ne 8, 3) := by decide +kernel
theorem d_Desk_driestWay_22 : decode cX0_driestWay 22 = .ok (.iload 4, 2) := by decide +kernel
theorem d_Desk_driestWay_24 : decode cX0_driestWay 24 = .ok (.goto 4, 3) := by decide +kernel
theorem d_Desk_driestWay_27 : decode cX0_driestWay 27 = .ok (.iconst (-1), 1) := by decide +kernel
theorem d_Desk_driestWay_28 : decode cX0_driestWay 28 = .ok (.iastore, 1) := by decide +kernel
theorem d_Desk_driestWay_29 : decode cX0_driestWay 29 = .ok (.iinc 6 1, 3) := by decide +kernel
theorem d_Desk_driestWay_32 : decode cX0_driestWay 32 = .ok (.goto (-29), 3) := by decide +kernel
theorem d_Desk_driestWay_35 : decode cX0_driestWay 35 = .ok (.iconst (-1), 1) := by decide +kernel
theorem d_Desk_driestWay_36 : decode cX0_driestWay 36 = .ok (.istore 6, 2) := by decide +kernel
theorem d_Desk_driestWay_38 : decode cX0_driestWay 38 = .ok (.iconst (-1), 1) := by decide +kernel
theorem d_Desk_driestWay_39 : decode cX0_driestWay 39 = .ok (.istore 7, 2) := by decide +kernel
theorem d_Desk_driestWay_41 : decode cX0_driestWay 41 = .ok (.iconst 0, 1) := by decide +kernel
theorem d_Desk_driestWay_42 : decode cX0_driestWay 42 = .ok (.istore 8, 2) := by decide +kernel
theorem d_Desk_driestWay_44 : decode cX0_driestWay 44 = .ok (.iload 8, 2) := by decide +kernel
theorem d_Desk_driestWay_46 : decode cX0_driestWay 46 = .ok (.bipush 12, 2) := by decide +kernel
theorem d_Desk_driestWay_48 : decode cX0_driestWay 48 = .ok (.if_icmp .gt 62, 3) := by decide +kernel
theorem d_Desk_driestWay_51 : decode cX0_driestWay 51 = .ok (.iload_n 3, 1) := by decide +kernel
theorem d_Desk_driestWay_52 : decode cX0_driestWay 52 = .ok (.bipush 9, 2) := by decide +kernel
theorem d_Desk_driestWay_54 : decode cX0_driestWay 54 = .ok (.invokestatic 73, 3) := by decide +kernel
theorem d_Desk_driestWay_57 : decode cX0_driestWay 57 = .ok (.ifCond .eq 12, 3) := by decide +kernel
theorem d_Desk_driestWay_60 : decode cX0_driestWay 60 = .ok (.aload_n 0, 1) := by decide +kernel
theorem d_Desk_driestWay_61 : decode cX0_driestWay 61 = .ok (.getfield 24, 3) := by decide +kernel
theorem d_Desk_driestWay_64 : decode cX0_driestWay 64 = .ok (.iload_n 3, 1) := by decide +kernel
theorem d_Desk_driestWay_65 : decode cX0_driestWay 65 = .ok (.iaload, 1) := by decide +kernel
theorem d_Desk_driestWay_66 : decode cX0_driestWay 66 = .ok (.goto 4, 3) := by decide +kernel
theorem d_Desk_driestWay_69 : decode cX0_driestWay 69 = .ok (.iconst (-1), 1) := by decide +kernel
theorem d_Desk_driestWay_70 : decode cX0_driestWay 70 = .ok (.istore 9, 2) := by decide +kernel
theorem d_Desk_driestWay_72 : decode cX0_driestWay 72 = .ok (.iload 9, 2) := by decide +kernel
theorem d_Desk_driestWay_74 : decode cX0_driestWay 74 = .ok (.iconst (-1), 1) := by decide +kernel
theorem d_Desk_driestWay_75 : decode cX0_driestWay 75 = .ok (.if_icmp .eq 24, 3) := by decide +kernel
theorem d_Desk_driestWay_78 : decode cX0_driestWay 78 = .ok (.iload 6, 2) := by decide +kernel
theorem d_Desk_driestWay_80 : decode cX0_driestWay 80 = .ok (.iconst (-1), 1) := by decide +kernel
theorem d_Desk_driestWay_81 : decode cX0_driestWay 81 = .ok (.if_icmp .eq 10, 3) := by decide +kernel
theorem d_Desk_driestWay_84 : decode cX0_driestWay 84 = .ok (.iload 9, 2) := by decide +kernel
theorem d_Desk_driestWay_86 : decode cX0_driestWay 86 = .ok (.iload 6, 2) := by decide +kernel
theorem d_Desk_driestWay_88 : decode cX0_driestWay 88 = .ok (.if_icmp .ge 11, 3) := by decide +kernel
theorem d_Desk_driestWay_91 : decode cX0_driestWay 91 = .ok (.iload 9, 2) := by decide +kernel
theorem d_Desk_driestWay_93 : decode cX0_driestWay 93 = .ok (.istore 6, 2) := by decide +kernel
theorem d_Desk_driestWay_95 : decode cX0_driestWay 95 = .ok (.iload 8, 2) := by decide +kernel
theorem d_Desk_driestWay_97 : decode cX0_driestWay 97 = .ok (.istore 7, 2) := by decide +kernel
theorem d_Desk_driestWay_99 : decode cX0_driestWay 99 = .ok (.aload_n 0, 1) := by decide +kernel
theorem d_Desk_driestWay_100 : decode cX0_driestWay 100 = .ok (.aload_n 1, 1) := by decide +kernel
theorem d_Desk_driestWay_101 : decode cX0_driestWay 101 = .ok (.invokevirtual 90, 3) := by decide +kernel
theorem d_Desk_driestWay_104 : decode cX0_driestWay 104 = .ok (.iinc 8 1, 3) := by decide +kernel
theorem d_Desk_driestWay_107 : decode cX0_driestWay 107 = .ok (.goto (-63), 3) := by decide +kernel
theorem d_Desk_driestWay_110 : decode cX0_driestWay 110 = .ok (.iload 5, 2) := by decide +kernel
theorem d_Desk_driestWay_112 : decode cX0_driestWay 112 = .ok (.ifCond .ne 8, 3) := by decide +kernel
theorem d_Desk_driestWay_115 : decode cX0_driestWay 115 = .ok (.iload 6, 2) := by decide +kernel
theorem d_Desk_driestWay_117 : decode cX0_driestWay 117 = .ok (.goto 5, 3) := by decide +kernel
theorem d_Desk_driestWay_120 : decode cX0_driestWay 120 = .ok (.iload 7, 2) := by decide +kernel
theorem d_Desk_driestWay_122 : decode cX0_driestWay 122 = .ok (.ireturn, 1) := by decide +kernel
theorem d_Tc_driest_0 : decode cX8_driest 0 = .ok (.iload_n 1, 1) := by decide +kernel
theorem d_Tc_driest_1 : decode cX8_driest 1 = .ok (.bipush 9, 2) := by decide +kernel
theorem d_Tc_driest_3 : decode cX8_driest 3 = .ok (.invokestatic 57, 3) := by decide +kernel
theorem d_Tc_driest_6 : decode cX8_driest 6 = .ok (.ifCond .eq 30, 3) := by decide +kernel
theorem d_Tc_driest_9 : decode cX8_driest 9 = .ok (.iload_n 2, 1) := by decide +kernel
theorem d_Tc_driest_10 : decode cX8_driest 10 = .ok (.bipush 9, 2) := by decide +kernel
theorem d_Tc_driest_12 : decode cX8_driest 12 = .ok (.invokestatic 57, 3) := by decide +kernel
theorem d_Tc_driest_15 : decode cX8_driest 15 = .ok (.ifCond .eq 21, 3) := by decide +kernel
theorem d_Tc_driest_18 : decode cX8_driest 18 = .ok (.iload_n 3, 1) := by decide +kernel
theorem d_Tc_driest_19 : decode cX8_driest 19 = .ok (.bipush 99, 2) := by decide +kernel
theorem d_Tc_driest_21 : decode cX8_driest 21 = .ok (.invokestatic 57, 3) := by decide +kernel
theorem d_Tc_driest_24 : decode cX8_driest 24 = .ok (.ifCond .eq 12, 3) := by decide +kernel
theorem d_Tc_driest_27 : decode cX8_driest 27 = .ok (.iload 4, 2) := by decide +kernel
theorem d_Tc_driest_29 : decode cX8_driest 29 = .ok (.iconst 1, 1) := by decide +kernel
theorem d_Tc_driest_30 : decode cX8_driest 30 = .ok (.invokestatic 57, 3) := by decide +kernel
theorem d_Tc_driest_33 : decode cX8_driest 33 = .ok (.ifCond .ne 5, 3) := by decide +kernel
theorem d_Tc_driest_36 : decode cX8_driest 36 = .ok (.iconst (-1), 1) := by decide +kernel
theorem d_Tc_driest_37 : decode cX8_driest 37 = .ok (.ireturn, 1) := by decide +kernel
theorem d_Tc_driest_38 : decode cX8_driest 38 = .ok (.aload_n 0, 1) := by decide +kernel
theorem d_Tc_driest_39 : decode cX8_driest 39 = .ok (.getfield 40, 3) := by decide +kernel
theorem d_Tc_driest_42 : decode cX8_driest 42 = .ok (.aload_n 0, 1) := by decide +kernel
theorem d_Tc_driest_43 : decode cX8_driest 43 = .ok (.getfield 10, 3) := by decide +kernel
theorem d_Tc_driest_46 : decode cX8_driest 46 = .ok (.getfield 155, 3) := by decide +kernel
theorem d_Tc_driest_49 : decode cX8_driest 49 = .ok (.iload_n 1, 1) := by decide +kernel
theorem d_Tc_driest_50 : decode cX8_driest 50 = .ok (.iload_n 2, 1) := by decide +kernel
theorem d_Tc_driest_51 : decode cX8_driest 51 = .ok (.iload_n 3, 1) := by decide +kernel
theorem d_Tc_driest_52 : decode cX8_driest 52 = .ok (.iload 4, 2) := by decide +kernel
theorem d_Tc_driest_54 : decode cX8_driest 54 = .ok (.invokevirtual 285, 3) := by decide +kernel
theorem d_Tc_driest_57 : decode cX8_driest 57 = .ok (.ireturn, 1) := by decide +kernel
theorem d_Tc_count_0 : decode cX8_count 0 = .ok (.iload_n 1, 1) := by decide +kernel
theorem d_Tc_count_1 : decode cX8_count 1 = .ok (.iconst 5, 1) := by decide +kernel
theorem d_Tc_count_2 : decode cX8_count 2 = .ok (.invokestatic 57, 3) := by decide +kernel
theorem d_Tc_count_5 : decode cX8_count 5 = .ok (.ifCond .eq 21, 3) := by decide +kernel
theorem d_Tc_count_8 : decode cX8_count 8 = .ok (.iload_n 2, 1) := by decide +kernel
theorem d_Tc_count_9 : decode cX8_count 9 = .ok (.iconst 3, 1) := by decide +kernel
theorem d_Tc_count_10 : decode cX8_count 10 = .ok (.invokestatic 57, 3) := by decide +kernel
theorem d_Tc_count_13 : decode cX8_count 13 = .ok (.ifCond .eq 13, 3) := by decide +kernel
theorem d_Tc_count_16 : decode cX8_count 16 = .ok (.iload_n 3, 1) := by decide +kernel
theorem d_Tc_count_17 : decode cX8_count 17 = .ok (.sipush 999, 3) := by decide +kernel
theorem d_Tc_count_20 : decode cX8_count 20 = .ok (.invokestatic 57, 3) := by decide +kernel
theorem d_Tc_count_23 : decode cX8_count 23 = .ok (.ifCond .ne 5, 3) := by decide +kernel
theorem d_Tc_count_26 : decode cX8_count 26 = .ok (.iconst 0, 1) := by decide +kernel
theorem d_Tc_count_27 : decode cX8_count 27 = .ok (.ireturn, 1) := by decide +kernel
theorem d_Tc_count_28 : decode cX8_count 28 = .ok (.aload_n 0, 1) := by decide +kernel
theorem d_Tc_count_29 : decode cX8_count 29 = .ok (.getfield 10, 3) := by decide +kernel
theorem d_Tc_count_32 : decode cX8_count 32 = .ok (.getfield 230, 3) := by decide +kernel
theorem d_Tc_count_35 : decode cX8_count 35 = .ok (.getfield 289, 3) := by decide +kernel
theorem d_Tc_count_38 : decode cX8_count 38 = .ok (.iload_n 1, 1) := by decide +kernel
theorem d_Tc_count_39 : decode cX8_count 39 = .ok (.iconst 4, 1) := by decide +kernel
theorem d_Tc_count_40 : decode cX8_count 40 = .ok (.imul, 1) := by decide +kernel
theorem d_Tc_count_41 : decode cX8_count 41 = .ok (.iload_n 2, 1) := by decide +kernel
theorem d_Tc_count_42 : decode cX8_count 42 = .ok (.iadd, 1) := by decide +kernel
theorem d_Tc_count_43 : decode cX8_count 43 = .ok (.iload_n 3, 1) := by decide +kernel
theorem d_Tc_count_44 : decode cX8_count 44 = .ok (.iastore, 1) := by decide +kernel
theorem d_Tc_count_45 : decode cX8_count 45 = .ok (.iconst 1, 1) := by decide +kernel
theorem d_Tc_count_46 : decode cX8_count 46 = .ok (.ireturn, 1) := by decide +kernel
theorem d_Desk_chance_0 : decode cX0_chance 0 = .ok (.iload_n 2, 1) := by decide +kernel
theorem d_Desk_chance_1 : decode cX0_chance 1 = .ok (.iconst 5, 1) := by decide +kernel
theorem d_Desk_chance_2 : decode cX0_chance 2 = .ok (.invokestatic 73, 3) := by decide +kernel
theorem d_Desk_chance_5 : decode cX0_chance 5 = .ok (.ifCond .eq 10, 3) := by decide +kernel
theorem d_Desk_chance_8 : decode cX0_chance 8 = .ok (.aload_n 1, 1) := by decide +kernel
theorem d_Desk_chance_9 : decode cX0_chance 9 = .ok (.arraylength, 1) := by decide +kernel
theorem d_Desk_chance_10 : decode cX0_chance 10 = .ok (.bipush 24, 2) := by decide +kernel
theorem d_Desk_chance_12 : decode cX0_chance 12 = .ok (.if_icmp .ge 5, 3) := by decide +kernel
theorem d_Desk_chance_15 : decode cX0_chance 15 = .ok (.lconst 0, 1) := by decide +kernel
theorem d_Desk_chance_16 : decode cX0_chance 16 = .ok (.lreturn, 1) := by decide +kernel
theorem d_Desk_chance_17 : decode cX0_chance 17 = .ok (.ldc2_w 98, 3) := by decide +kernel
theorem d_Desk_chance_20 : decode cX0_chance 20 = .ok (.lstore 4, 2) := by decide +kernel
theorem d_Desk_chance_22 : decode cX0_chance 22 = .ok (.iconst 0, 1) := by decide +kernel
theorem d_Desk_chance_23 : decode cX0_chance 23 = .ok (.istore 6, 2) := by decide +kernel
theorem d_Desk_chance_25 : decode cX0_chance 25 = .ok (.iload 6, 2) := by decide +kernel
theorem d_Desk_chance_27 : decode cX0_chance 27 = .ok (.iconst 4, 1) := by decide +kernel
theorem d_Desk_chance_28 : decode cX0_chance 28 = .ok (.if_icmp .ge 23, 3) := by decide +kernel
theorem d_Desk_chance_31 : decode cX0_chance 31 = .ok (.lload 4, 2) := by decide +kernel
theorem d_Desk_chance_33 : decode cX0_chance 33 = .ok (.aload_n 1, 1) := by decide +kernel
theorem d_Desk_chance_34 : decode cX0_chance 34 = .ok (.iload_n 2, 1) := by decide +kernel
theorem d_Desk_chance_35 : decode cX0_chance 35 = .ok (.iconst 4, 1) := by decide +kernel
theorem d_Desk_chance_36 : decode cX0_chance 36 = .ok (.imul, 1) := by decide +kernel
theorem d_Desk_chance_37 : decode cX0_chance 37 = .ok (.iload 6, 2) := by decide +kernel
theorem d_Desk_chance_39 : decode cX0_chance 39 = .ok (.iadd, 1) := by decide +kernel
theorem d_Desk_chance_40 : decode cX0_chance 40 = .ok (.iaload, 1) := by decide +kernel
theorem d_Desk_chance_41 : decode cX0_chance 41 = .ok (.i2l, 1) := by decide +kernel
theorem d_Desk_chance_42 : decode cX0_chance 42 = .ok (.ladd, 1) := by decide +kernel
theorem d_Desk_chance_43 : decode cX0_chance 43 = .ok (.lstore 4, 2) := by decide +kernel
theorem d_Desk_chance_45 : decode cX0_chance 45 = .ok (.iinc 6 1, 3) := by decide +kernel
theorem d_Desk_chance_48 : decode cX0_chance 48 = .ok (.goto (-23), 3) := by decide +kernel
theorem d_Desk_chance_51 : decode cX0_chance 51 = .ok (.ldc2_w 100, 3) := by decide +kernel
theorem d_Desk_chance_54 : decode cX0_chance 54 = .ok (.lstore 6, 2) := by decide +kernel
theorem d_Desk_chance_56 : decode cX0_chance 56 = .ok (.iconst 0, 1) := by decide +kernel
theorem d_Desk_chance_57 : decode cX0_chance 57 = .ok (.istore 8, 2) := by decide +kernel
theorem d_Desk_chance_59 : decode cX0_chance 59 = .ok (.iload 8, 2) := by decide +kernel
theorem d_Desk_chance_61 : decode cX0_chance 61 = .ok (.iconst 4, 1) := by decide +kernel
theorem d_Desk_chance_62 : decode cX0_chance 62 = .ok (.if_icmp .ge 45, 3) := by decide +kernel
theorem d_Desk_chance_65 : decode cX0_chance 65 = .ok (.iload_n 3, 1) := by decide +kernel
theorem d_Desk_chance_66 : decode cX0_chance 66 = .ok (.iload 8, 2) := by decide +kernel
theorem d_Desk_chance_68 : decode cX0_chance 68 = .ok (.ishr, 1) := by decide +kernel
theorem d_Desk_chance_69 : decode cX0_chance 69 = .ok (.iconst 1, 1) := by decide +kernel
theorem d_Desk_chance_70 : decode cX0_chance 70 = .ok (.iand, 1) := by decide +kernel
theorem d_Desk_chance_71 : decode cX0_chance 71 = .ok (.iconst 1, 1) := by decide +kernel
theorem d_Desk_chance_72 : decode cX0_chance 72 = .ok (.if_icmp .ne 29, 3) := by decide +kernel
theorem d_Desk_chance_75 : decode cX0_chance 75 = .ok (.lload 4, 2) := by decide +kernel
theorem d_Desk_chance_77 : decode cX0_chance 77 = .ok (.lconst 0, 1) := by decide +kernel
theorem d_Desk_chance_78 : decode cX0_chance 78 = .ok (.lcmp, 1) := by decide +kernel
theorem d_Desk_chance_79 : decode cX0_chance 79 = .ok (.ifCond .le 22, 3) := by decide +kernel
theorem d_Desk_chance_82 : decode cX0_chance 82 = .ok (.lload 6, 2) := by decide +kernel
theorem d_Desk_chance_84 : decode cX0_chance 84 = .ok (.aload_n 1, 1) := by decide +kernel
theorem d_Desk_chance_85 : decode cX0_chance 85 = .ok (.iload_n 2, 1) := by decide +kernel
theorem d_Desk_chance_86 : decode cX0_chance 86 = .ok (.iconst 4, 1) := by decide +kernel
theorem d_Desk_chance_87 : decode cX0_chance 87 = .ok (.imul, 1) := by decide +kernel
theorem d_Desk_chance_88 : decode cX0_chance 88 = .ok (.iload 8, 2) := by decide +kernel
theorem d_Desk_chance_90 : decode cX0_chance 90 = .ok (.iadd, 1) := by decide +kernel
theorem d_Desk_chance_91 : decode cX0_chance 91 = .ok (.iaload, 1) := by decide +kernel
theorem d_Desk_chance_92 : decode cX0_chance 92 = .ok (.iconst 1, 1) := by decide +kernel
theorem d_Desk_chance_93 : decode cX0_chance 93 = .ok (.iadd, 1) := by decide +kernel
theorem d_Desk_chance_94 : decode cX0_chance 94 = .ok (.i2l, 1) := by decide +kernel
theorem d_Desk_chance_95 : decode cX0_chance 95 = .ok (.lmul, 1) := by decide +kernel
theorem d_Desk_chance_96 : decode cX0_chance 96 = .ok (.lload 4, 2) := by decide +kernel
theorem d_Desk_chance_98 : decode cX0_chance 98 = .ok (.ldiv, 1) := by decide +kernel
theorem d_Desk_chance_99 : decode cX0_chance 99 = .ok (.lstore 6, 2) := by decide +kernel
theorem d_Desk_chance_101 : decode cX0_chance 101 = .ok (.iinc 8 1, 3) := by decide +kernel
theorem d_Desk_chance_104 : decode cX0_chance 104 = .ok (.goto (-45), 3) := by decide +kernel
theorem d_Desk_chance_107 : decode cX0_chance 107 = .ok (.lload 6, 2) := by decide +kernel
theorem d_Desk_chance_109 : decode cX0_chance 109 = .ok (.lreturn, 1) := by decide +kernel
theorem d_Desk_mostLikely_0 : decode cX0_mostLikely 0 = .ok (.iconst 0, 1) := by decide +kernel
theorem d_Desk_mostLikely_1 : decode cX0_mostLikely 1 = .ok (.istore_n 3, 1) := by decide +kernel
theorem d_Desk_mostLikely_2 : decode cX0_mostLikely 2 = .ok (.iconst 1, 1) := by decide +kernel
theorem d_Desk_mostLikely_3 : decode cX0_mostLikely 3 = .ok (.istore 4, 2) := by decide +kernel
theorem d_Desk_mostLikely_5 : decode cX0_mostLikely 5 = .ok (.iload 4, 2) := by decide +kernel
theorem d_Desk_mostLikely_7 : decode cX0_mostLikely 7 = .ok (.bipush 6, 2) := by decide +kernel
theorem d_Desk_mostLikely_9 : decode cX0_mostLikely 9 = .ok (.if_icmp .ge 31, 3) := by decide +kernel
theorem d_Desk_mostLikely_12 : decode cX0_mostLikely 12 = .ok (.aload_n 0, 1) := by decide +kernel
theorem d_Desk_mostLikely_13 : decode cX0_mostLikely 13 = .ok (.aload_n 1, 1) := by decide +kernel
theorem d_Desk_mostLikely_14 : decode cX0_mostLikely 14 = .ok (.iload 4, 2) := by decide +kernel
theorem d_Desk_mostLikely_16 : decode cX0_mostLikely 16 = .ok (.iload_n 2, 1) := by decide +kernel
theorem d_Desk_mostLikely_17 : decode cX0_mostLikely 17 = .ok (.invokevirtual 102, 3) := by decide +kernel
theorem d_Desk_mostLikely_20 : decode cX0_mostLikely 20 = .ok (.aload_n 0, 1) := by decide +kernel
theorem d_Desk_mostLikely_21 : decode cX0_mostLikely 21 = .ok (.aload_n 1, 1) := by decide +kernel
theorem d_Desk_mostLikely_22 : decode cX0_mostLikely 22 = .ok (.iload_n 3, 1) := by decide +kernel
theorem d_Desk_mostLikely_23 : decode cX0_mostLikely 23 = .ok (.iload_n 2, 1) := by decide +kernel
theorem d_Desk_mostLikely_24 : decode cX0_mostLikely 24 = .ok (.invokevirtual 102, 3) := by decide +kernel
theorem d_Desk_mostLikely_27 : decode cX0_mostLikely 27 = .ok (.lcmp, 1) := by decide +kernel
theorem d_Desk_mostLikely_28 : decode cX0_mostLikely 28 = .ok (.ifCond .le 6, 3) := by decide +kernel
theorem d_Desk_mostLikely_31 : decode cX0_mostLikely 31 = .ok (.iload 4, 2) := by decide +kernel
theorem d_Desk_mostLikely_33 : decode cX0_mostLikely 33 = .ok (.istore_n 3, 1) := by decide +kernel
theorem d_Desk_mostLikely_34 : decode cX0_mostLikely 34 = .ok (.iinc 4 1, 3) := by decide +kernel
theorem d_Desk_mostLikely_37 : decode cX0_mostLikely 37 = .ok (.goto (-32), 3) := by decide +kernel
theorem d_Desk_mostLikely_40 : decode cX0_mostLikely 40 = .ok (.iload_n 3, 1) := by decide +kernel
theorem d_Desk_mostLikely_41 : decode cX0_mostLikely 41 = .ok (.ireturn, 1) := by decide +kernel
theorem d_Desk_ofMillion_0 : decode cX0_ofMillion 0 = .ok (.lconst 0, 1) := by decide +kernel
theorem d_Desk_ofMillion_1 : decode cX0_ofMillion 1 = .ok (.lstore 4, 2) := by decide +kernel
theorem d_Desk_ofMillion_3 : decode cX0_ofMillion 3 = .ok (.iconst 0, 1) := by decide +kernel
theorem d_Desk_ofMillion_4 : decode cX0_ofMillion 4 = .ok (.istore 6, 2) := by decide +kernel
theorem d_Desk_ofMillion_6 : decode cX0_ofMillion 6 = .ok (.iload 6, 2) := by decide +kernel
theorem d_Desk_ofMillion_8 : decode cX0_ofMillion 8 = .ok (.bipush 6, 2) := by decide +kernel
theorem d_Desk_ofMillion_10 : decode cX0_ofMillion 10 = .ok (.if_icmp .ge 22, 3) := by decide +kernel
theorem d_Desk_ofMillion_13 : decode cX0_ofMillion 13 = .ok (.lload 4, 2) := by decide +kernel
theorem d_Desk_ofMillion_15 : decode cX0_ofMillion 15 = .ok (.aload_n 0, 1) := by decide +kernel
theorem d_Desk_ofMillion_16 : decode cX0_ofMillion 16 = .ok (.aload_n 1, 1) := by decide +kernel
theorem d_Desk_ofMillion_17 : decode cX0_ofMillion 17 = .ok (.iload 6, 2) := by decide +kernel
theorem d_Desk_ofMillion_19 : decode cX0_ofMillion 19 = .ok (.iload_n 3, 1) := by decide +kernel
theorem d_Desk_ofMillion_20 : decode cX0_ofMillion 20 = .ok (.invokevirtual 102, 3) := by decide +kernel
theorem d_Desk_ofMillion_23 : decode cX0_ofMillion 23 = .ok (.ladd, 1) := by decide +kernel
theorem d_Desk_ofMillion_24 : decode cX0_ofMillion 24 = .ok (.lstore 4, 2) := by decide +kernel
theorem d_Desk_ofMillion_26 : decode cX0_ofMillion 26 = .ok (.iinc 6 1, 3) := by decide +kernel
theorem d_Desk_ofMillion_29 : decode cX0_ofMillion 29 = .ok (.goto (-23), 3) := by decide +kernel
theorem d_Desk_ofMillion_32 : decode cX0_ofMillion 32 = .ok (.lload 4, 2) := by decide +kernel
theorem d_Desk_ofMillion_34 : decode cX0_ofMillion 34 = .ok (.lconst 0, 1) := by decide +kernel
theorem d_Desk_ofMillion_35 : decode cX0_ofMillion 35 = .ok (.lcmp, 1) := by decide +kernel
theorem d_Desk_ofMillion_36 : decode cX0_ofMillion 36 = .ok (.ifCond .ne 7, 3) := by decide +kernel
theorem d_Desk_ofMillion_39 : decode cX0_ofMillion 39 = .ok (.iconst 0, 1) := by decide +kernel
theorem d_Desk_ofMillion_40 : decode cX0_ofMillion 40 = .ok (.goto 18, 3) := by decide +kernel
theorem d_Desk_ofMillion_43 : decode cX0_ofMillion 43 = .ok (.aload_n 0, 1) := by decide +kernel
theorem d_Desk_ofMillion_44 : decode cX0_ofMillion 44 = .ok (.aload_n 1, 1) := by decide +kernel
theorem d_Desk_ofMillion_45 : decode cX0_ofMillion 45 = .ok (.iload_n 2, 1) := by decide +kernel
theorem d_Desk_ofMillion_46 : decode cX0_ofMillion 46 = .ok (.iload_n 3, 1) := by decide +kernel
theorem d_Desk_ofMillion_47 : decode cX0_ofMillion 47 = .ok (.invokevirtual 102, 3) := by decide +kernel
theorem d_Desk_ofMillion_50 : decode cX0_ofMillion 50 = .ok (.ldc2_w 106, 3) := by decide +kernel
theorem d_Desk_ofMillion_53 : decode cX0_ofMillion 53 = .ok (.lmul, 1) := by decide +kernel
theorem d_Desk_ofMillion_54 : decode cX0_ofMillion 54 = .ok (.lload 4, 2) := by decide +kernel
theorem d_Desk_ofMillion_56 : decode cX0_ofMillion 56 = .ok (.ldiv, 1) := by decide +kernel
theorem d_Desk_ofMillion_57 : decode cX0_ofMillion 57 = .ok (.l2i, 1) := by decide +kernel
theorem d_Desk_ofMillion_58 : decode cX0_ofMillion 58 = .ok (.ireturn, 1) := by decide +kernel
theorem d_Tc_likely_0 : decode cX8_likely 0 = .ok (.iload_n 2, 1) := by decide +kernel
theorem d_Tc_likely_1 : decode cX8_likely 1 = .ok (.bipush 15, 2) := by decide +kernel
theorem d_Tc_likely_3 : decode cX8_likely 3 = .ok (.invokestatic 57, 3) := by decide +kernel
theorem d_Tc_likely_6 : decode cX8_likely 6 = .ok (.ifCond .ne 5, 3) := by decide +kernel
theorem d_Tc_likely_9 : decode cX8_likely 9 = .ok (.iconst (-1), 1) := by decide +kernel
theorem d_Tc_likely_10 : decode cX8_likely 10 = .ok (.ireturn, 1) := by decide +kernel
theorem d_Tc_likely_11 : decode cX8_likely 11 = .ok (.iload_n 1, 1) := by decide +kernel
theorem d_Tc_likely_12 : decode cX8_likely 12 = .ok (.iconst (-1), 1) := by decide +kernel
theorem d_Tc_likely_13 : decode cX8_likely 13 = .ok (.if_icmp .ne 22, 3) := by decide +kernel
theorem d_Tc_likely_16 : decode cX8_likely 16 = .ok (.aload_n 0, 1) := by decide +kernel
theorem d_Tc_likely_17 : decode cX8_likely 17 = .ok (.getfield 40, 3) := by decide +kernel
theorem d_Tc_likely_20 : decode cX8_likely 20 = .ok (.aload_n 0, 1) := by decide +kernel
theorem d_Tc_likely_21 : decode cX8_likely 21 = .ok (.getfield 10, 3) := by decide +kernel
theorem d_Tc_likely_24 : decode cX8_likely 24 = .ok (.getfield 230, 3) := by decide +kernel
theorem d_Tc_likely_27 : decode cX8_likely 27 = .ok (.getfield 289, 3) := by decide +kernel
theorem d_Tc_likely_30 : decode cX8_likely 30 = .ok (.iload_n 2, 1) := by decide +kernel
theorem d_Tc_likely_31 : decode cX8_likely 31 = .ok (.invokevirtual 292, 3) := by decide +kernel
theorem d_Tc_likely_34 : decode cX8_likely 34 = .ok (.ireturn, 1) := by decide +kernel
theorem d_Tc_likely_35 : decode cX8_likely 35 = .ok (.iload_n 1, 1) := by decide +kernel
theorem d_Tc_likely_36 : decode cX8_likely 36 = .ok (.iconst 5, 1) := by decide +kernel
theorem d_Tc_likely_37 : decode cX8_likely 37 = .ok (.invokestatic 57, 3) := by decide +kernel
theorem d_Tc_likely_40 : decode cX8_likely 40 = .ok (.ifCond .eq 25, 3) := by decide +kernel
theorem d_Tc_likely_43 : decode cX8_likely 43 = .ok (.aload_n 0, 1) := by decide +kernel
theorem d_Tc_likely_44 : decode cX8_likely 44 = .ok (.getfield 40, 3) := by decide +kernel
theorem d_Tc_likely_47 : decode cX8_likely 47 = .ok (.aload_n 0, 1) := by decide +kernel
theorem d_Tc_likely_48 : decode cX8_likely 48 = .ok (.getfield 10, 3) := by decide +kernel
theorem d_Tc_likely_51 : decode cX8_likely 51 = .ok (.getfield 230, 3) := by decide +kernel
theorem d_Tc_likely_54 : decode cX8_likely 54 = .ok (.getfield 289, 3) := by decide +kernel
theorem d_Tc_likely_57 : decode cX8_likely 57 = .ok (.iload_n 1, 1) := by decide +kernel
theorem d_Tc_likely_58 : decode cX8_likely 58 = .ok (.iload_n 2, 1) := by decide +kernel
theorem d_Tc_likely_59 : decode cX8_likely 59 = .ok (.invokevirtual 296, 3) := by decide +kernel
theorem d_Tc_likely_62 : decode cX8_likely 62 = .ok (.goto 4, 3) := by decide +kernel
theorem d_Tc_likely_65 : decode cX8_likely 65 = .ok (.iconst (-1), 1) := by decide +kernel
theorem d_Tc_likely_66 : decode cX8_likely 66 = .ok (.ireturn, 1) := by decide +kernel
theorem d_Tc_salt_0 : decode cX8_salt 0 = .ok (.iload_n 1, 1) := by decide +kernel
theorem d_Tc_salt_1 : decode cX8_salt 1 = .ok (.iconst (-1), 1) := by decide +kernel
theorem d_Tc_salt_2 : decode cX8_salt 2 = .ok (.if_icmp .ne 17, 3) := by decide +kernel
theorem d_Tc_salt_5 : decode cX8_salt 5 = .ok (.aload_n 0, 1) := by decide +kernel
theorem d_Tc_salt_6 : decode cX8_salt 6 = .ok (.getfield 10, 3) := by decide +kernel
theorem d_Tc_salt_9 : decode cX8_salt 9 = .ok (.getfield 230, 3) := by decide +kernel
theorem d_Tc_salt_12 : decode cX8_salt 12 = .ok (.getfield 300, 3) := by decide +kernel
theorem d_Tc_salt_15 : decode cX8_salt 15 = .ok (.invokevirtual 239, 3) := by decide +kernel
theorem d_Tc_salt_18 : decode cX8_salt 18 = .ok (.ireturn, 1) := by decide +kernel
theorem d_Tc_salt_19 : decode cX8_salt 19 = .ok (.iload_n 1, 1) := by decide +kernel
theorem d_Tc_salt_20 : decode cX8_salt 20 = .ok (.bipush 99, 2) := by decide +kernel
theorem d_Tc_salt_22 : decode cX8_salt 22 = .ok (.invokestatic 57, 3) := by decide +kernel
theorem d_Tc_salt_25 : decode cX8_salt 25 = .ok (.ifCond .eq 23, 3) := by decide +kernel
theorem d_Tc_salt_28 : decode cX8_salt 28 = .ok (.aload_n 0, 1) := by decide +kernel
theorem d_Tc_salt_29 : decode cX8_salt 29 = .ok (.getfield 10, 3) := by decide +kernel
theorem d_Tc_salt_32 : decode cX8_salt 32 = .ok (.getfield 230, 3) := by decide +kernel
theorem d_Tc_salt_35 : decode cX8_salt 35 = .ok (.getfield 300, 3) := by decide +kernel
theorem d_Tc_salt_38 : decode cX8_salt 38 = .ok (.iload_n 1, 1) := by decide +kernel
theorem d_Tc_salt_39 : decode cX8_salt 39 = .ok (.iconst 0, 1) := by decide +kernel
theorem d_Tc_salt_40 : decode cX8_salt 40 = .ok (.iconst 0, 1) := by decide +kernel
theorem d_Tc_salt_41 : decode cX8_salt 41 = .ok (.iconst 0, 1) := by decide +kernel
theorem d_Tc_salt_42 : decode cX8_salt 42 = .ok (.invokevirtual 242, 3) := by decide +kernel
theorem d_Tc_salt_45 : decode cX8_salt 45 = .ok (.goto 4, 3) := by decide +kernel
theorem d_Tc_salt_48 : decode cX8_salt 48 = .ok (.iconst (-1), 1) := by decide +kernel
theorem d_Tc_salt_49 : decode cX8_salt 49 = .ok (.ireturn, 1) := by decide +kernel
theorem d_Desk_mostWon_0 : decode cX0_mostWon 0 = .ok (.iconst 0, 1) := by decide +kernel
theorem d_Desk_mostWon_1 : decode cX0_mostWon 1 = .ok (.istore_n 3, 1) := by decide +kernel
theorem d_Desk_mostWon_2 : decode cX0_mostWon 2 = .ok (.iload_n 3, 1) := by decide +kernel
theorem d_Desk_mostWon_3 : decode cX0_mostWon 3 = .ok (.aload_n 0, 1) := by decide +kernel
theorem d_Desk_mostWon_4 : decode cX0_mostWon 4 = .ok (.getfield 21, 3) := by decide +kernel
theorem d_Desk_mostWon_7 : decode cX0_mostWon 7 = .ok (.arraylength, 1) := by decide +kernel
theorem d_Desk_mostWon_8 : decode cX0_mostWon 8 = .ok (.if_icmp .ge 25, 3) := by decide +kernel
theorem d_Desk_mostWon_11 : decode cX0_mostWon 11 = .ok (.aload_n 0, 1) := by decide +kernel
theorem d_Desk_mostWon_12 : decode cX0_mostWon 12 = .ok (.getfield 21, 3) := by decide +kernel
theorem d_Desk_mostWon_15 : decode cX0_mostWon 15 = .ok (.iload_n 3, 1) := by decide +kernel
theorem d_Desk_mostWon_16 : decode cX0_mostWon 16 = .ok (.iconst 0, 1) := by decide +kernel
theorem d_Desk_mostWon_17 : decode cX0_mostWon 17 = .ok (.iastore, 1) := by decide +kernel
theorem d_Desk_mostWon_18 : decode cX0_mostWon 18 = .ok (.aload_n 0, 1) := by decide +kernel
theorem d_Desk_mostWon_19 : decode cX0_mostWon 19 = .ok (.getfield 18, 3) := by decide +kernel
theorem d_Desk_mostWon_22 : decode cX0_mostWon 22 = .ok (.iload_n 3, 1) := by decide +kernel
theorem d_Desk_mostWon_23 : decode cX0_mostWon 23 = .ok (.sipush (-1000), 3) := by decide +kernel
theorem d_Desk_mostWon_26 : decode cX0_mostWon 26 = .ok (.iastore, 1) := by decide +kernel
theorem d_Desk_mostWon_27 : decode cX0_mostWon 27 = .ok (.iinc 3 1, 3) := by decide +kernel
theorem d_Desk_mostWon_30 : decode cX0_mostWon 30 = .ok (.goto (-28), 3) := by decide +kernel
theorem d_Desk_mostWon_33 : decode cX0_mostWon 33 = .ok (.iconst 0, 1) := by decide +kernel
theorem d_Desk_mostWon_34 : decode cX0_mostWon 34 = .ok (.istore_n 3, 1) := by decide +kernel
theorem d_Desk_mostWon_35 : decode cX0_mostWon 35 = .ok (.iload_n 3, 1) := by decide +kernel
theorem d_Desk_mostWon_36 : decode cX0_mostWon 36 = .ok (.aload_n 1, 1) := by decide +kernel
theorem d_Desk_mostWon_37 : decode cX0_mostWon 37 = .ok (.getfield 36, 3) := by decide +kernel
theorem d_Desk_mostWon_40 : decode cX0_mostWon 40 = .ok (.if_icmp .ge 98, 3) := by decide +kernel
theorem d_Desk_mostWon_43 : decode cX0_mostWon 43 = .ok (.aload_n 1, 1) := by decide +kernel
theorem d_Desk_mostWon_44 : decode cX0_mostWon 44 = .ok (.iload_n 3, 1) := by decide +kernel
theorem d_Desk_mostWon_45 : decode cX0_mostWon 45 = .ok (.iconst 0, 1) := by decide +kernel
theorem d_Desk_mostWon_46 : decode cX0_mostWon 46 = .ok (.invokevirtual 30, 3) := by decide +kernel
theorem d_Desk_mostWon_49 : decode cX0_mostWon 49 = .ok (.istore 4, 2) := by decide +kernel
theorem d_Desk_mostWon_51 : decode cX0_mostWon 51 = .ok (.iconst 1, 1) := by decide +kernel
theorem d_Desk_mostWon_52 : decode cX0_mostWon 52 = .ok (.istore 5, 2) := by decide +kernel
theorem d_Desk_mostWon_54 : decode cX0_mostWon 54 = .ok (.iload 5, 2) := by decide +kernel
theorem d_Desk_mostWon_56 : decode cX0_mostWon 56 = .ok (.iload_n 2, 1) := by decide +kernel
theorem d_Desk_mostWon_57 : decode cX0_mostWon 57 = .ok (.if_icmp .gt 75, 3) := by decide +kernel
theorem d_Desk_mostWon_60 : decode cX0_mostWon 60 = .ok (.iload 5, 2) := by decide +kernel
theorem d_Desk_mostWon_62 : decode cX0_mostWon 62 = .ok (.aload_n 0, 1) := by decide +kernel
theorem d_Desk_mostWon_63 : decode cX0_mostWon 63 = .ok (.getfield 21, 3) := by decide +kernel
theorem d_Desk_mostWon_66 : decode cX0_mostWon 66 = .ok (.arraylength, 1) := by decide +kernel
theorem d_Desk_mostWon_67 : decode cX0_mostWon 67 = .ok (.if_icmp .ge 65, 3) := by decide +kernel
theorem d_Desk_mostWon_70 : decode cX0_mostWon 70 = .ok (.aload_n 0, 1) := by decide +kernel
theorem d_Desk_mostWon_71 : decode cX0_mostWon 71 = .ok (.getfield 18, 3) := by decide +kernel
theorem d_Desk_mostWon_74 : decode cX0_mostWon 74 = .ok (.iload 5, 2) := by decide +kernel
theorem d_Desk_mostWon_76 : decode cX0_mostWon 76 = .ok (.aload_n 0, 1) := by decide +kernel
theorem d_Desk_mostWon_77 : decode cX0_mostWon 77 = .ok (.getfield 18, 3) := by decide +kernel
theorem d_Desk_mostWon_80 : decode cX0_mostWon 80 = .ok (.iload 5, 2) := by decide +kernel
theorem d_Desk_mostWon_82 : decode cX0_mostWon 82 = .ok (.iaload, 1) := by decide +kernel
theorem d_Desk_mostWon_83 : decode cX0_mostWon 83 = .ok (.aload_n 0, 1) := by decide +kernel
theorem d_Desk_mostWon_84 : decode cX0_mostWon 84 = .ok (.getfield 21, 3) := by decide +kernel
theorem d_Desk_mostWon_87 : decode cX0_mostWon 87 = .ok (.iload 5, 2) := by decide +kernel
theorem d_Desk_mostWon_89 : decode cX0_mostWon 89 = .ok (.iconst 1, 1) := by decide +kernel
theorem d_Desk_mostWon_90 : decode cX0_mostWon 90 = .ok (.isub, 1) := by decide +kernel
theorem d_Desk_mostWon_91 : decode cX0_mostWon 91 = .ok (.iaload, 1) := by decide +kernel
theorem d_Desk_mostWon_92 : decode cX0_mostWon 92 = .ok (.iload 4, 2) := by decide +kernel
theorem d_Desk_mostWon_94 : decode cX0_mostWon 94 = .ok (.isub, 1) := by decide +kernel
theorem d_Desk_mostWon_95 : decode cX0_mostWon 95 = .ok (.invokestatic 60, 3) := by decide +kernel
theorem d_Desk_mostWon_98 : decode cX0_mostWon 98 = .ok (.iastore, 1) := by decide +kernel
theorem d_Desk_mostWon_99 : decode cX0_mostWon 99 = .ok (.aload_n 0, 1) := by decide +kernel
theorem d_Desk_mostWon_100 : decode cX0_mostWon 100 = .ok (.getfield 21, 3) := by decide +kernel
theorem d_Desk_mostWon_103 : decode cX0_mostWon 103 = .ok (.iload 5, 2) := by decide +kernel
theorem d_Desk_mostWon_105 : decode cX0_mostWon 105 = .ok (.aload_n 0, 1) := by decide +kernel
theorem d_Desk_mostWon_106 : decode cX0_mostWon 106 = .ok (.getfield 21, 3) := by decide +kernel
theorem d_Desk_mostWon_109 : decode cX0_mostWon 109 = .ok (.iload 5, 2) := by decide +kernel
theorem d_Desk_mostWon_111 : decode cX0_mostWon 111 = .ok (.iaload, 1) := by decide +kernel
theorem d_Desk_mostWon_112 : decode cX0_mostWon 112 = .ok (.aload_n 0, 1) := by decide +kernel
theorem d_Desk_mostWon_113 : decode cX0_mostWon 113 = .ok (.getfield 18, 3) := by decide +kernel
theorem d_Desk_mostWon_116 : decode cX0_mostWon 116 = .ok (.iload 5, 2) := by decide +kernel
theorem d_Desk_mostWon_118 : decode cX0_mostWon 118 = .ok (.iaload, 1) := by decide +kernel
theorem d_Desk_mostWon_119 : decode cX0_mostWon 119 = .ok (.iload 4, 2) := by decide +kernel
theorem d_Desk_mostWon_121 : decode cX0_mostWon 121 = .ok (.iadd, 1) := by decide +kernel
theorem d_Desk_mostWon_122 : decode cX0_mostWon 122 = .ok (.invokestatic 60, 3) := by decide +kernel
theorem d_Desk_mostWon_125 : decode cX0_mostWon 125 = .ok (.iastore, 1) := by decide +kernel
theorem d_Desk_mostWon_126 : decode cX0_mostWon 126 = .ok (.iinc 5 1, 3) := by decide +kernel
theorem d_Desk_mostWon_129 : decode cX0_mostWon 129 = .ok (.goto (-75), 3) := by decide +kernel
theorem d_Desk_mostWon_132 : decode cX0_mostWon 132 = .ok (.iinc 3 1, 3) := by decide +kernel
theorem d_Desk_mostWon_135 : decode cX0_mostWon 135 = .ok (.goto (-100), 3) := by decide +kernel
theorem d_Desk_mostWon_138 : decode cX0_mostWon 138 = .ok (.iload_n 2, 1) := by decide +kernel
theorem d_Desk_mostWon_139 : decode cX0_mostWon 139 = .ok (.aload_n 0, 1) := by decide +kernel
theorem d_Desk_mostWon_140 : decode cX0_mostWon 140 = .ok (.getfield 21, 3) := by decide +kernel
theorem d_Desk_mostWon_143 : decode cX0_mostWon 143 = .ok (.arraylength, 1) := by decide +kernel
theorem d_Desk_mostWon_144 : decode cX0_mostWon 144 = .ok (.iconst 1, 1) := by decide +kernel
theorem d_Desk_mostWon_145 : decode cX0_mostWon 145 = .ok (.isub, 1) := by decide +kernel
theorem d_Desk_mostWon_146 : decode cX0_mostWon 146 = .ok (.invokestatic 73, 3) := by decide +kernel
theorem d_Desk_mostWon_149 : decode cX0_mostWon 149 = .ok (.ifCond .eq 12, 3) := by decide +kernel
theorem d_Desk_mostWon_152 : decode cX0_mostWon 152 = .ok (.aload_n 0, 1) := by decide +kernel
theorem d_Desk_mostWon_153 : decode cX0_mostWon 153 = .ok (.getfield 21, 3) := by decide +kernel
theorem d_Desk_mostWon_156 : decode cX0_mostWon 156 = .ok (.iload_n 2, 1) := by decide +kernel
theorem d_Desk_mostWon_157 : decode cX0_mostWon 157 = .ok (.iaload, 1) := by decide +kernel
theorem d_Desk_mostWon_158 : decode cX0_mostWon 158 = .ok (.goto 4, 3) := by decide +kernel
theorem d_Desk_mostWon_161 : decode cX0_mostWon 161 = .ok (.iconst 0, 1) := by decide +kernel
theorem d_Desk_mostWon_162 : decode cX0_mostWon 162 = .ok (.ireturn, 1) := by decide +kernel
theorem d_Tc_won_0 : decode cX8_won 0 = .ok (.iload_n 1, 1) := by decide +kernel
theorem d_Tc_won_1 : decode cX8_won 1 = .ok (.iconst 1, 1) := by decide +kernel
theorem d_Tc_won_2 : decode cX8_won 2 = .ok (.if_icmp .lt 8, 3) := by decide +kernel
theorem d_Tc_won_5 : decode cX8_won 5 = .ok (.iload_n 1, 1) := by decide +kernel
theorem d_Tc_won_6 : decode cX8_won 6 = .ok (.iconst 3, 1) := by decide +kernel
theorem d_Tc_won_7 : decode cX8_won 7 = .ok (.if_icmp .le 7, 3) := by decide +kernel
theorem d_Tc_won_10 : decode cX8_won 10 = .ok (.iconst (-1), 1) := by decide +kernel
theorem d_Tc_won_11 : decode cX8_won 11 = .ok (.goto 21, 3) := by decide +kernel
theorem d_Tc_won_14 : decode cX8_won 14 = .ok (.aload_n 0, 1) := by decide +kernel
theorem d_Tc_won_15 : decode cX8_won 15 = .ok (.getfield 40, 3) := by decide +kernel
theorem d_Tc_won_18 : decode cX8_won 18 = .ok (.aload_n 0, 1) := by decide +kernel
theorem d_Tc_won_19 : decode cX8_won 19 = .ok (.getfield 10, 3) := by decide +kernel
theorem d_Tc_won_22 : decode cX8_won 22 = .ok (.getfield 230, 3) := by decide +kernel
theorem d_Tc_won_25 : decode cX8_won 25 = .ok (.getfield 300, 3) := by decide +kernel
theorem d_Tc_won_28 : decode cX8_won 28 = .ok (.iload_n 1, 1) := by decide +kernel
theorem d_Tc_won_29 : decode cX8_won 29 = .ok (.invokevirtual 303, 3) := by decide +kernel
theorem d_Tc_won_32 : decode cX8_won 32 = .ok (.ireturn, 1) := by decide +kernel
theorem d_Tc_ledger_0 : decode cX8_ledger 0 = .ok (.iload_n 1, 1) := by decide +kernel
theorem d_Tc_ledger_1 : decode cX8_ledger 1 = .ok (.bipush 23, 2) := by decide +kernel
theorem d_Tc_ledger_3 : decode cX8_ledger 3 = .ok (.invokestatic 57, 3) := by decide +kernel
theorem d_Tc_ledger_6 : decode cX8_ledger 6 = .ok (.ifCond .eq 24, 3) := by decide +kernel
theorem d_Tc_ledger_9 : decode cX8_ledger 9 = .ok (.iload_n 2, 1) := by decide +kernel
theorem d_Tc_ledger_10 : decode cX8_ledger 10 = .ok (.iload_n 1, 1) := by decide +kernel
theorem d_Tc_ledger_11 : decode cX8_ledger 11 = .ok (.bipush 16, 2) := by decide +kernel
theorem d_Tc_ledger_13 : decode cX8_ledger 13 = .ok (.if_icmp .ge 8, 3) := by decide +kernel
theorem d_Tc_ledger_16 : decode cX8_ledger 16 = .ok (.bipush 99, 2) := by decide +kernel
theorem d_Tc_ledger_18 : decode cX8_ledger 18 = .ok (.goto 6, 3) := by decide +kernel
theorem d_Tc_ledger_21 : decode cX8_ledger 21 = .ok (.sipush 999, 3) := by decide +kernel
theorem d_Tc_ledger_24 : decode cX8_ledger 24 = .ok (.invokestatic 57, 3) := by decide +kernel
theorem d_Tc_ledger_27 : decode cX8_ledger 27 = .ok (.ifCond .ne 5, 3) := by decide +kernel
theorem d_Tc_ledger_30 : decode cX8_ledger 30 = .ok (.iconst 0, 1) := by decide +kernel
theorem d_Tc_ledger_31 : decode cX8_ledger 31 = .ok (.ireturn, 1) := by decide +kernel
theorem d_Tc_ledger_32 : decode cX8_ledger 32 = .ok (.aload_n 0, 1) := by decide +kernel
theorem d_Tc_ledger_33 : decode cX8_ledger 33 = .ok (.getfield 10, 3) := by decide +kernel
theorem d_Tc_ledger_36 : decode cX8_ledger 36 = .ok (.getfield 230, 3) := by decide +kernel
theorem d_Tc_ledger_39 : decode cX8_ledger 39 = .ok (.getfield 306, 3) := by decide +kernel
theorem d_Tc_ledger_42 : decode cX8_ledger 42 = .ok (.iload_n 1, 1) := by decide +kernel
theorem d_Tc_ledger_43 : decode cX8_ledger 43 = .ok (.iload_n 2, 1) := by decide +kernel
theorem d_Tc_ledger_44 : decode cX8_ledger 44 = .ok (.iastore, 1) := by decide +kernel
theorem d_Tc_ledger_45 : decode cX8_ledger 45 = .ok (.iconst 1, 1) := by decide +kernel
theorem d_Tc_ledger_46 : decode cX8_ledger 46 = .ok (.ireturn, 1) := by decide +kernel
theorem d_Told_aboveSum_0 : decode cX7_aboveSum 0 = .ok (.iload_n 2, 1) := by decide +kernel
theorem d_Told_aboveSum_1 : decode cX7_aboveSum 1 = .ok (.ifCond .lt 20, 3) := by decide +kernel
theorem d_Told_aboveSum_4 : decode cX7_aboveSum 4 = .ok (.iload_n 2, 1) := by decide +kernel
theorem d_Told_aboveSum_5 : decode cX7_aboveSum 5 = .ok (.iconst 4, 1) := by decide +kernel
theorem d_Told_aboveSum_6 : decode cX7_aboveSum 6 = .ok (.if_icmp .ge 15, 3) := by decide +kernel
theorem d_Told_aboveSum_9 : decode cX7_aboveSum 9 = .ok (.aload_n 0, 1) := by decide +kernel
theorem d_Told_aboveSum_10 : decode cX7_aboveSum 10 = .ok (.getfield 39, 3) := by decide +kernel
theorem d_Told_aboveSum_13 : decode cX7_aboveSum 13 = .ok (.iload_n 1, 1) := by decide +kernel
theorem d_Told_aboveSum_14 : decode cX7_aboveSum 14 = .ok (.iload_n 2, 1) := by decide +kernel
theorem d_Told_aboveSum_15 : decode cX7_aboveSum 15 = .ok (.iadd, 1) := by decide +kernel
theorem d_Told_aboveSum_16 : decode cX7_aboveSum 16 = .ok (.iaload, 1) := by decide +kernel
theorem d_Told_aboveSum_17 : decode cX7_aboveSum 17 = .ok (.ineg, 1) := by decide +kernel
theorem d_Told_aboveSum_18 : decode cX7_aboveSum 18 = .ok (.goto 4, 3) := by decide +kernel
theorem d_Told_aboveSum_21 : decode cX7_aboveSum 21 = .ok (.iconst 0, 1) := by decide +kernel
theorem d_Told_aboveSum_22 : decode cX7_aboveSum 22 = .ok (.istore 5, 2) := by decide +kernel
theorem d_Told_aboveSum_24 : decode cX7_aboveSum 24 = .ok (.iconst 0, 1) := by decide +kernel
theorem d_Told_aboveSum_25 : decode cX7_aboveSum 25 = .ok (.istore 6, 2) := by decide +kernel
theorem d_Told_aboveSum_27 : decode cX7_aboveSum 27 = .ok (.iload 6, 2) := by decide +kernel
theorem d_Told_aboveSum_29 : decode cX7_aboveSum 29 = .ok (.iconst 4, 1) := by decide +kernel
theorem d_Told_aboveSum_30 : decode cX7_aboveSum 30 = .ok (.if_icmp .ge 46, 3) := by decide +kernel
theorem d_Told_aboveSum_33 : decode cX7_aboveSum 33 = .ok (.iload_n 2, 1) := by decide +kernel
theorem d_Told_aboveSum_34 : decode cX7_aboveSum 34 = .ok (.iload_n 3, 1) := by decide +kernel
theorem d_Told_aboveSum_35 : decode cX7_aboveSum 35 = .ok (.imul, 1) := by decide +kernel
theorem d_Told_aboveSum_36 : decode cX7_aboveSum 36 = .ok (.iload 6, 2) := by decide +kernel
theorem d_Told_aboveSum_38 : decode cX7_aboveSum 38 = .ok (.iload 4, 2) := by decide +kernel
theorem d_Told_aboveSum_40 : decode cX7_aboveSum 40 = .ok (.imul, 1) := by decide +kernel
theorem d_Told_aboveSum_41 : decode cX7_aboveSum 41 = .ok (.iadd, 1) := by decide +kernel
theorem d_Told_aboveSum_42 : decode cX7_aboveSum 42 = .ok (.istore 7, 2) := by decide +kernel
theorem d_Told_aboveSum_44 : decode cX7_aboveSum 44 = .ok (.iload 5, 2) := by decide +kernel
theorem d_Told_aboveSum_46 : decode cX7_aboveSum 46 = .ok (.iload 7, 2) := by decide +kernel
theorem d_Told_aboveSum_48 : decode cX7_aboveSum 48 = .ok (.bipush 15, 2) := by decide +kernel
theorem d_Told_aboveSum_50 : decode cX7_aboveSum 50 = .ok (.invokestatic 59, 3) := by decide +kernel
theorem d_Told_aboveSum_53 : decode cX7_aboveSum 53 = .ok (.ifCond .eq 13, 3) := by decide +kernel
theorem d_Told_aboveSum_56 : decode cX7_aboveSum 56 = .ok (.aload_n 0, 1) := by decide +kernel
theorem d_Told_aboveSum_57 : decode cX7_aboveSum 57 = .ok (.getfield 39, 3) := by decide +kernel
theorem d_Told_aboveSum_60 : decode cX7_aboveSum 60 = .ok (.iload 7, 2) := by decide +kernel
theorem d_Told_aboveSum_62 : decode cX7_aboveSum 62 = .ok (.iaload, 1) := by decide +kernel
theorem d_Told_aboveSum_63 : decode cX7_aboveSum 63 = .ok (.goto 4, 3) := by decide +kernel
theorem d_Told_aboveSum_66 : decode cX7_aboveSum 66 = .ok (.iconst 0, 1) := by decide +kernel
theorem d_Told_aboveSum_67 : decode cX7_aboveSum 67 = .ok (.iadd, 1) := by decide +kernel
theorem d_Told_aboveSum_68 : decode cX7_aboveSum 68 = .ok (.istore 5, 2) := by decide +kernel
theorem d_Told_aboveSum_70 : decode cX7_aboveSum 70 = .ok (.iinc 6 1, 3) := by decide +kernel
theorem d_Told_aboveSum_73 : decode cX7_aboveSum 73 = .ok (.goto (-46), 3) := by decide +kernel
theorem d_Told_aboveSum_76 : decode cX7_aboveSum 76 = .ok (.iload 5, 2) := by decide +kernel
theorem d_Told_aboveSum_78 : decode cX7_aboveSum 78 = .ok (.ireturn, 1) := by decide +kernel
theorem d_Told_wrongLine_0 : decode cX7_wrongLine 0 = .ok (.iconst (-1), 1) := by decide +kernel
theorem d_Told_wrongLine_1 : decode cX7_wrongLine 1 = .ok (.istore 4, 2) := by decide +kernel
theorem d_Told_wrongLine_3 : decode cX7_wrongLine 3 = .ok (.iconst 0, 1) := by decide +kernel
theorem d_Told_wrongLine_4 : decode cX7_wrongLine 4 = .ok (.istore 5, 2) := by decide +kernel
theorem d_Told_wrongLine_6 : decode cX7_wrongLine 6 = .ok (.iload 5, 2) := by decide +kernel
theorem d_Told_wrongLine_8 : decode cX7_wrongLine 8 = .ok (.iconst 4, 1) := by decide +kernel
theorem d_Told_wrongLine_9 : decode cX7_wrongLine 9 = .ok (.if_icmp .ge 33, 3) := by decide +kernel
theorem d_Told_wrongLine_12 : decode cX7_wrongLine 12 = .ok (.aload_n 0, 1) := by decide +kernel
theorem d_Told_wrongLine_13 : decode cX7_wrongLine 13 = .ok (.iload_n 1, 1) := by decide +kernel
theorem d_Told_wrongLine_14 : decode cX7_wrongLine 14 = .ok (.iload 5, 2) := by decide +kernel
theorem d_Told_wrongLine_16 : decode cX7_wrongLine 16 = .ok (.iload_n 2, 1) := by decide +kernel
theorem d_Told_wrongLine_17 : decode cX7_wrongLine 17 = .ok (.iload_n 3, 1) := by decide +kernel
theorem d_Told_wrongLine_18 : decode cX7_wrongLine 18 = .ok (.invokevirtual 63, 3) := by decide +kernel
theorem d_Told_wrongLine_21 : decode cX7_wrongLine 21 = .ok (.ifCond .eq 15, 3) := by decide +kernel
theorem d_Told_wrongLine_24 : decode cX7_wrongLine 24 = .ok (.iload 4, 2) := by decide +kernel
theorem d_Told_wrongLine_26 : decode cX7_wrongLine 26 = .ok (.iconst (-1), 1) := by decide +kernel
theorem d_Told_wrongLine_27 : decode cX7_wrongLine 27 = .ok (.if_icmp .eq 5, 3) := by decide +kernel
theorem d_Told_wrongLine_30 : decode cX7_wrongLine 30 = .ok (.iconst (-1), 1) := by decide +kernel
theorem d_Told_wrongLine_31 : decode cX7_wrongLine 31 = .ok (.ireturn, 1) := by decide +kernel
