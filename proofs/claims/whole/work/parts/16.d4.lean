theorem d_Mo_goes_83 : decode cX9_goes 83 = .ok (.iload_n 2, 1) := by decide +kernel
theorem d_Mo_goes_84 : decode cX9_goes 84 = .ok (.ifCond .ne 12, 3) := by decide +kernel
theorem d_Mo_goes_87 : decode cX9_goes 87 = .ok (.aload_n 0, 1) := by decide +kernel
theorem d_Mo_goes_88 : decode cX9_goes 88 = .ok (.getfield 7, 3) := by decide +kernel
theorem d_Mo_goes_91 : decode cX9_goes 91 = .ok (.iconst 3, 1) := by decide +kernel
theorem d_Mo_goes_92 : decode cX9_goes 92 = .ok (.iaload, 1) := by decide +kernel
theorem d_Mo_goes_93 : decode cX9_goes 93 = .ok (.goto 34, 3) := by decide +kernel
theorem d_Mo_goes_96 : decode cX9_goes 96 = .ok (.iload_n 2, 1) := by decide +kernel
theorem d_Mo_goes_97 : decode cX9_goes 97 = .ok (.iconst 1, 1) := by decide +kernel
theorem d_Mo_goes_98 : decode cX9_goes 98 = .ok (.if_icmp .ne 14, 3) := by decide +kernel
theorem d_Mo_goes_101 : decode cX9_goes 101 = .ok (.aload_n 0, 1) := by decide +kernel
theorem d_Mo_goes_102 : decode cX9_goes 102 = .ok (.aload_n 0, 1) := by decide +kernel
theorem d_Mo_goes_103 : decode cX9_goes 103 = .ok (.invokevirtual 342, 3) := by decide +kernel
theorem d_Mo_goes_106 : decode cX9_goes 106 = .ok (.invokevirtual 345, 3) := by decide +kernel
theorem d_Mo_goes_109 : decode cX9_goes 109 = .ok (.goto 18, 3) := by decide +kernel
theorem d_Mo_goes_112 : decode cX9_goes 112 = .ok (.iload_n 2, 1) := by decide +kernel
theorem d_Mo_goes_113 : decode cX9_goes 113 = .ok (.iconst 2, 1) := by decide +kernel
theorem d_Mo_goes_114 : decode cX9_goes 114 = .ok (.if_icmp .ne 12, 3) := by decide +kernel
theorem d_Mo_goes_117 : decode cX9_goes 117 = .ok (.aload_n 0, 1) := by decide +kernel
theorem d_Mo_goes_118 : decode cX9_goes 118 = .ok (.getfield 7, 3) := by decide +kernel
theorem d_Mo_goes_121 : decode cX9_goes 121 = .ok (.iconst 4, 1) := by decide +kernel
theorem d_Mo_goes_122 : decode cX9_goes 122 = .ok (.iaload, 1) := by decide +kernel
theorem d_Mo_goes_123 : decode cX9_goes 123 = .ok (.goto 4, 3) := by decide +kernel
theorem d_Mo_goes_126 : decode cX9_goes 126 = .ok (.iload_n 3, 1) := by decide +kernel
theorem d_Mo_goes_127 : decode cX9_goes 127 = .ok (.istore 4, 2) := by decide +kernel
theorem d_Mo_goes_129 : decode cX9_goes 129 = .ok (.aload_n 0, 1) := by decide +kernel
theorem d_Mo_goes_130 : decode cX9_goes 130 = .ok (.invokevirtual 409, 3) := by decide +kernel
theorem d_Mo_goes_133 : decode cX9_goes 133 = .ok (.iload 4, 2) := by decide +kernel
theorem d_Mo_goes_135 : decode cX9_goes 135 = .ok (.ireturn, 1) := by decide +kernel
theorem d_Mo_takenAt_0 : decode cX9_takenAt 0 = .ok (.iconst 0, 1) := by decide +kernel
theorem d_Mo_takenAt_1 : decode cX9_takenAt 1 = .ok (.istore_n 2, 1) := by decide +kernel
theorem d_Mo_takenAt_2 : decode cX9_takenAt 2 = .ok (.iconst 0, 1) := by decide +kernel
theorem d_Mo_takenAt_3 : decode cX9_takenAt 3 = .ok (.istore_n 3, 1) := by decide +kernel
theorem d_Mo_takenAt_4 : decode cX9_takenAt 4 = .ok (.iload_n 3, 1) := by decide +kernel
theorem d_Mo_takenAt_5 : decode cX9_takenAt 5 = .ok (.aload_n 0, 1) := by decide +kernel
theorem d_Mo_takenAt_6 : decode cX9_takenAt 6 = .ok (.getfield 152, 3) := by decide +kernel
theorem d_Mo_takenAt_9 : decode cX9_takenAt 9 = .ok (.if_icmp .ge 58, 3) := by decide +kernel
theorem d_Mo_takenAt_12 : decode cX9_takenAt 12 = .ok (.aload_n 0, 1) := by decide +kernel
theorem d_Mo_takenAt_13 : decode cX9_takenAt 13 = .ok (.getfield 7, 3) := by decide +kernel
theorem d_Mo_takenAt_16 : decode cX9_takenAt 16 = .ok (.bipush 43, 2) := by decide +kernel
theorem d_Mo_takenAt_18 : decode cX9_takenAt 18 = .ok (.iload_n 3, 1) := by decide +kernel
theorem d_Mo_takenAt_19 : decode cX9_takenAt 19 = .ok (.iadd, 1) := by decide +kernel
theorem d_Mo_takenAt_20 : decode cX9_takenAt 20 = .ok (.iaload, 1) := by decide +kernel
theorem d_Mo_takenAt_21 : decode cX9_takenAt 21 = .ok (.ifCond .ne 40, 3) := by decide +kernel
theorem d_Mo_takenAt_24 : decode cX9_takenAt 24 = .ok (.iload_n 1, 1) := by decide +kernel
theorem d_Mo_takenAt_25 : decode cX9_takenAt 25 = .ok (.aload_n 0, 1) := by decide +kernel
theorem d_Mo_takenAt_26 : decode cX9_takenAt 26 = .ok (.getfield 7, 3) := by decide +kernel
theorem d_Mo_takenAt_29 : decode cX9_takenAt 29 = .ok (.bipush 19, 2) := by decide +kernel
theorem d_Mo_takenAt_31 : decode cX9_takenAt 31 = .ok (.iload_n 3, 1) := by decide +kernel
theorem d_Mo_takenAt_32 : decode cX9_takenAt 32 = .ok (.iadd, 1) := by decide +kernel
theorem d_Mo_takenAt_33 : decode cX9_takenAt 33 = .ok (.iaload, 1) := by decide +kernel
theorem d_Mo_takenAt_34 : decode cX9_takenAt 34 = .ok (.imul, 1) := by decide +kernel
theorem d_Mo_takenAt_35 : decode cX9_takenAt 35 = .ok (.aload_n 0, 1) := by decide +kernel
theorem d_Mo_takenAt_36 : decode cX9_takenAt 36 = .ok (.getfield 7, 3) := by decide +kernel
theorem d_Mo_takenAt_39 : decode cX9_takenAt 39 = .ok (.bipush 7, 2) := by decide +kernel
theorem d_Mo_takenAt_41 : decode cX9_takenAt 41 = .ok (.iload_n 3, 1) := by decide +kernel
theorem d_Mo_takenAt_42 : decode cX9_takenAt 42 = .ok (.iadd, 1) := by decide +kernel
theorem d_Mo_takenAt_43 : decode cX9_takenAt 43 = .ok (.iaload, 1) := by decide +kernel
theorem d_Mo_takenAt_44 : decode cX9_takenAt 44 = .ok (.if_icmp .gt 17, 3) := by decide +kernel
theorem d_Mo_takenAt_47 : decode cX9_takenAt 47 = .ok (.iload_n 2, 1) := by decide +kernel
theorem d_Mo_takenAt_48 : decode cX9_takenAt 48 = .ok (.iload_n 1, 1) := by decide +kernel
theorem d_Mo_takenAt_49 : decode cX9_takenAt 49 = .ok (.aload_n 0, 1) := by decide +kernel
theorem d_Mo_takenAt_50 : decode cX9_takenAt 50 = .ok (.getfield 7, 3) := by decide +kernel
theorem d_Mo_takenAt_53 : decode cX9_takenAt 53 = .ok (.bipush 19, 2) := by decide +kernel
theorem d_Mo_takenAt_55 : decode cX9_takenAt 55 = .ok (.iload_n 3, 1) := by decide +kernel
theorem d_Mo_takenAt_56 : decode cX9_takenAt 56 = .ok (.iadd, 1) := by decide +kernel
theorem d_Mo_takenAt_57 : decode cX9_takenAt 57 = .ok (.iaload, 1) := by decide +kernel
theorem d_Mo_takenAt_58 : decode cX9_takenAt 58 = .ok (.imul, 1) := by decide +kernel
theorem d_Mo_takenAt_59 : decode cX9_takenAt 59 = .ok (.iadd, 1) := by decide +kernel
theorem d_Mo_takenAt_60 : decode cX9_takenAt 60 = .ok (.istore_n 2, 1) := by decide +kernel
theorem d_Mo_takenAt_61 : decode cX9_takenAt 61 = .ok (.iinc 3 1, 3) := by decide +kernel
theorem d_Mo_takenAt_64 : decode cX9_takenAt 64 = .ok (.goto (-60), 3) := by decide +kernel
theorem d_Mo_takenAt_67 : decode cX9_takenAt 67 = .ok (.iload_n 2, 1) := by decide +kernel
theorem d_Mo_takenAt_68 : decode cX9_takenAt 68 = .ok (.ireturn, 1) := by decide +kernel
theorem d_Mo_rate_0 : decode cX9_rate 0 = .ok (.aload_n 0, 1) := by decide +kernel
theorem d_Mo_rate_1 : decode cX9_rate 1 = .ok (.iconst 0, 1) := by decide +kernel
theorem d_Mo_rate_2 : decode cX9_rate 2 = .ok (.putfield 140, 3) := by decide +kernel
theorem d_Mo_rate_5 : decode cX9_rate 5 = .ok (.aload_n 0, 1) := by decide +kernel
theorem d_Mo_rate_6 : decode cX9_rate 6 = .ok (.iload_n 1, 1) := by decide +kernel
theorem d_Mo_rate_7 : decode cX9_rate 7 = .ok (.iconst 0, 1) := by decide +kernel
theorem d_Mo_rate_8 : decode cX9_rate 8 = .ok (.iconst 1, 1) := by decide +kernel
theorem d_Mo_rate_9 : decode cX9_rate 9 = .ok (.invokevirtual 162, 3) := by decide +kernel
theorem d_Mo_rate_12 : decode cX9_rate 12 = .ok (.ifCond .ne 5, 3) := by decide +kernel
theorem d_Mo_rate_15 : decode cX9_rate 15 = .ok (.iconst (-1), 1) := by decide +kernel
theorem d_Mo_rate_16 : decode cX9_rate 16 = .ok (.ireturn, 1) := by decide +kernel
theorem d_Mo_rate_17 : decode cX9_rate 17 = .ok (.iconst 0, 1) := by decide +kernel
theorem d_Mo_rate_18 : decode cX9_rate 18 = .ok (.istore_n 2, 1) := by decide +kernel
theorem d_Mo_rate_19 : decode cX9_rate 19 = .ok (.iconst 1, 1) := by decide +kernel
theorem d_Mo_rate_20 : decode cX9_rate 20 = .ok (.istore_n 3, 1) := by decide +kernel
theorem d_Mo_rate_21 : decode cX9_rate 21 = .ok (.iload_n 3, 1) := by decide +kernel
theorem d_Mo_rate_22 : decode cX9_rate 22 = .ok (.bipush 99, 2) := by decide +kernel
theorem d_Mo_rate_24 : decode cX9_rate 24 = .ok (.if_icmp .gt 24, 3) := by decide +kernel
theorem d_Mo_rate_27 : decode cX9_rate 27 = .ok (.aload_n 0, 1) := by decide +kernel
theorem d_Mo_rate_28 : decode cX9_rate 28 = .ok (.iload_n 3, 1) := by decide +kernel
theorem d_Mo_rate_29 : decode cX9_rate 29 = .ok (.invokevirtual 412, 3) := by decide +kernel
theorem d_Mo_rate_32 : decode cX9_rate 32 = .ok (.aload_n 0, 1) := by decide +kernel
theorem d_Mo_rate_33 : decode cX9_rate 33 = .ok (.iload_n 2, 1) := by decide +kernel
theorem d_Mo_rate_34 : decode cX9_rate 34 = .ok (.invokevirtual 412, 3) := by decide +kernel
theorem d_Mo_rate_37 : decode cX9_rate 37 = .ok (.if_icmp .le 5, 3) := by decide +kernel
theorem d_Mo_rate_40 : decode cX9_rate 40 = .ok (.iload_n 3, 1) := by decide +kernel
theorem d_Mo_rate_41 : decode cX9_rate 41 = .ok (.istore_n 2, 1) := by decide +kernel
theorem d_Mo_rate_42 : decode cX9_rate 42 = .ok (.iinc 3 1, 3) := by decide +kernel
theorem d_Mo_rate_45 : decode cX9_rate 45 = .ok (.goto (-24), 3) := by decide +kernel
theorem d_Mo_rate_48 : decode cX9_rate 48 = .ok (.iload_n 1, 1) := by decide +kernel
theorem d_Mo_rate_49 : decode cX9_rate 49 = .ok (.ifCond .ne 7, 3) := by decide +kernel
theorem d_Mo_rate_52 : decode cX9_rate 52 = .ok (.iload_n 2, 1) := by decide +kernel
theorem d_Mo_rate_53 : decode cX9_rate 53 = .ok (.goto 8, 3) := by decide +kernel
theorem d_Mo_rate_56 : decode cX9_rate 56 = .ok (.aload_n 0, 1) := by decide +kernel
theorem d_Mo_rate_57 : decode cX9_rate 57 = .ok (.iload_n 2, 1) := by decide +kernel
theorem d_Mo_rate_58 : decode cX9_rate 58 = .ok (.invokevirtual 412, 3) := by decide +kernel
theorem d_Mo_rate_61 : decode cX9_rate 61 = .ok (.ireturn, 1) := by decide +kernel
theorem d_Mo_order_0 : decode cX9_order 0 = .ok (.aload_n 0, 1) := by decide +kernel
theorem d_Mo_order_1 : decode cX9_order 1 = .ok (.iconst 0, 1) := by decide +kernel
theorem d_Mo_order_2 : decode cX9_order 2 = .ok (.putfield 140, 3) := by decide +kernel
theorem d_Mo_order_5 : decode cX9_order 5 = .ok (.iload_n 1, 1) := by decide +kernel
theorem d_Mo_order_6 : decode cX9_order 6 = .ok (.iconst (-1), 1) := by decide +kernel
theorem d_Mo_order_7 : decode cX9_order 7 = .ok (.if_icmp .ne 10, 3) := by decide +kernel
theorem d_Mo_order_10 : decode cX9_order 10 = .ok (.aload_n 0, 1) := by decide +kernel
theorem d_Mo_order_11 : decode cX9_order 11 = .ok (.iconst 0, 1) := by decide +kernel
theorem d_Mo_order_12 : decode cX9_order 12 = .ok (.putfield 415, 3) := by decide +kernel
theorem d_Mo_order_15 : decode cX9_order 15 = .ok (.iconst 0, 1) := by decide +kernel
theorem d_Mo_order_16 : decode cX9_order 16 = .ok (.ireturn, 1) := by decide +kernel
theorem d_Mo_order_17 : decode cX9_order 17 = .ok (.aload_n 0, 1) := by decide +kernel
theorem d_Mo_order_18 : decode cX9_order 18 = .ok (.iload_n 1, 1) := by decide +kernel
theorem d_Mo_order_19 : decode cX9_order 19 = .ok (.iconst 0, 1) := by decide +kernel
theorem d_Mo_order_20 : decode cX9_order 20 = .ok (.bipush 99, 2) := by decide +kernel
theorem d_Mo_order_22 : decode cX9_order 22 = .ok (.invokevirtual 162, 3) := by decide +kernel
theorem d_Mo_order_25 : decode cX9_order 25 = .ok (.ifCond .eq 34, 3) := by decide +kernel
theorem d_Mo_order_28 : decode cX9_order 28 = .ok (.aload_n 0, 1) := by decide +kernel
theorem d_Mo_order_29 : decode cX9_order 29 = .ok (.iload_n 2, 1) := by decide +kernel
theorem d_Mo_order_30 : decode cX9_order 30 = .ok (.iconst 0, 1) := by decide +kernel
theorem d_Mo_order_31 : decode cX9_order 31 = .ok (.bipush 9, 2) := by decide +kernel
theorem d_Mo_order_33 : decode cX9_order 33 = .ok (.invokevirtual 162, 3) := by decide +kernel
theorem d_Mo_order_36 : decode cX9_order 36 = .ok (.ifCond .eq 23, 3) := by decide +kernel
theorem d_Mo_order_39 : decode cX9_order 39 = .ok (.aload_n 0, 1) := by decide +kernel
theorem d_Mo_order_40 : decode cX9_order 40 = .ok (.iload_n 3, 1) := by decide +kernel
theorem d_Mo_order_41 : decode cX9_order 41 = .ok (.iconst 1, 1) := by decide +kernel
theorem d_Mo_order_42 : decode cX9_order 42 = .ok (.bipush 9, 2) := by decide +kernel
theorem d_Mo_order_44 : decode cX9_order 44 = .ok (.invokevirtual 162, 3) := by decide +kernel
theorem d_Mo_order_47 : decode cX9_order 47 = .ok (.ifCond .eq 12, 3) := by decide +kernel
theorem d_Mo_order_50 : decode cX9_order 50 = .ok (.aload_n 0, 1) := by decide +kernel
theorem d_Mo_order_51 : decode cX9_order 51 = .ok (.getfield 415, 3) := by decide +kernel
theorem d_Mo_order_54 : decode cX9_order 54 = .ok (.bipush 8, 2) := by decide +kernel
theorem d_Mo_order_56 : decode cX9_order 56 = .ok (.if_icmp .ne 5, 3) := by decide +kernel
theorem d_Mo_order_59 : decode cX9_order 59 = .ok (.iconst (-1), 1) := by decide +kernel
theorem d_Mo_order_60 : decode cX9_order 60 = .ok (.ireturn, 1) := by decide +kernel
theorem d_Mo_order_61 : decode cX9_order 61 = .ok (.aload_n 0, 1) := by decide +kernel
theorem d_Mo_order_62 : decode cX9_order 62 = .ok (.getfield 83, 3) := by decide +kernel
theorem d_Mo_order_65 : decode cX9_order 65 = .ok (.aload_n 0, 1) := by decide +kernel
theorem d_Mo_order_66 : decode cX9_order 66 = .ok (.getfield 415, 3) := by decide +kernel
theorem d_Mo_order_69 : decode cX9_order 69 = .ok (.iload_n 1, 1) := by decide +kernel
theorem d_Mo_order_70 : decode cX9_order 70 = .ok (.iastore, 1) := by decide +kernel
theorem d_Mo_order_71 : decode cX9_order 71 = .ok (.aload_n 0, 1) := by decide +kernel
theorem d_Mo_order_72 : decode cX9_order 72 = .ok (.getfield 86, 3) := by decide +kernel
theorem d_Mo_order_75 : decode cX9_order 75 = .ok (.aload_n 0, 1) := by decide +kernel
theorem d_Mo_order_76 : decode cX9_order 76 = .ok (.getfield 415, 3) := by decide +kernel
theorem d_Mo_order_79 : decode cX9_order 79 = .ok (.iload_n 2, 1) := by decide +kernel
theorem d_Mo_order_80 : decode cX9_order 80 = .ok (.iastore, 1) := by decide +kernel
theorem d_Mo_order_81 : decode cX9_order 81 = .ok (.aload_n 0, 1) := by decide +kernel
theorem d_Mo_order_82 : decode cX9_order 82 = .ok (.getfield 89, 3) := by decide +kernel
theorem d_Mo_order_85 : decode cX9_order 85 = .ok (.aload_n 0, 1) := by decide +kernel
theorem d_Mo_order_86 : decode cX9_order 86 = .ok (.getfield 415, 3) := by decide +kernel
theorem d_Mo_order_89 : decode cX9_order 89 = .ok (.iload_n 3, 1) := by decide +kernel
theorem d_Mo_order_90 : decode cX9_order 90 = .ok (.iastore, 1) := by decide +kernel
theorem d_Mo_order_91 : decode cX9_order 91 = .ok (.aload_n 0, 1) := by decide +kernel
theorem d_Mo_order_92 : decode cX9_order 92 = .ok (.aload_n 0, 1) := by decide +kernel
theorem d_Mo_order_93 : decode cX9_order 93 = .ok (.getfield 415, 3) := by decide +kernel
theorem d_Mo_order_96 : decode cX9_order 96 = .ok (.iconst 1, 1) := by decide +kernel
theorem d_Mo_order_97 : decode cX9_order 97 = .ok (.iadd, 1) := by decide +kernel
theorem d_Mo_order_98 : decode cX9_order 98 = .ok (.putfield 415, 3) := by decide +kernel
theorem d_Mo_order_101 : decode cX9_order 101 = .ok (.aload_n 0, 1) := by decide +kernel
theorem d_Mo_order_102 : decode cX9_order 102 = .ok (.getfield 415, 3) := by decide +kernel
theorem d_Mo_order_105 : decode cX9_order 105 = .ok (.ireturn, 1) := by decide +kernel
theorem d_Mo_isAhead_0 : decode cX9_isAhead 0 = .ok (.aload_n 0, 1) := by decide +kernel
theorem d_Mo_isAhead_1 : decode cX9_isAhead 1 = .ok (.getfield 89, 3) := by decide +kernel
theorem d_Mo_isAhead_4 : decode cX9_isAhead 4 = .ok (.iload_n 1, 1) := by decide +kernel
theorem d_Mo_isAhead_5 : decode cX9_isAhead 5 = .ok (.iaload, 1) := by decide +kernel
theorem d_Mo_isAhead_6 : decode cX9_isAhead 6 = .ok (.aload_n 0, 1) := by decide +kernel
theorem d_Mo_isAhead_7 : decode cX9_isAhead 7 = .ok (.getfield 86, 3) := by decide +kernel
theorem d_Mo_isAhead_10 : decode cX9_isAhead 10 = .ok (.iload_n 1, 1) := by decide +kernel
theorem d_Mo_isAhead_11 : decode cX9_isAhead 11 = .ok (.iaload, 1) := by decide +kernel
theorem d_Mo_isAhead_12 : decode cX9_isAhead 12 = .ok (.imul, 1) := by decide +kernel
theorem d_Mo_isAhead_13 : decode cX9_isAhead 13 = .ok (.istore_n 3, 1) := by decide +kernel
theorem d_Mo_isAhead_14 : decode cX9_isAhead 14 = .ok (.aload_n 0, 1) := by decide +kernel
theorem d_Mo_isAhead_15 : decode cX9_isAhead 15 = .ok (.getfield 89, 3) := by decide +kernel
theorem d_Mo_isAhead_18 : decode cX9_isAhead 18 = .ok (.iload_n 2, 1) := by decide +kernel
theorem d_Mo_isAhead_19 : decode cX9_isAhead 19 = .ok (.iaload, 1) := by decide +kernel
theorem d_Mo_isAhead_20 : decode cX9_isAhead 20 = .ok (.aload_n 0, 1) := by decide +kernel
theorem d_Mo_isAhead_21 : decode cX9_isAhead 21 = .ok (.getfield 86, 3) := by decide +kernel
theorem d_Mo_isAhead_24 : decode cX9_isAhead 24 = .ok (.iload_n 2, 1) := by decide +kernel
theorem d_Mo_isAhead_25 : decode cX9_isAhead 25 = .ok (.iaload, 1) := by decide +kernel
theorem d_Mo_isAhead_26 : decode cX9_isAhead 26 = .ok (.imul, 1) := by decide +kernel
theorem d_Mo_isAhead_27 : decode cX9_isAhead 27 = .ok (.istore 4, 2) := by decide +kernel
theorem d_Mo_isAhead_29 : decode cX9_isAhead 29 = .ok (.iload_n 3, 1) := by decide +kernel
theorem d_Mo_isAhead_30 : decode cX9_isAhead 30 = .ok (.iload 4, 2) := by decide +kernel
theorem d_Mo_isAhead_32 : decode cX9_isAhead 32 = .ok (.if_icmp .gt 14, 3) := by decide +kernel
theorem d_Mo_isAhead_35 : decode cX9_isAhead 35 = .ok (.iload_n 3, 1) := by decide +kernel
theorem d_Mo_isAhead_36 : decode cX9_isAhead 36 = .ok (.iload 4, 2) := by decide +kernel
theorem d_Mo_isAhead_38 : decode cX9_isAhead 38 = .ok (.if_icmp .ne 12, 3) := by decide +kernel
theorem d_Mo_isAhead_41 : decode cX9_isAhead 41 = .ok (.iload_n 1, 1) := by decide +kernel
theorem d_Mo_isAhead_42 : decode cX9_isAhead 42 = .ok (.iload_n 2, 1) := by decide +kernel
theorem d_Mo_isAhead_43 : decode cX9_isAhead 43 = .ok (.if_icmp .ge 7, 3) := by decide +kernel
theorem d_Mo_isAhead_46 : decode cX9_isAhead 46 = .ok (.iconst 1, 1) := by decide +kernel
theorem d_Mo_isAhead_47 : decode cX9_isAhead 47 = .ok (.goto 4, 3) := by decide +kernel
theorem d_Mo_isAhead_50 : decode cX9_isAhead 50 = .ok (.iconst 0, 1) := by decide +kernel
theorem d_Mo_isAhead_51 : decode cX9_isAhead 51 = .ok (.ireturn, 1) := by decide +kernel
theorem d_Mo_ordered_0 : decode cX9_ordered 0 = .ok (.aload_n 0, 1) := by decide +kernel
theorem d_Mo_ordered_1 : decode cX9_ordered 1 = .ok (.iconst 0, 1) := by decide +kernel
theorem d_Mo_ordered_2 : decode cX9_ordered 2 = .ok (.putfield 140, 3) := by decide +kernel
theorem d_Mo_ordered_5 : decode cX9_ordered 5 = .ok (.aload_n 0, 1) := by decide +kernel
theorem d_Mo_ordered_6 : decode cX9_ordered 6 = .ok (.iload_n 1, 1) := by decide +kernel
theorem d_Mo_ordered_7 : decode cX9_ordered 7 = .ok (.iconst 0, 1) := by decide +kernel
theorem d_Mo_ordered_8 : decode cX9_ordered 8 = .ok (.iconst 1, 1) := by decide +kernel
theorem d_Mo_ordered_9 : decode cX9_ordered 9 = .ok (.invokevirtual 162, 3) := by decide +kernel
theorem d_Mo_ordered_12 : decode cX9_ordered 12 = .ok (.ifCond .ne 5, 3) := by decide +kernel
theorem d_Mo_ordered_15 : decode cX9_ordered 15 = .ok (.iconst (-1), 1) := by decide +kernel
theorem d_Mo_ordered_16 : decode cX9_ordered 16 = .ok (.ireturn, 1) := by decide +kernel
theorem d_Mo_ordered_17 : decode cX9_ordered 17 = .ok (.iconst 0, 1) := by decide +kernel
theorem d_Mo_ordered_18 : decode cX9_ordered 18 = .ok (.istore_n 2, 1) := by decide +kernel
theorem d_Mo_ordered_19 : decode cX9_ordered 19 = .ok (.iconst (-1), 1) := by decide +kernel
theorem d_Mo_ordered_20 : decode cX9_ordered 20 = .ok (.istore_n 3, 1) := by decide +kernel
theorem d_Mo_ordered_21 : decode cX9_ordered 21 = .ok (.iconst 0, 1) := by decide +kernel
theorem d_Mo_ordered_22 : decode cX9_ordered 22 = .ok (.istore 4, 2) := by decide +kernel
theorem d_Mo_ordered_24 : decode cX9_ordered 24 = .ok (.iload 4, 2) := by decide +kernel
theorem d_Mo_ordered_26 : decode cX9_ordered 26 = .ok (.aload_n 0, 1) := by decide +kernel
theorem d_Mo_ordered_27 : decode cX9_ordered 27 = .ok (.getfield 415, 3) := by decide +kernel
theorem d_Mo_ordered_30 : decode cX9_ordered 30 = .ok (.if_icmp .ge 91, 3) := by decide +kernel
theorem d_Mo_ordered_33 : decode cX9_ordered 33 = .ok (.iconst 0, 1) := by decide +kernel
theorem d_Mo_ordered_34 : decode cX9_ordered 34 = .ok (.istore 5, 2) := by decide +kernel
theorem d_Mo_ordered_36 : decode cX9_ordered 36 = .ok (.iconst 0, 1) := by decide +kernel
theorem d_Mo_ordered_37 : decode cX9_ordered 37 = .ok (.istore 6, 2) := by decide +kernel
theorem d_Mo_ordered_39 : decode cX9_ordered 39 = .ok (.iload 6, 2) := by decide +kernel
theorem d_Mo_ordered_41 : decode cX9_ordered 41 = .ok (.aload_n 0, 1) := by decide +kernel
theorem d_Mo_ordered_42 : decode cX9_ordered 42 = .ok (.getfield 415, 3) := by decide +kernel
theorem d_Mo_ordered_45 : decode cX9_ordered 45 = .ok (.if_icmp .ge 33, 3) := by decide +kernel
theorem d_Mo_ordered_48 : decode cX9_ordered 48 = .ok (.iload 6, 2) := by decide +kernel
theorem d_Mo_ordered_50 : decode cX9_ordered 50 = .ok (.iload 4, 2) := by decide +kernel
theorem d_Mo_ordered_52 : decode cX9_ordered 52 = .ok (.if_icmp .eq 20, 3) := by decide +kernel
theorem d_Mo_ordered_55 : decode cX9_ordered 55 = .ok (.aload_n 0, 1) := by decide +kernel
theorem d_Mo_ordered_56 : decode cX9_ordered 56 = .ok (.iload 6, 2) := by decide +kernel
theorem d_Mo_ordered_58 : decode cX9_ordered 58 = .ok (.iload 4, 2) := by decide +kernel
theorem d_Mo_ordered_60 : decode cX9_ordered 60 = .ok (.invokevirtual 418, 3) := by decide +kernel
theorem d_Mo_ordered_63 : decode cX9_ordered 63 = .ok (.ifCond .eq 9, 3) := by decide +kernel
theorem d_Mo_ordered_66 : decode cX9_ordered 66 = .ok (.iload 5, 2) := by decide +kernel
theorem d_Mo_ordered_68 : decode cX9_ordered 68 = .ok (.iconst 1, 1) := by decide +kernel
theorem d_Mo_ordered_69 : decode cX9_ordered 69 = .ok (.iadd, 1) := by decide +kernel
theorem d_Mo_ordered_70 : decode cX9_ordered 70 = .ok (.istore 5, 2) := by decide +kernel
theorem d_Mo_ordered_72 : decode cX9_ordered 72 = .ok (.iinc 6 1, 3) := by decide +kernel
theorem d_Mo_ordered_75 : decode cX9_ordered 75 = .ok (.goto (-36), 3) := by decide +kernel
theorem d_Mo_ordered_78 : decode cX9_ordered 78 = .ok (.iload_n 2, 1) := by decide +kernel
theorem d_Mo_ordered_79 : decode cX9_ordered 79 = .ok (.aload_n 0, 1) := by decide +kernel
theorem d_Mo_ordered_80 : decode cX9_ordered 80 = .ok (.getfield 89, 3) := by decide +kernel
theorem d_Mo_ordered_83 : decode cX9_ordered 83 = .ok (.iload 4, 2) := by decide +kernel
theorem d_Mo_ordered_85 : decode cX9_ordered 85 = .ok (.iaload, 1) := by decide +kernel
theorem d_Mo_ordered_86 : decode cX9_ordered 86 = .ok (.aload_n 0, 1) := by decide +kernel
theorem d_Mo_ordered_87 : decode cX9_ordered 87 = .ok (.getfield 83, 3) := by decide +kernel
theorem d_Mo_ordered_90 : decode cX9_ordered 90 = .ok (.iload 4, 2) := by decide +kernel
theorem d_Mo_ordered_92 : decode cX9_ordered 92 = .ok (.iaload, 1) := by decide +kernel
theorem d_Mo_ordered_93 : decode cX9_ordered 93 = .ok (.iload 5, 2) := by decide +kernel
theorem d_Mo_ordered_95 : decode cX9_ordered 95 = .ok (.aload_n 0, 1) := by decide +kernel
theorem d_Mo_ordered_96 : decode cX9_ordered 96 = .ok (.getfield 86, 3) := by decide +kernel
theorem d_Mo_ordered_99 : decode cX9_ordered 99 = .ok (.iload 4, 2) := by decide +kernel
theorem d_Mo_ordered_101 : decode cX9_ordered 101 = .ok (.iaload, 1) := by decide +kernel
theorem d_Mo_ordered_102 : decode cX9_ordered 102 = .ok (.imul, 1) := by decide +kernel
theorem d_Mo_ordered_103 : decode cX9_ordered 103 = .ok (.iadd, 1) := by decide +kernel
theorem d_Mo_ordered_104 : decode cX9_ordered 104 = .ok (.imul, 1) := by decide +kernel
theorem d_Mo_ordered_105 : decode cX9_ordered 105 = .ok (.iadd, 1) := by decide +kernel
theorem d_Mo_ordered_106 : decode cX9_ordered 106 = .ok (.istore_n 2, 1) := by decide +kernel
theorem d_Mo_ordered_107 : decode cX9_ordered 107 = .ok (.iload 5, 2) := by decide +kernel
theorem d_Mo_ordered_109 : decode cX9_ordered 109 = .ok (.ifCond .ne 6, 3) := by decide +kernel
theorem d_Mo_ordered_112 : decode cX9_ordered 112 = .ok (.iload 4, 2) := by decide +kernel
theorem d_Mo_ordered_114 : decode cX9_ordered 114 = .ok (.istore_n 3, 1) := by decide +kernel
theorem d_Mo_ordered_115 : decode cX9_ordered 115 = .ok (.iinc 4 1, 3) := by decide +kernel
theorem d_Mo_ordered_118 : decode cX9_ordered 118 = .ok (.goto (-94), 3) := by decide +kernel
theorem d_Mo_ordered_121 : decode cX9_ordered 121 = .ok (.iload_n 1, 1) := by decide +kernel
theorem d_Mo_ordered_122 : decode cX9_ordered 122 = .ok (.ifCond .ne 7, 3) := by decide +kernel
theorem d_Mo_ordered_125 : decode cX9_ordered 125 = .ok (.iload_n 2, 1) := by decide +kernel
theorem d_Mo_ordered_126 : decode cX9_ordered 126 = .ok (.goto 4, 3) := by decide +kernel
theorem d_Mo_ordered_129 : decode cX9_ordered 129 = .ok (.iload_n 3, 1) := by decide +kernel
theorem d_Mo_ordered_130 : decode cX9_ordered 130 = .ok (.ireturn, 1) := by decide +kernel
theorem d_Mo_hand_0 : decode cX9_hand 0 = .ok (.aload_n 0, 1) := by decide +kernel
theorem d_Mo_hand_1 : decode cX9_hand 1 = .ok (.iconst 0, 1) := by decide +kernel
theorem d_Mo_hand_2 : decode cX9_hand 2 = .ok (.putfield 140, 3) := by decide +kernel
theorem d_Mo_hand_5 : decode cX9_hand 5 = .ok (.iload_n 1, 1) := by decide +kernel
theorem d_Mo_hand_6 : decode cX9_hand 6 = .ok (.iconst (-1), 1) := by decide +kernel
theorem d_Mo_hand_7 : decode cX9_hand 7 = .ok (.if_icmp .ne 31, 3) := by decide +kernel
theorem d_Mo_hand_10 : decode cX9_hand 10 = .ok (.aload_n 0, 1) := by decide +kernel
theorem d_Mo_hand_11 : decode cX9_hand 11 = .ok (.iconst 0, 1) := by decide +kernel
theorem d_Mo_hand_12 : decode cX9_hand 12 = .ok (.putfield 421, 3) := by decide +kernel
theorem d_Mo_hand_15 : decode cX9_hand 15 = .ok (.iconst 0, 1) := by decide +kernel
theorem d_Mo_hand_16 : decode cX9_hand 16 = .ok (.istore_n 3, 1) := by decide +kernel
theorem d_Mo_hand_17 : decode cX9_hand 17 = .ok (.iload_n 3, 1) := by decide +kernel
theorem d_Mo_hand_18 : decode cX9_hand 18 = .ok (.bipush 6, 2) := by decide +kernel
theorem d_Mo_hand_20 : decode cX9_hand 20 = .ok (.if_icmp .ge 16, 3) := by decide +kernel
theorem d_Mo_hand_23 : decode cX9_hand 23 = .ok (.aload_n 0, 1) := by decide +kernel
theorem d_Mo_hand_24 : decode cX9_hand 24 = .ok (.getfield 92, 3) := by decide +kernel
theorem d_Mo_hand_27 : decode cX9_hand 27 = .ok (.iload_n 3, 1) := by decide +kernel
theorem d_Mo_hand_28 : decode cX9_hand 28 = .ok (.iconst 0, 1) := by decide +kernel
theorem d_Mo_hand_29 : decode cX9_hand 29 = .ok (.iastore, 1) := by decide +kernel
theorem d_Mo_hand_30 : decode cX9_hand 30 = .ok (.iinc 3 1, 3) := by decide +kernel
theorem d_Mo_hand_33 : decode cX9_hand 33 = .ok (.goto (-16), 3) := by decide +kernel
theorem d_Mo_hand_36 : decode cX9_hand 36 = .ok (.iconst 0, 1) := by decide +kernel
theorem d_Mo_hand_37 : decode cX9_hand 37 = .ok (.ireturn, 1) := by decide +kernel
theorem d_Mo_hand_38 : decode cX9_hand 38 = .ok (.aload_n 0, 1) := by decide +kernel
theorem d_Mo_hand_39 : decode cX9_hand 39 = .ok (.iload_n 1, 1) := by decide +kernel
theorem d_Mo_hand_40 : decode cX9_hand 40 = .ok (.iconst 0, 1) := by decide +kernel
theorem d_Mo_hand_41 : decode cX9_hand 41 = .ok (.iconst 5, 1) := by decide +kernel
theorem d_Mo_hand_42 : decode cX9_hand 42 = .ok (.invokevirtual 162, 3) := by decide +kernel
theorem d_Mo_hand_45 : decode cX9_hand 45 = .ok (.ifCond .eq 22, 3) := by decide +kernel
theorem d_Mo_hand_48 : decode cX9_hand 48 = .ok (.aload_n 0, 1) := by decide +kernel
theorem d_Mo_hand_49 : decode cX9_hand 49 = .ok (.iload_n 2, 1) := by decide +kernel
theorem d_Mo_hand_50 : decode cX9_hand 50 = .ok (.iconst 0, 1) := by decide +kernel
theorem d_Mo_hand_51 : decode cX9_hand 51 = .ok (.iconst 5, 1) := by decide +kernel
theorem d_Mo_hand_52 : decode cX9_hand 52 = .ok (.invokevirtual 162, 3) := by decide +kernel
theorem d_Mo_hand_55 : decode cX9_hand 55 = .ok (.ifCond .eq 12, 3) := by decide +kernel
theorem d_Mo_hand_58 : decode cX9_hand 58 = .ok (.aload_n 0, 1) := by decide +kernel
theorem d_Mo_hand_59 : decode cX9_hand 59 = .ok (.getfield 421, 3) := by decide +kernel
theorem d_Mo_hand_62 : decode cX9_hand 62 = .ok (.bipush 16, 2) := by decide +kernel
theorem d_Mo_hand_64 : decode cX9_hand 64 = .ok (.if_icmp .ne 5, 3) := by decide +kernel
theorem d_Mo_hand_67 : decode cX9_hand 67 = .ok (.iconst (-1), 1) := by decide +kernel
theorem d_Mo_hand_68 : decode cX9_hand 68 = .ok (.ireturn, 1) := by decide +kernel
theorem d_Mo_hand_69 : decode cX9_hand 69 = .ok (.aload_n 0, 1) := by decide +kernel
theorem d_Mo_hand_70 : decode cX9_hand 70 = .ok (.getfield 92, 3) := by decide +kernel
theorem d_Mo_hand_73 : decode cX9_hand 73 = .ok (.iload_n 1, 1) := by decide +kernel
theorem d_Mo_hand_74 : decode cX9_hand 74 = .ok (.aload_n 0, 1) := by decide +kernel
theorem d_Mo_hand_75 : decode cX9_hand 75 = .ok (.getfield 92, 3) := by decide +kernel
theorem d_Mo_hand_78 : decode cX9_hand 78 = .ok (.iload_n 1, 1) := by decide +kernel
theorem d_Mo_hand_79 : decode cX9_hand 79 = .ok (.iaload, 1) := by decide +kernel
theorem d_Mo_hand_80 : decode cX9_hand 80 = .ok (.iconst 1, 1) := by decide +kernel
theorem d_Mo_hand_81 : decode cX9_hand 81 = .ok (.iload_n 2, 1) := by decide +kernel
theorem d_Mo_hand_82 : decode cX9_hand 82 = .ok (.ishl, 1) := by decide +kernel
theorem d_Mo_hand_83 : decode cX9_hand 83 = .ok (.ior, 1) := by decide +kernel
theorem d_Mo_hand_84 : decode cX9_hand 84 = .ok (.iastore, 1) := by decide +kernel
theorem d_Mo_hand_85 : decode cX9_hand 85 = .ok (.aload_n 0, 1) := by decide +kernel
theorem d_Mo_hand_86 : decode cX9_hand 86 = .ok (.aload_n 0, 1) := by decide +kernel
theorem d_Mo_hand_87 : decode cX9_hand 87 = .ok (.getfield 421, 3) := by decide +kernel
theorem d_Mo_hand_90 : decode cX9_hand 90 = .ok (.iconst 1, 1) := by decide +kernel
theorem d_Mo_hand_91 : decode cX9_hand 91 = .ok (.iadd, 1) := by decide +kernel
theorem d_Mo_hand_92 : decode cX9_hand 92 = .ok (.putfield 421, 3) := by decide +kernel
theorem d_Mo_hand_95 : decode cX9_hand 95 = .ok (.aload_n 0, 1) := by decide +kernel
theorem d_Mo_hand_96 : decode cX9_hand 96 = .ok (.getfield 421, 3) := by decide +kernel
theorem d_Mo_hand_99 : decode cX9_hand 99 = .ok (.ireturn, 1) := by decide +kernel
theorem d_Mo_goesOne_0 : decode cX9_goesOne 0 = .ok (.iconst 0, 1) := by decide +kernel
theorem d_Mo_goesOne_1 : decode cX9_goesOne 1 = .ok (.istore_n 2, 1) := by decide +kernel
theorem d_Mo_goesOne_2 : decode cX9_goesOne 2 = .ok (.iload_n 2, 1) := by decide +kernel
theorem d_Mo_goesOne_3 : decode cX9_goesOne 3 = .ok (.bipush 64, 2) := by decide +kernel
theorem d_Mo_goesOne_5 : decode cX9_goesOne 5 = .ok (.if_icmp .ge 72, 3) := by decide +kernel
theorem d_Mo_goesOne_8 : decode cX9_goesOne 8 = .ok (.aload_n 0, 1) := by decide +kernel
theorem d_Mo_goesOne_9 : decode cX9_goesOne 9 = .ok (.getfield 95, 3) := by decide +kernel
theorem d_Mo_goesOne_12 : decode cX9_goesOne 12 = .ok (.iload_n 2, 1) := by decide +kernel
theorem d_Mo_goesOne_13 : decode cX9_goesOne 13 = .ok (.iaload, 1) := by decide +kernel
theorem d_Mo_goesOne_14 : decode cX9_goesOne 14 = .ok (.istore_n 3, 1) := by decide +kernel
theorem d_Mo_goesOne_15 : decode cX9_goesOne 15 = .ok (.iconst 0, 1) := by decide +kernel
theorem d_Mo_goesOne_16 : decode cX9_goesOne 16 = .ok (.istore 4, 2) := by decide +kernel
theorem d_Mo_goesOne_18 : decode cX9_goesOne 18 = .ok (.iload 4, 2) := by decide +kernel
theorem d_Mo_goesOne_20 : decode cX9_goesOne 20 = .ok (.bipush 6, 2) := by decide +kernel
theorem d_Mo_goesOne_22 : decode cX9_goesOne 22 = .ok (.if_icmp .ge 42, 3) := by decide +kernel
theorem d_Mo_goesOne_25 : decode cX9_goesOne 25 = .ok (.aload_n 0, 1) := by decide +kernel
theorem d_Mo_goesOne_26 : decode cX9_goesOne 26 = .ok (.aload_n 0, 1) := by decide +kernel
theorem d_Mo_goesOne_27 : decode cX9_goesOne 27 = .ok (.getfield 92, 3) := by decide +kernel
theorem d_Mo_goesOne_30 : decode cX9_goesOne 30 = .ok (.iload_n 1, 1) := by decide +kernel
theorem d_Mo_goesOne_31 : decode cX9_goesOne 31 = .ok (.iaload, 1) := by decide +kernel
theorem d_Mo_goesOne_32 : decode cX9_goesOne 32 = .ok (.iload_n 2, 1) := by decide +kernel
theorem d_Mo_goesOne_33 : decode cX9_goesOne 33 = .ok (.iand, 1) := by decide +kernel
theorem d_Mo_goesOne_34 : decode cX9_goesOne 34 = .ok (.iload 4, 2) := by decide +kernel
theorem d_Mo_goesOne_36 : decode cX9_goesOne 36 = .ok (.invokevirtual 158, 3) := by decide +kernel
theorem d_Mo_goesOne_39 : decode cX9_goesOne 39 = .ok (.ifCond .eq 19, 3) := by decide +kernel
theorem d_Mo_goesOne_42 : decode cX9_goesOne 42 = .ok (.iload_n 3, 1) := by decide +kernel
theorem d_Mo_goesOne_43 : decode cX9_goesOne 43 = .ok (.aload_n 0, 1) := by decide +kernel
theorem d_Mo_goesOne_44 : decode cX9_goesOne 44 = .ok (.getfield 95, 3) := by decide +kernel
theorem d_Mo_goesOne_47 : decode cX9_goesOne 47 = .ok (.iload_n 2, 1) := by decide +kernel
theorem d_Mo_goesOne_48 : decode cX9_goesOne 48 = .ok (.iconst 1, 1) := by decide +kernel
theorem d_Mo_goesOne_49 : decode cX9_goesOne 49 = .ok (.iload 4, 2) := by decide +kernel
theorem d_Mo_goesOne_51 : decode cX9_goesOne 51 = .ok (.ishl, 1) := by decide +kernel
theorem d_Mo_goesOne_52 : decode cX9_goesOne 52 = .ok (.iconst (-1), 1) := by decide +kernel
theorem d_Mo_goesOne_53 : decode cX9_goesOne 53 = .ok (.ixor, 1) := by decide +kernel
theorem d_Mo_goesOne_54 : decode cX9_goesOne 54 = .ok (.iand, 1) := by decide +kernel
theorem d_Mo_goesOne_55 : decode cX9_goesOne 55 = .ok (.iaload, 1) := by decide +kernel
theorem d_Mo_goesOne_56 : decode cX9_goesOne 56 = .ok (.iadd, 1) := by decide +kernel
theorem d_Mo_goesOne_57 : decode cX9_goesOne 57 = .ok (.istore_n 3, 1) := by decide +kernel
theorem d_Mo_goesOne_58 : decode cX9_goesOne 58 = .ok (.iinc 4 1, 3) := by decide +kernel
theorem d_Mo_goesOne_61 : decode cX9_goesOne 61 = .ok (.goto (-43), 3) := by decide +kernel
theorem d_Mo_goesOne_64 : decode cX9_goesOne 64 = .ok (.aload_n 0, 1) := by decide +kernel
theorem d_Mo_goesOne_65 : decode cX9_goesOne 65 = .ok (.getfield 98, 3) := by decide +kernel
theorem d_Mo_goesOne_68 : decode cX9_goesOne 68 = .ok (.iload_n 2, 1) := by decide +kernel
theorem d_Mo_goesOne_69 : decode cX9_goesOne 69 = .ok (.iload_n 3, 1) := by decide +kernel
theorem d_Mo_goesOne_70 : decode cX9_goesOne 70 = .ok (.iastore, 1) := by decide +kernel
theorem d_Mo_goesOne_71 : decode cX9_goesOne 71 = .ok (.iinc 2 1, 3) := by decide +kernel
theorem d_Mo_goesOne_74 : decode cX9_goesOne 74 = .ok (.goto (-72), 3) := by decide +kernel
theorem d_Mo_goesOne_77 : decode cX9_goesOne 77 = .ok (.iconst 0, 1) := by decide +kernel
theorem d_Mo_goesOne_78 : decode cX9_goesOne 78 = .ok (.istore_n 2, 1) := by decide +kernel
theorem d_Mo_goesOne_79 : decode cX9_goesOne 79 = .ok (.iload_n 2, 1) := by decide +kernel
theorem d_Mo_goesOne_80 : decode cX9_goesOne 80 = .ok (.bipush 64, 2) := by decide +kernel
theorem d_Mo_goesOne_82 : decode cX9_goesOne 82 = .ok (.if_icmp .ge 21, 3) := by decide +kernel
theorem d_Mo_goesOne_85 : decode cX9_goesOne 85 = .ok (.aload_n 0, 1) := by decide +kernel
theorem d_Mo_goesOne_86 : decode cX9_goesOne 86 = .ok (.getfield 95, 3) := by decide +kernel
theorem d_Mo_goesOne_89 : decode cX9_goesOne 89 = .ok (.iload_n 2, 1) := by decide +kernel
theorem d_Mo_goesOne_90 : decode cX9_goesOne 90 = .ok (.aload_n 0, 1) := by decide +kernel
theorem d_Mo_goesOne_91 : decode cX9_goesOne 91 = .ok (.getfield 98, 3) := by decide +kernel
theorem d_Mo_goesOne_94 : decode cX9_goesOne 94 = .ok (.iload_n 2, 1) := by decide +kernel
theorem d_Mo_goesOne_95 : decode cX9_goesOne 95 = .ok (.iaload, 1) := by decide +kernel
theorem d_Mo_goesOne_96 : decode cX9_goesOne 96 = .ok (.iastore, 1) := by decide +kernel
theorem d_Mo_goesOne_97 : decode cX9_goesOne 97 = .ok (.iinc 2 1, 3) := by decide +kernel
theorem d_Mo_goesOne_100 : decode cX9_goesOne 100 = .ok (.goto (-21), 3) := by decide +kernel
theorem d_Mo_goesOne_103 : decode cX9_goesOne 103 = .ok (.return_, 1) := by decide +kernel
theorem d_Mo_hands_0 : decode cX9_hands 0 = .ok (.aload_n 0, 1) := by decide +kernel
theorem d_Mo_hands_1 : decode cX9_hands 1 = .ok (.iconst 0, 1) := by decide +kernel
theorem d_Mo_hands_2 : decode cX9_hands 2 = .ok (.putfield 140, 3) := by decide +kernel
theorem d_Mo_hands_5 : decode cX9_hands 5 = .ok (.aload_n 0, 1) := by decide +kernel
theorem d_Mo_hands_6 : decode cX9_hands 6 = .ok (.iload_n 1, 1) := by decide +kernel
theorem d_Mo_hands_7 : decode cX9_hands 7 = .ok (.iconst 0, 1) := by decide +kernel
theorem d_Mo_hands_8 : decode cX9_hands 8 = .ok (.iconst 1, 1) := by decide +kernel
theorem d_Mo_hands_9 : decode cX9_hands 9 = .ok (.invokevirtual 162, 3) := by decide +kernel
theorem d_Mo_hands_12 : decode cX9_hands 12 = .ok (.ifCond .ne 5, 3) := by decide +kernel
theorem d_Mo_hands_15 : decode cX9_hands 15 = .ok (.iconst (-1), 1) := by decide +kernel
theorem d_Mo_hands_16 : decode cX9_hands 16 = .ok (.ireturn, 1) := by decide +kernel
theorem d_Mo_hands_17 : decode cX9_hands 17 = .ok (.iconst 0, 1) := by decide +kernel
theorem d_Mo_hands_18 : decode cX9_hands 18 = .ok (.istore_n 2, 1) := by decide +kernel
theorem d_Mo_hands_19 : decode cX9_hands 19 = .ok (.iload_n 2, 1) := by decide +kernel
theorem d_Mo_hands_20 : decode cX9_hands 20 = .ok (.bipush 64, 2) := by decide +kernel
theorem d_Mo_hands_22 : decode cX9_hands 22 = .ok (.if_icmp .ge 24, 3) := by decide +kernel
theorem d_Mo_hands_25 : decode cX9_hands 25 = .ok (.aload_n 0, 1) := by decide +kernel
theorem d_Mo_hands_26 : decode cX9_hands 26 = .ok (.getfield 95, 3) := by decide +kernel
theorem d_Mo_hands_29 : decode cX9_hands 29 = .ok (.iload_n 2, 1) := by decide +kernel
theorem d_Mo_hands_30 : decode cX9_hands 30 = .ok (.iload_n 2, 1) := by decide +kernel
theorem d_Mo_hands_31 : decode cX9_hands 31 = .ok (.ifCond .ne 7, 3) := by decide +kernel
theorem d_Mo_hands_34 : decode cX9_hands 34 = .ok (.iconst 1, 1) := by decide +kernel
theorem d_Mo_hands_35 : decode cX9_hands 35 = .ok (.goto 4, 3) := by decide +kernel
theorem d_Mo_hands_38 : decode cX9_hands 38 = .ok (.iconst 0, 1) := by decide +kernel
theorem d_Mo_hands_39 : decode cX9_hands 39 = .ok (.iastore, 1) := by decide +kernel
theorem d_Mo_hands_40 : decode cX9_hands 40 = .ok (.iinc 2 1, 3) := by decide +kernel
theorem d_Mo_hands_43 : decode cX9_hands 43 = .ok (.goto (-24), 3) := by decide +kernel
theorem d_Mo_hands_46 : decode cX9_hands 46 = .ok (.iconst 0, 1) := by decide +kernel
theorem d_Mo_hands_47 : decode cX9_hands 47 = .ok (.istore_n 2, 1) := by decide +kernel
theorem d_Mo_hands_48 : decode cX9_hands 48 = .ok (.iload_n 2, 1) := by decide +kernel
theorem d_Mo_hands_49 : decode cX9_hands 49 = .ok (.bipush 6, 2) := by decide +kernel
theorem d_Mo_hands_51 : decode cX9_hands 51 = .ok (.if_icmp .ge 14, 3) := by decide +kernel
theorem d_Mo_hands_54 : decode cX9_hands 54 = .ok (.aload_n 0, 1) := by decide +kernel
theorem d_Mo_hands_55 : decode cX9_hands 55 = .ok (.iload_n 2, 1) := by decide +kernel
theorem d_Mo_hands_56 : decode cX9_hands 56 = .ok (.invokevirtual 424, 3) := by decide +kernel
theorem d_Mo_hands_59 : decode cX9_hands 59 = .ok (.iinc 2 1, 3) := by decide +kernel
theorem d_Mo_hands_62 : decode cX9_hands 62 = .ok (.goto (-14), 3) := by decide +kernel
theorem d_Mo_hands_65 : decode cX9_hands 65 = .ok (.iconst 0, 1) := by decide +kernel
theorem d_Mo_hands_66 : decode cX9_hands 66 = .ok (.istore_n 2, 1) := by decide +kernel
theorem d_Mo_hands_67 : decode cX9_hands 67 = .ok (.iconst 0, 1) := by decide +kernel
theorem d_Mo_hands_68 : decode cX9_hands 68 = .ok (.istore_n 3, 1) := by decide +kernel
theorem d_Mo_hands_69 : decode cX9_hands 69 = .ok (.iconst 0, 1) := by decide +kernel
theorem d_Mo_hands_70 : decode cX9_hands 70 = .ok (.istore 4, 2) := by decide +kernel
theorem d_Mo_hands_72 : decode cX9_hands 72 = .ok (.iload 4, 2) := by decide +kernel
theorem d_Mo_hands_74 : decode cX9_hands 74 = .ok (.bipush 64, 2) := by decide +kernel
theorem d_Mo_hands_76 : decode cX9_hands 76 = .ok (.if_icmp .ge 69, 3) := by decide +kernel
theorem d_Mo_hands_79 : decode cX9_hands 79 = .ok (.aload_n 0, 1) := by decide +kernel
theorem d_Mo_hands_80 : decode cX9_hands 80 = .ok (.getfield 95, 3) := by decide +kernel
theorem d_Mo_hands_83 : decode cX9_hands 83 = .ok (.iload 4, 2) := by decide +kernel
theorem d_Mo_hands_85 : decode cX9_hands 85 = .ok (.iaload, 1) := by decide +kernel
theorem d_Mo_hands_86 : decode cX9_hands 86 = .ok (.ifCond .eq 53, 3) := by decide +kernel
theorem d_Mo_hands_89 : decode cX9_hands 89 = .ok (.aload_n 0, 1) := by decide +kernel
theorem d_Mo_hands_90 : decode cX9_hands 90 = .ok (.iload 4, 2) := by decide +kernel
theorem d_Mo_hands_92 : decode cX9_hands 92 = .ok (.invokevirtual 345, 3) := by decide +kernel
theorem d_Mo_hands_95 : decode cX9_hands 95 = .ok (.iload_n 2, 1) := by decide +kernel
theorem d_Mo_hands_96 : decode cX9_hands 96 = .ok (.if_icmp .ge 6, 3) := by decide +kernel
theorem d_Mo_hands_99 : decode cX9_hands 99 = .ok (.goto 40, 3) := by decide +kernel
theorem d_Mo_hands_102 : decode cX9_hands 102 = .ok (.aload_n 0, 1) := by decide +kernel
theorem d_Mo_hands_103 : decode cX9_hands 103 = .ok (.iload 4, 2) := by decide +kernel
theorem d_Mo_hands_105 : decode cX9_hands 105 = .ok (.invokevirtual 345, 3) := by decide +kernel
theorem d_Mo_hands_108 : decode cX9_hands 108 = .ok (.iload_n 2, 1) := by decide +kernel
theorem d_Mo_hands_109 : decode cX9_hands 109 = .ok (.if_icmp .le 13, 3) := by decide +kernel
theorem d_Mo_hands_112 : decode cX9_hands 112 = .ok (.aload_n 0, 1) := by decide +kernel
theorem d_Mo_hands_113 : decode cX9_hands 113 = .ok (.getfield 95, 3) := by decide +kernel
theorem d_Mo_hands_116 : decode cX9_hands 116 = .ok (.iload 4, 2) := by decide +kernel
theorem d_Mo_hands_118 : decode cX9_hands 118 = .ok (.iaload, 1) := by decide +kernel
theorem d_Mo_hands_119 : decode cX9_hands 119 = .ok (.goto 12, 3) := by decide +kernel
theorem d_Mo_hands_122 : decode cX9_hands 122 = .ok (.iload_n 3, 1) := by decide +kernel
theorem d_Mo_hands_123 : decode cX9_hands 123 = .ok (.aload_n 0, 1) := by decide +kernel
theorem d_Mo_hands_124 : decode cX9_hands 124 = .ok (.getfield 95, 3) := by decide +kernel
theorem d_Mo_hands_127 : decode cX9_hands 127 = .ok (.iload 4, 2) := by decide +kernel
theorem d_Mo_hands_129 : decode cX9_hands 129 = .ok (.iaload, 1) := by decide +kernel
theorem d_Mo_hands_130 : decode cX9_hands 130 = .ok (.iadd, 1) := by decide +kernel
theorem d_Mo_hands_131 : decode cX9_hands 131 = .ok (.istore_n 3, 1) := by decide +kernel
theorem d_Mo_hands_132 : decode cX9_hands 132 = .ok (.aload_n 0, 1) := by decide +kernel
theorem d_Mo_hands_133 : decode cX9_hands 133 = .ok (.iload 4, 2) := by decide +kernel
theorem d_Mo_hands_135 : decode cX9_hands 135 = .ok (.invokevirtual 345, 3) := by decide +kernel
theorem d_Mo_hands_138 : decode cX9_hands 138 = .ok (.istore_n 2, 1) := by decide +kernel
theorem d_Mo_hands_139 : decode cX9_hands 139 = .ok (.iinc 4 1, 3) := by decide +kernel
theorem d_Mo_hands_142 : decode cX9_hands 142 = .ok (.goto (-70), 3) := by decide +kernel
theorem d_Mo_hands_145 : decode cX9_hands 145 = .ok (.iload_n 1, 1) := by decide +kernel
theorem d_Mo_hands_146 : decode cX9_hands 146 = .ok (.ifCond .ne 7, 3) := by decide +kernel
theorem d_Mo_hands_149 : decode cX9_hands 149 = .ok (.iload_n 2, 1) := by decide +kernel
theorem d_Mo_hands_150 : decode cX9_hands 150 = .ok (.goto 4, 3) := by decide +kernel
theorem d_Mo_hands_153 : decode cX9_hands 153 = .ok (.iload_n 3, 1) := by decide +kernel
theorem d_Mo_hands_154 : decode cX9_hands 154 = .ok (.ireturn, 1) := by decide +kernel
theorem d_Mo_weight_0 : decode cX9_weight 0 = .ok (.aload_n 0, 1) := by decide +kernel
theorem d_Mo_weight_1 : decode cX9_weight 1 = .ok (.iconst 0, 1) := by decide +kernel
theorem d_Mo_weight_2 : decode cX9_weight 2 = .ok (.putfield 140, 3) := by decide +kernel
theorem d_Mo_weight_5 : decode cX9_weight 5 = .ok (.iload_n 1, 1) := by decide +kernel
theorem d_Mo_weight_6 : decode cX9_weight 6 = .ok (.iconst (-1), 1) := by decide +kernel
theorem d_Mo_weight_7 : decode cX9_weight 7 = .ok (.if_icmp .ne 10, 3) := by decide +kernel
theorem d_Mo_weight_10 : decode cX9_weight 10 = .ok (.aload_n 0, 1) := by decide +kernel
theorem d_Mo_weight_11 : decode cX9_weight 11 = .ok (.iconst 0, 1) := by decide +kernel
theorem d_Mo_weight_12 : decode cX9_weight 12 = .ok (.putfield 427, 3) := by decide +kernel
theorem d_Mo_weight_15 : decode cX9_weight 15 = .ok (.iconst 0, 1) := by decide +kernel
theorem d_Mo_weight_16 : decode cX9_weight 16 = .ok (.ireturn, 1) := by decide +kernel
theorem d_Mo_weight_17 : decode cX9_weight 17 = .ok (.aload_n 0, 1) := by decide +kernel
theorem d_Mo_weight_18 : decode cX9_weight 18 = .ok (.iload_n 1, 1) := by decide +kernel
theorem d_Mo_weight_19 : decode cX9_weight 19 = .ok (.iconst 1, 1) := by decide +kernel
theorem d_Mo_weight_20 : decode cX9_weight 20 = .ok (.bipush 40, 2) := by decide +kernel
theorem d_Mo_weight_22 : decode cX9_weight 22 = .ok (.invokevirtual 162, 3) := by decide +kernel
theorem d_Mo_weight_25 : decode cX9_weight 25 = .ok (.ifCond .eq 12, 3) := by decide +kernel
theorem d_Mo_weight_28 : decode cX9_weight 28 = .ok (.aload_n 0, 1) := by decide +kernel
theorem d_Mo_weight_29 : decode cX9_weight 29 = .ok (.getfield 427, 3) := by decide +kernel
theorem d_Mo_weight_32 : decode cX9_weight 32 = .ok (.bipush 8, 2) := by decide +kernel
theorem d_Mo_weight_34 : decode cX9_weight 34 = .ok (.if_icmp .ne 5, 3) := by decide +kernel
theorem d_Mo_weight_37 : decode cX9_weight 37 = .ok (.iconst (-1), 1) := by decide +kernel
theorem d_Mo_weight_38 : decode cX9_weight 38 = .ok (.ireturn, 1) := by decide +kernel
theorem d_Mo_weight_39 : decode cX9_weight 39 = .ok (.aload_n 0, 1) := by decide +kernel
theorem d_Mo_weight_40 : decode cX9_weight 40 = .ok (.getfield 101, 3) := by decide +kernel
theorem d_Mo_weight_43 : decode cX9_weight 43 = .ok (.aload_n 0, 1) := by decide +kernel
theorem d_Mo_weight_44 : decode cX9_weight 44 = .ok (.getfield 427, 3) := by decide +kernel
theorem d_Mo_weight_47 : decode cX9_weight 47 = .ok (.iload_n 1, 1) := by decide +kernel
theorem d_Mo_weight_48 : decode cX9_weight 48 = .ok (.iastore, 1) := by decide +kernel
theorem d_Mo_weight_49 : decode cX9_weight 49 = .ok (.aload_n 0, 1) := by decide +kernel
theorem d_Mo_weight_50 : decode cX9_weight 50 = .ok (.aload_n 0, 1) := by decide +kernel
theorem d_Mo_weight_51 : decode cX9_weight 51 = .ok (.getfield 427, 3) := by decide +kernel
theorem d_Mo_weight_54 : decode cX9_weight 54 = .ok (.iconst 1, 1) := by decide +kernel
theorem d_Mo_weight_55 : decode cX9_weight 55 = .ok (.iadd, 1) := by decide +kernel
theorem d_Mo_weight_56 : decode cX9_weight 56 = .ok (.putfield 427, 3) := by decide +kernel
theorem d_Mo_weight_59 : decode cX9_weight 59 = .ok (.aload_n 0, 1) := by decide +kernel
theorem d_Mo_weight_60 : decode cX9_weight 60 = .ok (.getfield 427, 3) := by decide +kernel
theorem d_Mo_weight_63 : decode cX9_weight 63 = .ok (.ireturn, 1) := by decide +kernel
theorem d_Mo_withWeight_0 : decode cX9_withWeight 0 = .ok (.iload_n 1, 1) := by decide +kernel
theorem d_Mo_withWeight_1 : decode cX9_withWeight 1 = .ok (.bipush 100, 2) := by decide +kernel
theorem d_Mo_withWeight_3 : decode cX9_withWeight 3 = .ok (.idiv, 1) := by decide +kernel
theorem d_Mo_withWeight_4 : decode cX9_withWeight 4 = .ok (.istore 4, 2) := by decide +kernel
theorem d_Mo_withWeight_6 : decode cX9_withWeight 6 = .ok (.iload_n 1, 1) := by decide +kernel
theorem d_Mo_withWeight_7 : decode cX9_withWeight 7 = .ok (.bipush 100, 2) := by decide +kernel
theorem d_Mo_withWeight_9 : decode cX9_withWeight 9 = .ok (.irem, 1) := by decide +kernel
theorem d_Mo_withWeight_10 : decode cX9_withWeight 10 = .ok (.istore 5, 2) := by decide +kernel
theorem d_Mo_withWeight_12 : decode cX9_withWeight 12 = .ok (.iload 4, 2) := by decide +kernel
theorem d_Mo_withWeight_14 : decode cX9_withWeight 14 = .ok (.ifCond .le 24, 3) := by decide +kernel
theorem d_Mo_withWeight_17 : decode cX9_withWeight 17 = .ok (.iload 5, 2) := by decide +kernel
theorem d_Mo_withWeight_19 : decode cX9_withWeight 19 = .ok (.iload_n 2, 1) := by decide +kernel
theorem d_Mo_withWeight_20 : decode cX9_withWeight 20 = .ok (.iadd, 1) := by decide +kernel
theorem d_Mo_withWeight_21 : decode cX9_withWeight 21 = .ok (.iload_n 3, 1) := by decide +kernel
theorem d_Mo_withWeight_22 : decode cX9_withWeight 22 = .ok (.if_icmp .gt 16, 3) := by decide +kernel
theorem d_Mo_withWeight_25 : decode cX9_withWeight 25 = .ok (.bipush 100, 2) := by decide +kernel
theorem d_Mo_withWeight_27 : decode cX9_withWeight 27 = .ok (.iload 4, 2) := by decide +kernel
theorem d_Mo_withWeight_29 : decode cX9_withWeight 29 = .ok (.imul, 1) := by decide +kernel
theorem d_Mo_withWeight_30 : decode cX9_withWeight 30 = .ok (.iload 5, 2) := by decide +kernel
theorem d_Mo_withWeight_32 : decode cX9_withWeight 32 = .ok (.iadd, 1) := by decide +kernel
theorem d_Mo_withWeight_33 : decode cX9_withWeight 33 = .ok (.iload_n 2, 1) := by decide +kernel
theorem d_Mo_withWeight_34 : decode cX9_withWeight 34 = .ok (.iadd, 1) := by decide +kernel
theorem d_Mo_withWeight_35 : decode cX9_withWeight 35 = .ok (.goto 12, 3) := by decide +kernel
theorem d_Mo_withWeight_38 : decode cX9_withWeight 38 = .ok (.bipush 100, 2) := by decide +kernel
theorem d_Mo_withWeight_40 : decode cX9_withWeight 40 = .ok (.iload 4, 2) := by decide +kernel
theorem d_Mo_withWeight_42 : decode cX9_withWeight 42 = .ok (.iconst 1, 1) := by decide +kernel
theorem d_Mo_withWeight_43 : decode cX9_withWeight 43 = .ok (.iadd, 1) := by decide +kernel
theorem d_Mo_withWeight_44 : decode cX9_withWeight 44 = .ok (.imul, 1) := by decide +kernel
theorem d_Mo_withWeight_45 : decode cX9_withWeight 45 = .ok (.iload_n 2, 1) := by decide +kernel
theorem d_Mo_withWeight_46 : decode cX9_withWeight 46 = .ok (.iadd, 1) := by decide +kernel
theorem d_Mo_withWeight_47 : decode cX9_withWeight 47 = .ok (.ireturn, 1) := by decide +kernel
theorem d_Mo_fewestCrates_0 : decode cX9_fewestCrates 0 = .ok (.iconst 0, 1) := by decide +kernel
theorem d_Mo_fewestCrates_1 : decode cX9_fewestCrates 1 = .ok (.istore_n 2, 1) := by decide +kernel
theorem d_Mo_fewestCrates_2 : decode cX9_fewestCrates 2 = .ok (.iload_n 2, 1) := by decide +kernel
theorem d_Mo_fewestCrates_3 : decode cX9_fewestCrates 3 = .ok (.aload_n 0, 1) := by decide +kernel
theorem d_Mo_fewestCrates_4 : decode cX9_fewestCrates 4 = .ok (.getfield 427, 3) := by decide +kernel
theorem d_Mo_fewestCrates_7 : decode cX9_fewestCrates 7 = .ok (.if_icmp .ge 21, 3) := by decide +kernel
theorem d_Mo_fewestCrates_10 : decode cX9_fewestCrates 10 = .ok (.aload_n 0, 1) := by decide +kernel
theorem d_Mo_fewestCrates_11 : decode cX9_fewestCrates 11 = .ok (.getfield 101, 3) := by decide +kernel
theorem d_Mo_fewestCrates_14 : decode cX9_fewestCrates 14 = .ok (.iload_n 2, 1) := by decide +kernel
theorem d_Mo_fewestCrates_15 : decode cX9_fewestCrates 15 = .ok (.iaload, 1) := by decide +kernel
theorem d_Mo_fewestCrates_16 : decode cX9_fewestCrates 16 = .ok (.iload_n 1, 1) := by decide +kernel
theorem d_Mo_fewestCrates_17 : decode cX9_fewestCrates 17 = .ok (.if_icmp .le 5, 3) := by decide +kernel
theorem d_Mo_fewestCrates_20 : decode cX9_fewestCrates 20 = .ok (.iconst (-1), 1) := by decide +kernel
theorem d_Mo_fewestCrates_21 : decode cX9_fewestCrates 21 = .ok (.ireturn, 1) := by decide +kernel
theorem d_Mo_fewestCrates_22 : decode cX9_fewestCrates 22 = .ok (.iinc 2 1, 3) := by decide +kernel
theorem d_Mo_fewestCrates_25 : decode cX9_fewestCrates 25 = .ok (.goto (-23), 3) := by decide +kernel
theorem d_Mo_fewestCrates_28 : decode cX9_fewestCrates 28 = .ok (.aload_n 0, 1) := by decide +kernel
theorem d_Mo_fewestCrates_29 : decode cX9_fewestCrates 29 = .ok (.getfield 104, 3) := by decide +kernel
theorem d_Mo_fewestCrates_32 : decode cX9_fewestCrates 32 = .ok (.iconst 0, 1) := by decide +kernel
theorem d_Mo_fewestCrates_33 : decode cX9_fewestCrates 33 = .ok (.iconst 0, 1) := by decide +kernel
theorem d_Mo_fewestCrates_34 : decode cX9_fewestCrates 34 = .ok (.iastore, 1) := by decide +kernel
theorem d_Mo_fewestCrates_35 : decode cX9_fewestCrates 35 = .ok (.iconst 1, 1) := by decide +kernel
theorem d_Mo_fewestCrates_36 : decode cX9_fewestCrates 36 = .ok (.istore_n 2, 1) := by decide +kernel
theorem d_Mo_fewestCrates_37 : decode cX9_fewestCrates 37 = .ok (.iload_n 2, 1) := by decide +kernel
theorem d_Mo_fewestCrates_38 : decode cX9_fewestCrates 38 = .ok (.iconst 1, 1) := by decide +kernel
theorem d_Mo_fewestCrates_39 : decode cX9_fewestCrates 39 = .ok (.aload_n 0, 1) := by decide +kernel
theorem d_Mo_fewestCrates_40 : decode cX9_fewestCrates 40 = .ok (.getfield 427, 3) := by decide +kernel
theorem d_Mo_fewestCrates_43 : decode cX9_fewestCrates 43 = .ok (.ishl, 1) := by decide +kernel
theorem d_Mo_fewestCrates_44 : decode cX9_fewestCrates 44 = .ok (.if_icmp .ge 82, 3) := by decide +kernel
theorem d_Mo_fewestCrates_47 : decode cX9_fewestCrates 47 = .ok (.aload_n 0, 1) := by decide +kernel
theorem d_Mo_fewestCrates_48 : decode cX9_fewestCrates 48 = .ok (.getfield 104, 3) := by decide +kernel
theorem d_Mo_fewestCrates_51 : decode cX9_fewestCrates 51 = .ok (.iload_n 2, 1) := by decide +kernel
theorem d_Mo_fewestCrates_52 : decode cX9_fewestCrates 52 = .ok (.ldc_w 430, 3) := by decide +kernel
theorem d_Mo_fewestCrates_55 : decode cX9_fewestCrates 55 = .ok (.iastore, 1) := by decide +kernel
theorem d_Mo_fewestCrates_56 : decode cX9_fewestCrates 56 = .ok (.iconst 0, 1) := by decide +kernel
theorem d_Mo_fewestCrates_57 : decode cX9_fewestCrates 57 = .ok (.istore_n 3, 1) := by decide +kernel
theorem d_Mo_fewestCrates_58 : decode cX9_fewestCrates 58 = .ok (.iload_n 3, 1) := by decide +kernel
theorem d_Mo_fewestCrates_59 : decode cX9_fewestCrates 59 = .ok (.aload_n 0, 1) := by decide +kernel
theorem d_Mo_fewestCrates_60 : decode cX9_fewestCrates 60 = .ok (.getfield 427, 3) := by decide +kernel
theorem d_Mo_fewestCrates_63 : decode cX9_fewestCrates 63 = .ok (.if_icmp .ge 57, 3) := by decide +kernel
theorem d_Mo_fewestCrates_66 : decode cX9_fewestCrates 66 = .ok (.aload_n 0, 1) := by decide +kernel
theorem d_Mo_fewestCrates_67 : decode cX9_fewestCrates 67 = .ok (.iload_n 2, 1) := by decide +kernel
theorem d_Mo_fewestCrates_68 : decode cX9_fewestCrates 68 = .ok (.iload_n 3, 1) := by decide +kernel
theorem d_Mo_fewestCrates_69 : decode cX9_fewestCrates 69 = .ok (.invokevirtual 158, 3) := by decide +kernel
theorem d_Mo_fewestCrates_72 : decode cX9_fewestCrates 72 = .ok (.ifCond .eq 42, 3) := by decide +kernel
theorem d_Mo_fewestCrates_75 : decode cX9_fewestCrates 75 = .ok (.aload_n 0, 1) := by decide +kernel
theorem d_Mo_fewestCrates_76 : decode cX9_fewestCrates 76 = .ok (.getfield 104, 3) := by decide +kernel
theorem d_Mo_fewestCrates_79 : decode cX9_fewestCrates 79 = .ok (.iload_n 2, 1) := by decide +kernel
theorem d_Mo_fewestCrates_80 : decode cX9_fewestCrates 80 = .ok (.aload_n 0, 1) := by decide +kernel
theorem d_Mo_fewestCrates_81 : decode cX9_fewestCrates 81 = .ok (.aload_n 0, 1) := by decide +kernel
theorem d_Mo_fewestCrates_82 : decode cX9_fewestCrates 82 = .ok (.getfield 104, 3) := by decide +kernel
theorem d_Mo_fewestCrates_85 : decode cX9_fewestCrates 85 = .ok (.iload_n 2, 1) := by decide +kernel
theorem d_Mo_fewestCrates_86 : decode cX9_fewestCrates 86 = .ok (.iaload, 1) := by decide +kernel
theorem d_Mo_fewestCrates_87 : decode cX9_fewestCrates 87 = .ok (.aload_n 0, 1) := by decide +kernel
theorem d_Mo_fewestCrates_88 : decode cX9_fewestCrates 88 = .ok (.aload_n 0, 1) := by decide +kernel
theorem d_Mo_fewestCrates_89 : decode cX9_fewestCrates 89 = .ok (.getfield 104, 3) := by decide +kernel
theorem d_Mo_fewestCrates_92 : decode cX9_fewestCrates 92 = .ok (.iload_n 2, 1) := by decide +kernel
theorem d_Mo_fewestCrates_93 : decode cX9_fewestCrates 93 = .ok (.iconst 1, 1) := by decide +kernel
theorem d_Mo_fewestCrates_94 : decode cX9_fewestCrates 94 = .ok (.iload_n 3, 1) := by decide +kernel
theorem d_Mo_fewestCrates_95 : decode cX9_fewestCrates 95 = .ok (.ishl, 1) := by decide +kernel
theorem d_Mo_fewestCrates_96 : decode cX9_fewestCrates 96 = .ok (.iconst (-1), 1) := by decide +kernel
theorem d_Mo_fewestCrates_97 : decode cX9_fewestCrates 97 = .ok (.ixor, 1) := by decide +kernel
theorem d_Mo_fewestCrates_98 : decode cX9_fewestCrates 98 = .ok (.iand, 1) := by decide +kernel
theorem d_Mo_fewestCrates_99 : decode cX9_fewestCrates 99 = .ok (.iaload, 1) := by decide +kernel
theorem d_Mo_fewestCrates_100 : decode cX9_fewestCrates 100 = .ok (.aload_n 0, 1) := by decide +kernel
theorem d_Mo_fewestCrates_101 : decode cX9_fewestCrates 101 = .ok (.getfield 101, 3) := by decide +kernel
theorem d_Mo_fewestCrates_104 : decode cX9_fewestCrates 104 = .ok (.iload_n 3, 1) := by decide +kernel
theorem d_Mo_fewestCrates_105 : decode cX9_fewestCrates 105 = .ok (.iaload, 1) := by decide +kernel
theorem d_Mo_fewestCrates_106 : decode cX9_fewestCrates 106 = .ok (.iload_n 1, 1) := by decide +kernel
theorem d_Mo_fewestCrates_107 : decode cX9_fewestCrates 107 = .ok (.invokevirtual 431, 3) := by decide +kernel
theorem d_Mo_fewestCrates_110 : decode cX9_fewestCrates 110 = .ok (.invokevirtual 369, 3) := by decide +kernel
theorem d_Mo_fewestCrates_113 : decode cX9_fewestCrates 113 = .ok (.iastore, 1) := by decide +kernel
theorem d_Mo_fewestCrates_114 : decode cX9_fewestCrates 114 = .ok (.iinc 3 1, 3) := by decide +kernel
theorem d_Mo_fewestCrates_117 : decode cX9_fewestCrates 117 = .ok (.goto (-59), 3) := by decide +kernel
theorem d_Mo_fewestCrates_120 : decode cX9_fewestCrates 120 = .ok (.iinc 2 1, 3) := by decide +kernel
theorem d_Mo_fewestCrates_123 : decode cX9_fewestCrates 123 = .ok (.goto (-86), 3) := by decide +kernel
theorem d_Mo_fewestCrates_126 : decode cX9_fewestCrates 126 = .ok (.aload_n 0, 1) := by decide +kernel
theorem d_Mo_fewestCrates_127 : decode cX9_fewestCrates 127 = .ok (.getfield 104, 3) := by decide +kernel
theorem d_Mo_fewestCrates_130 : decode cX9_fewestCrates 130 = .ok (.iconst 1, 1) := by decide +kernel
theorem d_Mo_fewestCrates_131 : decode cX9_fewestCrates 131 = .ok (.aload_n 0, 1) := by decide +kernel
theorem d_Mo_fewestCrates_132 : decode cX9_fewestCrates 132 = .ok (.getfield 427, 3) := by decide +kernel
theorem d_Mo_fewestCrates_135 : decode cX9_fewestCrates 135 = .ok (.ishl, 1) := by decide +kernel
theorem d_Mo_fewestCrates_136 : decode cX9_fewestCrates 136 = .ok (.iconst 1, 1) := by decide +kernel
theorem d_Mo_fewestCrates_137 : decode cX9_fewestCrates 137 = .ok (.isub, 1) := by decide +kernel
theorem d_Mo_fewestCrates_138 : decode cX9_fewestCrates 138 = .ok (.iaload, 1) := by decide +kernel
theorem d_Mo_fewestCrates_139 : decode cX9_fewestCrates 139 = .ok (.bipush 100, 2) := by decide +kernel
theorem d_Mo_fewestCrates_141 : decode cX9_fewestCrates 141 = .ok (.idiv, 1) := by decide +kernel
theorem d_Mo_fewestCrates_142 : decode cX9_fewestCrates 142 = .ok (.ireturn, 1) := by decide +kernel
theorem d_Mo_mostInOne_0 : decode cX9_mostInOne 0 = .ok (.iconst 0, 1) := by decide +kernel
theorem d_Mo_mostInOne_1 : decode cX9_mostInOne 1 = .ok (.istore_n 2, 1) := by decide +kernel
theorem d_Mo_mostInOne_2 : decode cX9_mostInOne 2 = .ok (.iconst 0, 1) := by decide +kernel
theorem d_Mo_mostInOne_3 : decode cX9_mostInOne 3 = .ok (.istore_n 3, 1) := by decide +kernel
theorem d_Mo_mostInOne_4 : decode cX9_mostInOne 4 = .ok (.iload_n 3, 1) := by decide +kernel
theorem d_Mo_mostInOne_5 : decode cX9_mostInOne 5 = .ok (.iconst 1, 1) := by decide +kernel
theorem d_Mo_mostInOne_6 : decode cX9_mostInOne 6 = .ok (.aload_n 0, 1) := by decide +kernel
theorem d_Mo_mostInOne_7 : decode cX9_mostInOne 7 = .ok (.getfield 427, 3) := by decide +kernel
theorem d_Mo_mostInOne_10 : decode cX9_mostInOne 10 = .ok (.ishl, 1) := by decide +kernel
theorem d_Mo_mostInOne_11 : decode cX9_mostInOne 11 = .ok (.if_icmp .ge 69, 3) := by decide +kernel
theorem d_Mo_mostInOne_14 : decode cX9_mostInOne 14 = .ok (.iconst 0, 1) := by decide +kernel
theorem d_Mo_mostInOne_15 : decode cX9_mostInOne 15 = .ok (.istore 4, 2) := by decide +kernel
theorem d_Mo_mostInOne_17 : decode cX9_mostInOne 17 = .ok (.iconst 0, 1) := by decide +kernel
theorem d_Mo_mostInOne_18 : decode cX9_mostInOne 18 = .ok (.istore 5, 2) := by decide +kernel
theorem d_Mo_mostInOne_20 : decode cX9_mostInOne 20 = .ok (.iload 5, 2) := by decide +kernel
theorem d_Mo_mostInOne_22 : decode cX9_mostInOne 22 = .ok (.aload_n 0, 1) := by decide +kernel
theorem d_Mo_mostInOne_23 : decode cX9_mostInOne 23 = .ok (.getfield 427, 3) := by decide +kernel
theorem d_Mo_mostInOne_26 : decode cX9_mostInOne 26 = .ok (.if_icmp .ge 31, 3) := by decide +kernel
theorem d_Mo_mostInOne_29 : decode cX9_mostInOne 29 = .ok (.aload_n 0, 1) := by decide +kernel
theorem d_Mo_mostInOne_30 : decode cX9_mostInOne 30 = .ok (.iload_n 3, 1) := by decide +kernel
theorem d_Mo_mostInOne_31 : decode cX9_mostInOne 31 = .ok (.iload 5, 2) := by decide +kernel
theorem d_Mo_mostInOne_33 : decode cX9_mostInOne 33 = .ok (.invokevirtual 158, 3) := by decide +kernel
theorem d_Mo_mostInOne_36 : decode cX9_mostInOne 36 = .ok (.ifCond .eq 15, 3) := by decide +kernel
theorem d_Mo_mostInOne_39 : decode cX9_mostInOne 39 = .ok (.iload 4, 2) := by decide +kernel
theorem d_Mo_mostInOne_41 : decode cX9_mostInOne 41 = .ok (.aload_n 0, 1) := by decide +kernel
theorem d_Mo_mostInOne_42 : decode cX9_mostInOne 42 = .ok (.getfield 101, 3) := by decide +kernel
theorem d_Mo_mostInOne_45 : decode cX9_mostInOne 45 = .ok (.iload 5, 2) := by decide +kernel
theorem d_Mo_mostInOne_47 : decode cX9_mostInOne 47 = .ok (.iaload, 1) := by decide +kernel
theorem d_Mo_mostInOne_48 : decode cX9_mostInOne 48 = .ok (.iadd, 1) := by decide +kernel
theorem d_Mo_mostInOne_49 : decode cX9_mostInOne 49 = .ok (.istore 4, 2) := by decide +kernel
theorem d_Mo_mostInOne_51 : decode cX9_mostInOne 51 = .ok (.iinc 5 1, 3) := by decide +kernel
theorem d_Mo_mostInOne_54 : decode cX9_mostInOne 54 = .ok (.goto (-34), 3) := by decide +kernel
theorem d_Mo_mostInOne_57 : decode cX9_mostInOne 57 = .ok (.iload 4, 2) := by decide +kernel
theorem d_Mo_mostInOne_59 : decode cX9_mostInOne 59 = .ok (.iload_n 1, 1) := by decide +kernel
theorem d_Mo_mostInOne_60 : decode cX9_mostInOne 60 = .ok (.if_icmp .gt 14, 3) := by decide +kernel
theorem d_Mo_mostInOne_63 : decode cX9_mostInOne 63 = .ok (.aload_n 0, 1) := by decide +kernel
theorem d_Mo_mostInOne_64 : decode cX9_mostInOne 64 = .ok (.iload_n 2, 1) := by decide +kernel
theorem d_Mo_mostInOne_65 : decode cX9_mostInOne 65 = .ok (.aload_n 0, 1) := by decide +kernel
theorem d_Mo_mostInOne_66 : decode cX9_mostInOne 66 = .ok (.iload_n 3, 1) := by decide +kernel
theorem d_Mo_mostInOne_67 : decode cX9_mostInOne 67 = .ok (.invokevirtual 345, 3) := by decide +kernel
theorem d_Mo_mostInOne_70 : decode cX9_mostInOne 70 = .ok (.invokevirtual 339, 3) := by decide +kernel
theorem d_Mo_mostInOne_73 : decode cX9_mostInOne 73 = .ok (.istore_n 2, 1) := by decide +kernel
theorem d_Mo_mostInOne_74 : decode cX9_mostInOne 74 = .ok (.iinc 3 1, 3) := by decide +kernel
theorem d_Mo_mostInOne_77 : decode cX9_mostInOne 77 = .ok (.goto (-73), 3) := by decide +kernel
theorem d_Mo_mostInOne_80 : decode cX9_mostInOne 80 = .ok (.iload_n 2, 1) := by decide +kernel
theorem d_Mo_mostInOne_81 : decode cX9_mostInOne 81 = .ok (.ireturn, 1) := by decide +kernel
theorem d_Mo_crates_0 : decode cX9_crates 0 = .ok (.aload_n 0, 1) := by decide +kernel
theorem d_Mo_crates_1 : decode cX9_crates 1 = .ok (.iconst 0, 1) := by decide +kernel
theorem d_Mo_crates_2 : decode cX9_crates 2 = .ok (.putfield 140, 3) := by decide +kernel
theorem d_Mo_crates_5 : decode cX9_crates 5 = .ok (.aload_n 0, 1) := by decide +kernel
theorem d_Mo_crates_6 : decode cX9_crates 6 = .ok (.iload_n 1, 1) := by decide +kernel
theorem d_Mo_crates_7 : decode cX9_crates 7 = .ok (.iconst 1, 1) := by decide +kernel
theorem d_Mo_crates_8 : decode cX9_crates 8 = .ok (.bipush 99, 2) := by decide +kernel
theorem d_Mo_crates_10 : decode cX9_crates 10 = .ok (.invokevirtual 162, 3) := by decide +kernel
theorem d_Mo_crates_13 : decode cX9_crates 13 = .ok (.ifCond .eq 13, 3) := by decide +kernel
theorem d_Mo_crates_16 : decode cX9_crates 16 = .ok (.aload_n 0, 1) := by decide +kernel
theorem d_Mo_crates_17 : decode cX9_crates 17 = .ok (.iload_n 2, 1) := by decide +kernel
theorem d_Mo_crates_18 : decode cX9_crates 18 = .ok (.iconst 0, 1) := by decide +kernel
theorem d_Mo_crates_19 : decode cX9_crates 19 = .ok (.iconst 1, 1) := by decide +kernel
theorem d_Mo_crates_20 : decode cX9_crates 20 = .ok (.invokevirtual 162, 3) := by decide +kernel
theorem d_Mo_crates_23 : decode cX9_crates 23 = .ok (.ifCond .ne 5, 3) := by decide +kernel
theorem d_Mo_crates_26 : decode cX9_crates 26 = .ok (.iconst (-1), 1) := by decide +kernel
theorem d_Mo_crates_27 : decode cX9_crates 27 = .ok (.ireturn, 1) := by decide +kernel
theorem d_Mo_crates_28 : decode cX9_crates 28 = .ok (.iload_n 2, 1) := by decide +kernel
theorem d_Mo_crates_29 : decode cX9_crates 29 = .ok (.ifCond .ne 11, 3) := by decide +kernel
theorem d_Mo_crates_32 : decode cX9_crates 32 = .ok (.aload_n 0, 1) := by decide +kernel
theorem d_Mo_crates_33 : decode cX9_crates 33 = .ok (.iload_n 1, 1) := by decide +kernel
theorem d_Mo_crates_34 : decode cX9_crates 34 = .ok (.invokevirtual 434, 3) := by decide +kernel
theorem d_Mo_crates_37 : decode cX9_crates 37 = .ok (.goto 8, 3) := by decide +kernel
theorem d_Mo_crates_40 : decode cX9_crates 40 = .ok (.aload_n 0, 1) := by decide +kernel
theorem d_Mo_crates_41 : decode cX9_crates 41 = .ok (.iload_n 1, 1) := by decide +kernel
theorem d_Mo_crates_42 : decode cX9_crates 42 = .ok (.invokevirtual 437, 3) := by decide +kernel
theorem d_Mo_crates_45 : decode cX9_crates 45 = .ok (.ireturn, 1) := by decide +kernel
theorem d_Mo_bag_0 : decode cX9_bag 0 = .ok (.aload_n 0, 1) := by decide +kernel
theorem d_Mo_bag_1 : decode cX9_bag 1 = .ok (.iconst 0, 1) := by decide +kernel
theorem d_Mo_bag_2 : decode cX9_bag 2 = .ok (.putfield 140, 3) := by decide +kernel
theorem d_Mo_bag_5 : decode cX9_bag 5 = .ok (.iload_n 1, 1) := by decide +kernel
theorem d_Mo_bag_6 : decode cX9_bag 6 = .ok (.iconst (-1), 1) := by decide +kernel
theorem d_Mo_bag_7 : decode cX9_bag 7 = .ok (.if_icmp .ne 15, 3) := by decide +kernel
theorem d_Mo_bag_10 : decode cX9_bag 10 = .ok (.aload_n 0, 1) := by decide +kernel
theorem d_Mo_bag_11 : decode cX9_bag 11 = .ok (.iconst 0, 1) := by decide +kernel
theorem d_Mo_bag_12 : decode cX9_bag 12 = .ok (.putfield 440, 3) := by decide +kernel
theorem d_Mo_bag_15 : decode cX9_bag 15 = .ok (.aload_n 0, 1) := by decide +kernel
theorem d_Mo_bag_16 : decode cX9_bag 16 = .ok (.iconst 0, 1) := by decide +kernel
theorem d_Mo_bag_17 : decode cX9_bag 17 = .ok (.putfield 443, 3) := by decide +kernel
theorem d_Mo_bag_20 : decode cX9_bag 20 = .ok (.iconst 0, 1) := by decide +kernel
theorem d_Mo_bag_21 : decode cX9_bag 21 = .ok (.ireturn, 1) := by decide +kernel
theorem d_Mo_bag_22 : decode cX9_bag 22 = .ok (.aload_n 0, 1) := by decide +kernel
theorem d_Mo_bag_23 : decode cX9_bag 23 = .ok (.iload_n 1, 1) := by decide +kernel
theorem d_Mo_bag_24 : decode cX9_bag 24 = .ok (.iconst 1, 1) := by decide +kernel
theorem d_Mo_bag_25 : decode cX9_bag 25 = .ok (.bipush 99, 2) := by decide +kernel
theorem d_Mo_bag_27 : decode cX9_bag 27 = .ok (.invokevirtual 162, 3) := by decide +kernel
theorem d_Mo_bag_30 : decode cX9_bag 30 = .ok (.ifCond .eq 12, 3) := by decide +kernel
theorem d_Mo_bag_33 : decode cX9_bag 33 = .ok (.aload_n 0, 1) := by decide +kernel
theorem d_Mo_bag_34 : decode cX9_bag 34 = .ok (.getfield 440, 3) := by decide +kernel
theorem d_Mo_bag_37 : decode cX9_bag 37 = .ok (.bipush 10, 2) := by decide +kernel
theorem d_Mo_bag_39 : decode cX9_bag 39 = .ok (.if_icmp .ne 5, 3) := by decide +kernel
theorem d_Mo_bag_42 : decode cX9_bag 42 = .ok (.iconst (-1), 1) := by decide +kernel
theorem d_Mo_bag_43 : decode cX9_bag 43 = .ok (.ireturn, 1) := by decide +kernel
theorem d_Mo_bag_44 : decode cX9_bag 44 = .ok (.aload_n 0, 1) := by decide +kernel
theorem d_Mo_bag_45 : decode cX9_bag 45 = .ok (.getfield 107, 3) := by decide +kernel
theorem d_Mo_bag_48 : decode cX9_bag 48 = .ok (.aload_n 0, 1) := by decide +kernel
theorem d_Mo_bag_49 : decode cX9_bag 49 = .ok (.getfield 440, 3) := by decide +kernel
theorem d_Mo_bag_52 : decode cX9_bag 52 = .ok (.iload_n 1, 1) := by decide +kernel
theorem d_Mo_bag_53 : decode cX9_bag 53 = .ok (.iastore, 1) := by decide +kernel
theorem d_Mo_bag_54 : decode cX9_bag 54 = .ok (.aload_n 0, 1) := by decide +kernel
theorem d_Mo_bag_55 : decode cX9_bag 55 = .ok (.aload_n 0, 1) := by decide +kernel
theorem d_Mo_bag_56 : decode cX9_bag 56 = .ok (.getfield 440, 3) := by decide +kernel
theorem d_Mo_bag_59 : decode cX9_bag 59 = .ok (.iconst 1, 1) := by decide +kernel
theorem d_Mo_bag_60 : decode cX9_bag 60 = .ok (.iadd, 1) := by decide +kernel
theorem d_Mo_bag_61 : decode cX9_bag 61 = .ok (.putfield 440, 3) := by decide +kernel
theorem d_Mo_bag_64 : decode cX9_bag 64 = .ok (.aload_n 0, 1) := by decide +kernel
theorem d_Mo_bag_65 : decode cX9_bag 65 = .ok (.getfield 440, 3) := by decide +kernel
theorem d_Mo_bag_68 : decode cX9_bag 68 = .ok (.ireturn, 1) := by decide +kernel
theorem d_Mo_weighed_0 : decode cX9_weighed 0 = .ok (.aload_n 0, 1) := by decide +kernel
theorem d_Mo_weighed_1 : decode cX9_weighed 1 = .ok (.iconst 0, 1) := by decide +kernel
theorem d_Mo_weighed_2 : decode cX9_weighed 2 = .ok (.putfield 140, 3) := by decide +kernel
theorem d_Mo_weighed_5 : decode cX9_weighed 5 = .ok (.aload_n 0, 1) := by decide +kernel
theorem d_Mo_weighed_6 : decode cX9_weighed 6 = .ok (.iload_n 1, 1) := by decide +kernel
theorem d_Mo_weighed_7 : decode cX9_weighed 7 = .ok (.iconst 0, 1) := by decide +kernel
theorem d_Mo_weighed_8 : decode cX9_weighed 8 = .ok (.iconst 1, 1) := by decide +kernel
theorem d_Mo_weighed_9 : decode cX9_weighed 9 = .ok (.aload_n 0, 1) := by decide +kernel
theorem d_Mo_weighed_10 : decode cX9_weighed 10 = .ok (.getfield 440, 3) := by decide +kernel
theorem d_Mo_weighed_13 : decode cX9_weighed 13 = .ok (.ishl, 1) := by decide +kernel
theorem d_Mo_weighed_14 : decode cX9_weighed 14 = .ok (.iconst 1, 1) := by decide +kernel
theorem d_Mo_weighed_15 : decode cX9_weighed 15 = .ok (.isub, 1) := by decide +kernel
theorem d_Mo_weighed_16 : decode cX9_weighed 16 = .ok (.invokevirtual 162, 3) := by decide +kernel
theorem d_Mo_weighed_19 : decode cX9_weighed 19 = .ok (.ifCond .eq 24, 3) := by decide +kernel
theorem d_Mo_weighed_22 : decode cX9_weighed 22 = .ok (.aload_n 0, 1) := by decide +kernel
theorem d_Mo_weighed_23 : decode cX9_weighed 23 = .ok (.iload_n 2, 1) := by decide +kernel
theorem d_Mo_weighed_24 : decode cX9_weighed 24 = .ok (.iconst 0, 1) := by decide +kernel
theorem d_Mo_weighed_25 : decode cX9_weighed 25 = .ok (.sipush 9999, 3) := by decide +kernel
theorem d_Mo_weighed_28 : decode cX9_weighed 28 = .ok (.invokevirtual 162, 3) := by decide +kernel
theorem d_Mo_weighed_31 : decode cX9_weighed 31 = .ok (.ifCond .eq 12, 3) := by decide +kernel
theorem d_Mo_weighed_34 : decode cX9_weighed 34 = .ok (.aload_n 0, 1) := by decide +kernel
theorem d_Mo_weighed_35 : decode cX9_weighed 35 = .ok (.getfield 443, 3) := by decide +kernel
theorem d_Mo_weighed_38 : decode cX9_weighed 38 = .ok (.bipush 6, 2) := by decide +kernel
theorem d_Mo_weighed_40 : decode cX9_weighed 40 = .ok (.if_icmp .ne 5, 3) := by decide +kernel
theorem d_Mo_weighed_43 : decode cX9_weighed 43 = .ok (.iconst (-1), 1) := by decide +kernel
theorem d_Mo_weighed_44 : decode cX9_weighed 44 = .ok (.ireturn, 1) := by decide +kernel
theorem d_Mo_weighed_45 : decode cX9_weighed 45 = .ok (.aload_n 0, 1) := by decide +kernel
theorem d_Mo_weighed_46 : decode cX9_weighed 46 = .ok (.getfield 110, 3) := by decide +kernel
theorem d_Mo_weighed_49 : decode cX9_weighed 49 = .ok (.aload_n 0, 1) := by decide +kernel
theorem d_Mo_weighed_50 : decode cX9_weighed 50 = .ok (.getfield 443, 3) := by decide +kernel
theorem d_Mo_weighed_53 : decode cX9_weighed 53 = .ok (.iload_n 1, 1) := by decide +kernel
theorem d_Mo_weighed_54 : decode cX9_weighed 54 = .ok (.iastore, 1) := by decide +kernel
theorem d_Mo_weighed_55 : decode cX9_weighed 55 = .ok (.aload_n 0, 1) := by decide +kernel
theorem d_Mo_weighed_56 : decode cX9_weighed 56 = .ok (.getfield 113, 3) := by decide +kernel
theorem d_Mo_weighed_59 : decode cX9_weighed 59 = .ok (.aload_n 0, 1) := by decide +kernel
theorem d_Mo_weighed_60 : decode cX9_weighed 60 = .ok (.getfield 443, 3) := by decide +kernel
theorem d_Mo_weighed_63 : decode cX9_weighed 63 = .ok (.iload_n 2, 1) := by decide +kernel
theorem d_Mo_weighed_64 : decode cX9_weighed 64 = .ok (.iastore, 1) := by decide +kernel
theorem d_Mo_weighed_65 : decode cX9_weighed 65 = .ok (.aload_n 0, 1) := by decide +kernel
theorem d_Mo_weighed_66 : decode cX9_weighed 66 = .ok (.aload_n 0, 1) := by decide +kernel
theorem d_Mo_weighed_67 : decode cX9_weighed 67 = .ok (.getfield 443, 3) := by decide +kernel
theorem d_Mo_weighed_70 : decode cX9_weighed 70 = .ok (.iconst 1, 1) := by decide +kernel
theorem d_Mo_weighed_71 : decode cX9_weighed 71 = .ok (.iadd, 1) := by decide +kernel
theorem d_Mo_weighed_72 : decode cX9_weighed 72 = .ok (.putfield 443, 3) := by decide +kernel
theorem d_Mo_weighed_75 : decode cX9_weighed 75 = .ok (.aload_n 0, 1) := by decide +kernel
theorem d_Mo_weighed_76 : decode cX9_weighed 76 = .ok (.getfield 443, 3) := by decide +kernel
theorem d_Mo_weighed_79 : decode cX9_weighed 79 = .ok (.ireturn, 1) := by decide +kernel
theorem d_Mo_isSuspect_0 : decode cX9_isSuspect 0 = .ok (.iconst 0, 1) := by decide +kernel
theorem d_Mo_isSuspect_1 : decode cX9_isSuspect 1 = .ok (.istore_n 2, 1) := by decide +kernel
theorem d_Mo_isSuspect_2 : decode cX9_isSuspect 2 = .ok (.iload_n 2, 1) := by decide +kernel
theorem d_Mo_isSuspect_3 : decode cX9_isSuspect 3 = .ok (.aload_n 0, 1) := by decide +kernel
theorem d_Mo_isSuspect_4 : decode cX9_isSuspect 4 = .ok (.getfield 443, 3) := by decide +kernel
theorem d_Mo_isSuspect_7 : decode cX9_isSuspect 7 = .ok (.if_icmp .ge 85, 3) := by decide +kernel
theorem d_Mo_isSuspect_10 : decode cX9_isSuspect 10 = .ok (.aload_n 0, 1) := by decide +kernel
theorem d_Mo_isSuspect_11 : decode cX9_isSuspect 11 = .ok (.aload_n 0, 1) := by decide +kernel
theorem d_Mo_isSuspect_12 : decode cX9_isSuspect 12 = .ok (.getfield 110, 3) := by decide +kernel
theorem d_Mo_isSuspect_15 : decode cX9_isSuspect 15 = .ok (.iload_n 2, 1) := by decide +kernel
theorem d_Mo_isSuspect_16 : decode cX9_isSuspect 16 = .ok (.iaload, 1) := by decide +kernel
theorem d_Mo_isSuspect_17 : decode cX9_isSuspect 17 = .ok (.iload_n 1, 1) := by decide +kernel
theorem d_Mo_isSuspect_18 : decode cX9_isSuspect 18 = .ok (.invokevirtual 158, 3) := by decide +kernel
theorem d_Mo_isSuspect_21 : decode cX9_isSuspect 21 = .ok (.ifCond .eq 8, 3) := by decide +kernel
theorem d_Mo_isSuspect_24 : decode cX9_isSuspect 24 = .ok (.bipush 7, 2) := by decide +kernel
theorem d_Mo_isSuspect_26 : decode cX9_isSuspect 26 = .ok (.goto 4, 3) := by decide +kernel
theorem d_Mo_isSuspect_29 : decode cX9_isSuspect 29 = .ok (.iconst 0, 1) := by decide +kernel
theorem d_Mo_isSuspect_30 : decode cX9_isSuspect 30 = .ok (.istore_n 3, 1) := by decide +kernel
theorem d_Mo_isSuspect_31 : decode cX9_isSuspect 31 = .ok (.iconst 0, 1) := by decide +kernel
theorem d_Mo_isSuspect_32 : decode cX9_isSuspect 32 = .ok (.istore 4, 2) := by decide +kernel
theorem d_Mo_isSuspect_34 : decode cX9_isSuspect 34 = .ok (.iload 4, 2) := by decide +kernel
theorem d_Mo_isSuspect_36 : decode cX9_isSuspect 36 = .ok (.aload_n 0, 1) := by decide +kernel
theorem d_Mo_isSuspect_37 : decode cX9_isSuspect 37 = .ok (.getfield 440, 3) := by decide +kernel
theorem d_Mo_isSuspect_40 : decode cX9_isSuspect 40 = .ok (.if_icmp .ge 34, 3) := by decide +kernel
theorem d_Mo_isSuspect_43 : decode cX9_isSuspect 43 = .ok (.aload_n 0, 1) := by decide +kernel
theorem d_Mo_isSuspect_44 : decode cX9_isSuspect 44 = .ok (.aload_n 0, 1) := by decide +kernel
theorem d_Mo_isSuspect_45 : decode cX9_isSuspect 45 = .ok (.getfield 110, 3) := by decide +kernel
theorem d_Mo_isSuspect_48 : decode cX9_isSuspect 48 = .ok (.iload_n 2, 1) := by decide +kernel
theorem d_Mo_isSuspect_49 : decode cX9_isSuspect 49 = .ok (.iaload, 1) := by decide +kernel
theorem d_Mo_isSuspect_50 : decode cX9_isSuspect 50 = .ok (.iload 4, 2) := by decide +kernel
theorem d_Mo_isSuspect_52 : decode cX9_isSuspect 52 = .ok (.invokevirtual 158, 3) := by decide +kernel
theorem d_Mo_isSuspect_55 : decode cX9_isSuspect 55 = .ok (.ifCond .eq 13, 3) := by decide +kernel
theorem d_Mo_isSuspect_58 : decode cX9_isSuspect 58 = .ok (.iload_n 3, 1) := by decide +kernel
theorem d_Mo_isSuspect_59 : decode cX9_isSuspect 59 = .ok (.aload_n 0, 1) := by decide +kernel
theorem d_Mo_isSuspect_60 : decode cX9_isSuspect 60 = .ok (.getfield 107, 3) := by decide +kernel
theorem d_Mo_isSuspect_63 : decode cX9_isSuspect 63 = .ok (.iload 4, 2) := by decide +kernel
theorem d_Mo_isSuspect_65 : decode cX9_isSuspect 65 = .ok (.iaload, 1) := by decide +kernel
theorem d_Mo_isSuspect_66 : decode cX9_isSuspect 66 = .ok (.iadd, 1) := by decide +kernel
theorem d_Mo_isSuspect_67 : decode cX9_isSuspect 67 = .ok (.istore_n 3, 1) := by decide +kernel
theorem d_Mo_isSuspect_68 : decode cX9_isSuspect 68 = .ok (.iinc 4 1, 3) := by decide +kernel
theorem d_Mo_isSuspect_71 : decode cX9_isSuspect 71 = .ok (.goto (-37), 3) := by decide +kernel
theorem d_Mo_isSuspect_74 : decode cX9_isSuspect 74 = .ok (.iload_n 3, 1) := by decide +kernel
theorem d_Mo_isSuspect_75 : decode cX9_isSuspect 75 = .ok (.aload_n 0, 1) := by decide +kernel
theorem d_Mo_isSuspect_76 : decode cX9_isSuspect 76 = .ok (.getfield 113, 3) := by decide +kernel
theorem d_Mo_isSuspect_79 : decode cX9_isSuspect 79 = .ok (.iload_n 2, 1) := by decide +kernel
theorem d_Mo_isSuspect_80 : decode cX9_isSuspect 80 = .ok (.iaload, 1) := by decide +kernel
theorem d_Mo_isSuspect_81 : decode cX9_isSuspect 81 = .ok (.if_icmp .eq 5, 3) := by decide +kernel
theorem d_Mo_isSuspect_84 : decode cX9_isSuspect 84 = .ok (.iconst 0, 1) := by decide +kernel
theorem d_Mo_isSuspect_85 : decode cX9_isSuspect 85 = .ok (.ireturn, 1) := by decide +kernel
theorem d_Mo_isSuspect_86 : decode cX9_isSuspect 86 = .ok (.iinc 2 1, 3) := by decide +kernel
theorem d_Mo_isSuspect_89 : decode cX9_isSuspect 89 = .ok (.goto (-87), 3) := by decide +kernel
theorem d_Mo_isSuspect_92 : decode cX9_isSuspect 92 = .ok (.iconst 1, 1) := by decide +kernel
theorem d_Mo_isSuspect_93 : decode cX9_isSuspect 93 = .ok (.ireturn, 1) := by decide +kernel
theorem d_Mo_suspectSet_0 : decode cX9_suspectSet 0 = .ok (.iconst 0, 1) := by decide +kernel
theorem d_Mo_suspectSet_1 : decode cX9_suspectSet 1 = .ok (.istore_n 1, 1) := by decide +kernel
theorem d_Mo_suspectSet_2 : decode cX9_suspectSet 2 = .ok (.iconst 0, 1) := by decide +kernel
theorem d_Mo_suspectSet_3 : decode cX9_suspectSet 3 = .ok (.istore_n 2, 1) := by decide +kernel
theorem d_Mo_suspectSet_4 : decode cX9_suspectSet 4 = .ok (.iload_n 2, 1) := by decide +kernel
theorem d_Mo_suspectSet_5 : decode cX9_suspectSet 5 = .ok (.aload_n 0, 1) := by decide +kernel
theorem d_Mo_suspectSet_6 : decode cX9_suspectSet 6 = .ok (.getfield 440, 3) := by decide +kernel
theorem d_Mo_suspectSet_9 : decode cX9_suspectSet 9 = .ok (.if_icmp .ge 23, 3) := by decide +kernel
theorem d_Mo_suspectSet_12 : decode cX9_suspectSet 12 = .ok (.aload_n 0, 1) := by decide +kernel
theorem d_Mo_suspectSet_13 : decode cX9_suspectSet 13 = .ok (.iload_n 2, 1) := by decide +kernel
theorem d_Mo_suspectSet_14 : decode cX9_suspectSet 14 = .ok (.invokevirtual 446, 3) := by decide +kernel
theorem d_Mo_suspectSet_17 : decode cX9_suspectSet 17 = .ok (.ifCond .eq 9, 3) := by decide +kernel
theorem d_Mo_suspectSet_20 : decode cX9_suspectSet 20 = .ok (.iload_n 1, 1) := by decide +kernel
theorem d_Mo_suspectSet_21 : decode cX9_suspectSet 21 = .ok (.iconst 1, 1) := by decide +kernel
theorem d_Mo_suspectSet_22 : decode cX9_suspectSet 22 = .ok (.iload_n 2, 1) := by decide +kernel
theorem d_Mo_suspectSet_23 : decode cX9_suspectSet 23 = .ok (.ishl, 1) := by decide +kernel
theorem d_Mo_suspectSet_24 : decode cX9_suspectSet 24 = .ok (.ior, 1) := by decide +kernel
theorem d_Mo_suspectSet_25 : decode cX9_suspectSet 25 = .ok (.istore_n 1, 1) := by decide +kernel
theorem d_Mo_suspectSet_26 : decode cX9_suspectSet 26 = .ok (.iinc 2 1, 3) := by decide +kernel
theorem d_Mo_suspectSet_29 : decode cX9_suspectSet 29 = .ok (.goto (-25), 3) := by decide +kernel
theorem d_Mo_suspectSet_32 : decode cX9_suspectSet 32 = .ok (.iload_n 1, 1) := by decide +kernel
theorem d_Mo_suspectSet_33 : decode cX9_suspectSet 33 = .ok (.ireturn, 1) := by decide +kernel
theorem d_Mo_suspects_0 : decode cX9_suspects 0 = .ok (.aload_n 0, 1) := by decide +kernel
theorem d_Mo_suspects_1 : decode cX9_suspects 1 = .ok (.iconst 0, 1) := by decide +kernel
theorem d_Mo_suspects_2 : decode cX9_suspects 2 = .ok (.putfield 140, 3) := by decide +kernel
theorem d_Mo_suspects_5 : decode cX9_suspects 5 = .ok (.aload_n 0, 1) := by decide +kernel
theorem d_Mo_suspects_6 : decode cX9_suspects 6 = .ok (.iload_n 1, 1) := by decide +kernel
theorem d_Mo_suspects_7 : decode cX9_suspects 7 = .ok (.iconst 0, 1) := by decide +kernel
theorem d_Mo_suspects_8 : decode cX9_suspects 8 = .ok (.iconst 1, 1) := by decide +kernel
theorem d_Mo_suspects_9 : decode cX9_suspects 9 = .ok (.invokevirtual 162, 3) := by decide +kernel
theorem d_Mo_suspects_12 : decode cX9_suspects 12 = .ok (.ifCond .ne 5, 3) := by decide +kernel
theorem d_Mo_suspects_15 : decode cX9_suspects 15 = .ok (.iconst (-1), 1) := by decide +kernel
theorem d_Mo_suspects_16 : decode cX9_suspects 16 = .ok (.ireturn, 1) := by decide +kernel
theorem d_Mo_suspects_17 : decode cX9_suspects 17 = .ok (.aload_n 0, 1) := by decide +kernel
theorem d_Mo_suspects_18 : decode cX9_suspects 18 = .ok (.invokevirtual 449, 3) := by decide +kernel
theorem d_Mo_suspects_21 : decode cX9_suspects 21 = .ok (.istore_n 2, 1) := by decide +kernel
theorem d_Mo_suspects_22 : decode cX9_suspects 22 = .ok (.iload_n 1, 1) := by decide +kernel
theorem d_Mo_suspects_23 : decode cX9_suspects 23 = .ok (.ifCond .ne 5, 3) := by decide +kernel
theorem d_Mo_suspects_26 : decode cX9_suspects 26 = .ok (.iload_n 2, 1) := by decide +kernel
theorem d_Mo_suspects_27 : decode cX9_suspects 27 = .ok (.ireturn, 1) := by decide +kernel
theorem d_Mo_suspects_28 : decode cX9_suspects 28 = .ok (.aload_n 0, 1) := by decide +kernel
theorem d_Mo_suspects_29 : decode cX9_suspects 29 = .ok (.iload_n 2, 1) := by decide +kernel
theorem d_Mo_suspects_30 : decode cX9_suspects 30 = .ok (.invokevirtual 345, 3) := by decide +kernel
theorem d_Mo_suspects_33 : decode cX9_suspects 33 = .ok (.iconst 2, 1) := by decide +kernel
theorem d_Mo_suspects_34 : decode cX9_suspects 34 = .ok (.if_icmp .ge 5, 3) := by decide +kernel
theorem d_Mo_suspects_37 : decode cX9_suspects 37 = .ok (.iconst (-1), 1) := by decide +kernel
theorem d_Mo_suspects_38 : decode cX9_suspects 38 = .ok (.ireturn, 1) := by decide +kernel
theorem d_Mo_suspects_39 : decode cX9_suspects 39 = .ok (.iconst (-1), 1) := by decide +kernel
theorem d_Mo_suspects_40 : decode cX9_suspects 40 = .ok (.istore_n 3, 1) := by decide +kernel
theorem d_Mo_suspects_41 : decode cX9_suspects 41 = .ok (.ldc_w 430, 3) := by decide +kernel
theorem d_Mo_suspects_44 : decode cX9_suspects 44 = .ok (.istore 4, 2) := by decide +kernel
theorem d_Mo_suspects_46 : decode cX9_suspects 46 = .ok (.iconst 2, 1) := by decide +kernel
theorem d_Mo_suspects_47 : decode cX9_suspects 47 = .ok (.istore 5, 2) := by decide +kernel
theorem d_Mo_suspects_49 : decode cX9_suspects 49 = .ok (.iload 5, 2) := by decide +kernel
theorem d_Mo_suspects_51 : decode cX9_suspects 51 = .ok (.iconst 3, 1) := by decide +kernel
theorem d_Mo_suspects_52 : decode cX9_suspects 52 = .ok (.if_icmp .gt 91, 3) := by decide +kernel
theorem d_Mo_suspects_55 : decode cX9_suspects 55 = .ok (.iconst 0, 1) := by decide +kernel
theorem d_Mo_suspects_56 : decode cX9_suspects 56 = .ok (.istore 6, 2) := by decide +kernel
theorem d_Mo_suspects_58 : decode cX9_suspects 58 = .ok (.iload 6, 2) := by decide +kernel
theorem d_Mo_suspects_60 : decode cX9_suspects 60 = .ok (.iconst 1, 1) := by decide +kernel
theorem d_Mo_suspects_61 : decode cX9_suspects 61 = .ok (.aload_n 0, 1) := by decide +kernel
theorem d_Mo_suspects_62 : decode cX9_suspects 62 = .ok (.getfield 440, 3) := by decide +kernel
theorem d_Mo_suspects_65 : decode cX9_suspects 65 = .ok (.ishl, 1) := by decide +kernel
theorem d_Mo_suspects_66 : decode cX9_suspects 66 = .ok (.if_icmp .ge 71, 3) := by decide +kernel
theorem d_Mo_suspects_69 : decode cX9_suspects 69 = .ok (.aload_n 0, 1) := by decide +kernel
theorem d_Mo_suspects_70 : decode cX9_suspects 70 = .ok (.iload 6, 2) := by decide +kernel
theorem d_Mo_suspects_72 : decode cX9_suspects 72 = .ok (.invokevirtual 345, 3) := by decide +kernel
theorem d_Mo_suspects_75 : decode cX9_suspects 75 = .ok (.iload 5, 2) := by decide +kernel
theorem d_Mo_suspects_77 : decode cX9_suspects 77 = .ok (.if_icmp .eq 6, 3) := by decide +kernel
theorem d_Mo_suspects_80 : decode cX9_suspects 80 = .ok (.goto 51, 3) := by decide +kernel
theorem d_Mo_suspects_83 : decode cX9_suspects 83 = .ok (.aload_n 0, 1) := by decide +kernel
theorem d_Mo_suspects_84 : decode cX9_suspects 84 = .ok (.aload_n 0, 1) := by decide +kernel
theorem d_Mo_suspects_85 : decode cX9_suspects 85 = .ok (.iload_n 2, 1) := by decide +kernel
theorem d_Mo_suspects_86 : decode cX9_suspects 86 = .ok (.iload 6, 2) := by decide +kernel
theorem d_Mo_suspects_88 : decode cX9_suspects 88 = .ok (.iand, 1) := by decide +kernel
theorem d_Mo_suspects_89 : decode cX9_suspects 89 = .ok (.invokevirtual 345, 3) := by decide +kernel
theorem d_Mo_suspects_92 : decode cX9_suspects 92 = .ok (.aload_n 0, 1) := by decide +kernel
theorem d_Mo_suspects_93 : decode cX9_suspects 93 = .ok (.iload_n 2, 1) := by decide +kernel
theorem d_Mo_suspects_94 : decode cX9_suspects 94 = .ok (.iload 6, 2) := by decide +kernel
theorem d_Mo_suspects_96 : decode cX9_suspects 96 = .ok (.iconst (-1), 1) := by decide +kernel
theorem d_Mo_suspects_97 : decode cX9_suspects 97 = .ok (.ixor, 1) := by decide +kernel
theorem d_Mo_suspects_98 : decode cX9_suspects 98 = .ok (.iand, 1) := by decide +kernel
theorem d_Mo_suspects_99 : decode cX9_suspects 99 = .ok (.invokevirtual 345, 3) := by decide +kernel
theorem d_Mo_suspects_102 : decode cX9_suspects 102 = .ok (.invokevirtual 339, 3) := by decide +kernel
theorem d_Mo_suspects_105 : decode cX9_suspects 105 = .ok (.istore 7, 2) := by decide +kernel
theorem d_Mo_suspects_107 : decode cX9_suspects 107 = .ok (.iload 7, 2) := by decide +kernel
theorem d_Mo_suspects_109 : decode cX9_suspects 109 = .ok (.iload 4, 2) := by decide +kernel
theorem d_Mo_suspects_111 : decode cX9_suspects 111 = .ok (.if_icmp .ge 8, 3) := by decide +kernel
theorem d_Mo_suspects_114 : decode cX9_suspects 114 = .ok (.iload 6, 2) := by decide +kernel
theorem d_Mo_suspects_116 : decode cX9_suspects 116 = .ok (.goto 4, 3) := by decide +kernel
theorem d_Mo_suspects_119 : decode cX9_suspects 119 = .ok (.iload_n 3, 1) := by decide +kernel
theorem d_Mo_suspects_120 : decode cX9_suspects 120 = .ok (.istore_n 3, 1) := by decide +kernel
theorem d_Mo_suspects_121 : decode cX9_suspects 121 = .ok (.aload_n 0, 1) := by decide +kernel
theorem d_Mo_suspects_122 : decode cX9_suspects 122 = .ok (.iload 4, 2) := by decide +kernel
theorem d_Mo_suspects_124 : decode cX9_suspects 124 = .ok (.iload 7, 2) := by decide +kernel
theorem d_Mo_suspects_126 : decode cX9_suspects 126 = .ok (.invokevirtual 369, 3) := by decide +kernel
theorem d_Mo_suspects_129 : decode cX9_suspects 129 = .ok (.istore 4, 2) := by decide +kernel
theorem d_Mo_suspects_131 : decode cX9_suspects 131 = .ok (.iinc 6 1, 3) := by decide +kernel
theorem d_Mo_suspects_134 : decode cX9_suspects 134 = .ok (.goto (-76), 3) := by decide +kernel
theorem d_Mo_suspects_137 : decode cX9_suspects 137 = .ok (.iinc 5 1, 3) := by decide +kernel
theorem d_Mo_suspects_140 : decode cX9_suspects 140 = .ok (.goto (-91), 3) := by decide +kernel
theorem d_Mo_suspects_143 : decode cX9_suspects 143 = .ok (.iload_n 3, 1) := by decide +kernel
theorem d_Mo_suspects_144 : decode cX9_suspects 144 = .ok (.ireturn, 1) := by decide +kernel
theorem d_Mo_isFirstRoad_0 : decode cX9_isFirstRoad 0 = .ok (.iconst 0, 1) := by decide +kernel
theorem d_Mo_isFirstRoad_1 : decode cX9_isFirstRoad 1 = .ok (.istore_n 2, 1) := by decide +kernel
theorem d_Mo_isFirstRoad_2 : decode cX9_isFirstRoad 2 = .ok (.iload_n 2, 1) := by decide +kernel
theorem d_Mo_isFirstRoad_3 : decode cX9_isFirstRoad 3 = .ok (.iload_n 1, 1) := by decide +kernel
theorem d_Mo_isFirstRoad_4 : decode cX9_isFirstRoad 4 = .ok (.if_icmp .ge 53, 3) := by decide +kernel
theorem d_Mo_isFirstRoad_7 : decode cX9_isFirstRoad 7 = .ok (.aload_n 0, 1) := by decide +kernel
theorem d_Mo_isFirstRoad_8 : decode cX9_isFirstRoad 8 = .ok (.getfield 74, 3) := by decide +kernel
theorem d_Mo_isFirstRoad_11 : decode cX9_isFirstRoad 11 = .ok (.iconst 4, 1) := by decide +kernel
theorem d_Mo_isFirstRoad_12 : decode cX9_isFirstRoad 12 = .ok (.iload_n 2, 1) := by decide +kernel
theorem d_Mo_isFirstRoad_13 : decode cX9_isFirstRoad 13 = .ok (.imul, 1) := by decide +kernel
theorem d_Mo_isFirstRoad_14 : decode cX9_isFirstRoad 14 = .ok (.iaload, 1) := by decide +kernel
theorem d_Mo_isFirstRoad_15 : decode cX9_isFirstRoad 15 = .ok (.aload_n 0, 1) := by decide +kernel
theorem d_Mo_isFirstRoad_16 : decode cX9_isFirstRoad 16 = .ok (.getfield 74, 3) := by decide +kernel
theorem d_Mo_isFirstRoad_19 : decode cX9_isFirstRoad 19 = .ok (.iconst 4, 1) := by decide +kernel
theorem d_Mo_isFirstRoad_20 : decode cX9_isFirstRoad 20 = .ok (.iload_n 1, 1) := by decide +kernel
theorem d_Mo_isFirstRoad_21 : decode cX9_isFirstRoad 21 = .ok (.imul, 1) := by decide +kernel
theorem d_Mo_isFirstRoad_22 : decode cX9_isFirstRoad 22 = .ok (.iaload, 1) := by decide +kernel
theorem d_Mo_isFirstRoad_23 : decode cX9_isFirstRoad 23 = .ok (.if_icmp .ne 28, 3) := by decide +kernel
theorem d_Mo_isFirstRoad_26 : decode cX9_isFirstRoad 26 = .ok (.aload_n 0, 1) := by decide +kernel
theorem d_Mo_isFirstRoad_27 : decode cX9_isFirstRoad 27 = .ok (.getfield 74, 3) := by decide +kernel
theorem d_Mo_isFirstRoad_30 : decode cX9_isFirstRoad 30 = .ok (.iconst 4, 1) := by decide +kernel
theorem d_Mo_isFirstRoad_31 : decode cX9_isFirstRoad 31 = .ok (.iload_n 2, 1) := by decide +kernel
theorem d_Mo_isFirstRoad_32 : decode cX9_isFirstRoad 32 = .ok (.imul, 1) := by decide +kernel
theorem d_Mo_isFirstRoad_33 : decode cX9_isFirstRoad 33 = .ok (.iconst 1, 1) := by decide +kernel
theorem d_Mo_isFirstRoad_34 : decode cX9_isFirstRoad 34 = .ok (.iadd, 1) := by decide +kernel
theorem d_Mo_isFirstRoad_35 : decode cX9_isFirstRoad 35 = .ok (.iaload, 1) := by decide +kernel
theorem d_Mo_isFirstRoad_36 : decode cX9_isFirstRoad 36 = .ok (.aload_n 0, 1) := by decide +kernel
theorem d_Mo_isFirstRoad_37 : decode cX9_isFirstRoad 37 = .ok (.getfield 74, 3) := by decide +kernel
theorem d_Mo_isFirstRoad_40 : decode cX9_isFirstRoad 40 = .ok (.iconst 4, 1) := by decide +kernel
theorem d_Mo_isFirstRoad_41 : decode cX9_isFirstRoad 41 = .ok (.iload_n 1, 1) := by decide +kernel
theorem d_Mo_isFirstRoad_42 : decode cX9_isFirstRoad 42 = .ok (.imul, 1) := by decide +kernel
theorem d_Mo_isFirstRoad_43 : decode cX9_isFirstRoad 43 = .ok (.iconst 1, 1) := by decide +kernel
theorem d_Mo_isFirstRoad_44 : decode cX9_isFirstRoad 44 = .ok (.iadd, 1) := by decide +kernel
theorem d_Mo_isFirstRoad_45 : decode cX9_isFirstRoad 45 = .ok (.iaload, 1) := by decide +kernel
theorem d_Mo_isFirstRoad_46 : decode cX9_isFirstRoad 46 = .ok (.if_icmp .ne 5, 3) := by decide +kernel
theorem d_Mo_isFirstRoad_49 : decode cX9_isFirstRoad 49 = .ok (.iconst 0, 1) := by decide +kernel
theorem d_Mo_isFirstRoad_50 : decode cX9_isFirstRoad 50 = .ok (.ireturn, 1) := by decide +kernel
theorem d_Mo_isFirstRoad_51 : decode cX9_isFirstRoad 51 = .ok (.iinc 2 1, 3) := by decide +kernel
theorem d_Mo_isFirstRoad_54 : decode cX9_isFirstRoad 54 = .ok (.goto (-52), 3) := by decide +kernel
theorem d_Mo_isFirstRoad_57 : decode cX9_isFirstRoad 57 = .ok (.iconst 1, 1) := by decide +kernel
theorem d_Mo_isFirstRoad_58 : decode cX9_isFirstRoad 58 = .ok (.ireturn, 1) := by decide +kernel
theorem d_Mo_goesRoad_0 : decode cX9_goesRoad 0 = .ok (.aload_n 0, 1) := by decide +kernel
theorem d_Mo_goesRoad_1 : decode cX9_goesRoad 1 = .ok (.getfield 116, 3) := by decide +kernel
theorem d_Mo_goesRoad_4 : decode cX9_goesRoad 4 = .ok (.aload_n 0, 1) := by decide +kernel
theorem d_Mo_goesRoad_5 : decode cX9_goesRoad 5 = .ok (.getfield 74, 3) := by decide +kernel
theorem d_Mo_goesRoad_8 : decode cX9_goesRoad 8 = .ok (.iload_n 1, 1) := by decide +kernel
theorem d_Mo_goesRoad_9 : decode cX9_goesRoad 9 = .ok (.iaload, 1) := by decide +kernel
theorem d_Mo_goesRoad_10 : decode cX9_goesRoad 10 = .ok (.iaload, 1) := by decide +kernel
theorem d_Mo_goesRoad_11 : decode cX9_goesRoad 11 = .ok (.istore_n 2, 1) := by decide +kernel
theorem d_Mo_goesRoad_12 : decode cX9_goesRoad 12 = .ok (.iload_n 2, 1) := by decide +kernel
theorem d_Mo_goesRoad_13 : decode cX9_goesRoad 13 = .ok (.ldc_w 430, 3) := by decide +kernel
theorem d_Mo_goesRoad_16 : decode cX9_goesRoad 16 = .ok (.if_icmp .ne 4, 3) := by decide +kernel
theorem d_Mo_goesRoad_19 : decode cX9_goesRoad 19 = .ok (.return_, 1) := by decide +kernel
theorem d_Mo_goesRoad_20 : decode cX9_goesRoad 20 = .ok (.aload_n 0, 1) := by decide +kernel
theorem d_Mo_goesRoad_21 : decode cX9_goesRoad 21 = .ok (.bipush 99, 2) := by decide +kernel
theorem d_Mo_goesRoad_23 : decode cX9_goesRoad 23 = .ok (.aload_n 0, 1) := by decide +kernel
theorem d_Mo_goesRoad_24 : decode cX9_goesRoad 24 = .ok (.iconst 0, 1) := by decide +kernel
theorem d_Mo_goesRoad_25 : decode cX9_goesRoad 25 = .ok (.iload_n 2, 1) := by decide +kernel
theorem d_Mo_goesRoad_26 : decode cX9_goesRoad 26 = .ok (.aload_n 0, 1) := by decide +kernel
theorem d_Mo_goesRoad_27 : decode cX9_goesRoad 27 = .ok (.getfield 74, 3) := by decide +kernel
theorem d_Mo_goesRoad_30 : decode cX9_goesRoad 30 = .ok (.iload_n 1, 1) := by decide +kernel
theorem d_Mo_goesRoad_31 : decode cX9_goesRoad 31 = .ok (.iconst 2, 1) := by decide +kernel
theorem d_Mo_goesRoad_32 : decode cX9_goesRoad 32 = .ok (.iadd, 1) := by decide +kernel
theorem d_Mo_goesRoad_33 : decode cX9_goesRoad 33 = .ok (.iaload, 1) := by decide +kernel
theorem d_Mo_goesRoad_34 : decode cX9_goesRoad 34 = .ok (.isub, 1) := by decide +kernel
theorem d_Mo_goesRoad_35 : decode cX9_goesRoad 35 = .ok (.invokevirtual 339, 3) := by decide +kernel
theorem d_Mo_goesRoad_38 : decode cX9_goesRoad 38 = .ok (.aload_n 0, 1) := by decide +kernel
theorem d_Mo_goesRoad_39 : decode cX9_goesRoad 39 = .ok (.getfield 74, 3) := by decide +kernel
theorem d_Mo_goesRoad_42 : decode cX9_goesRoad 42 = .ok (.iload_n 1, 1) := by decide +kernel
theorem d_Mo_goesRoad_43 : decode cX9_goesRoad 43 = .ok (.iconst 3, 1) := by decide +kernel
theorem d_Mo_goesRoad_44 : decode cX9_goesRoad 44 = .ok (.iadd, 1) := by decide +kernel
theorem d_Mo_goesRoad_45 : decode cX9_goesRoad 45 = .ok (.iaload, 1) := by decide +kernel
theorem d_Mo_goesRoad_46 : decode cX9_goesRoad 46 = .ok (.iadd, 1) := by decide +kernel
theorem d_Mo_goesRoad_47 : decode cX9_goesRoad 47 = .ok (.invokevirtual 369, 3) := by decide +kernel
theorem d_Mo_goesRoad_50 : decode cX9_goesRoad 50 = .ok (.istore_n 2, 1) := by decide +kernel
theorem d_Mo_goesRoad_51 : decode cX9_goesRoad 51 = .ok (.aload_n 0, 1) := by decide +kernel
theorem d_Mo_goesRoad_52 : decode cX9_goesRoad 52 = .ok (.getfield 119, 3) := by decide +kernel
theorem d_Mo_goesRoad_55 : decode cX9_goesRoad 55 = .ok (.aload_n 0, 1) := by decide +kernel
theorem d_Mo_goesRoad_56 : decode cX9_goesRoad 56 = .ok (.getfield 74, 3) := by decide +kernel
theorem d_Mo_goesRoad_59 : decode cX9_goesRoad 59 = .ok (.iload_n 1, 1) := by decide +kernel
theorem d_Mo_goesRoad_60 : decode cX9_goesRoad 60 = .ok (.iconst 1, 1) := by decide +kernel
theorem d_Mo_goesRoad_61 : decode cX9_goesRoad 61 = .ok (.iadd, 1) := by decide +kernel
theorem d_Mo_goesRoad_62 : decode cX9_goesRoad 62 = .ok (.iaload, 1) := by decide +kernel
theorem d_Mo_goesRoad_63 : decode cX9_goesRoad 63 = .ok (.aload_n 0, 1) := by decide +kernel
theorem d_Mo_goesRoad_64 : decode cX9_goesRoad 64 = .ok (.aload_n 0, 1) := by decide +kernel
theorem d_Mo_goesRoad_65 : decode cX9_goesRoad 65 = .ok (.getfield 119, 3) := by decide +kernel
theorem d_Mo_goesRoad_68 : decode cX9_goesRoad 68 = .ok (.aload_n 0, 1) := by decide +kernel
theorem d_Mo_goesRoad_69 : decode cX9_goesRoad 69 = .ok (.getfield 74, 3) := by decide +kernel
theorem d_Mo_goesRoad_72 : decode cX9_goesRoad 72 = .ok (.iload_n 1, 1) := by decide +kernel
theorem d_Mo_goesRoad_73 : decode cX9_goesRoad 73 = .ok (.iconst 1, 1) := by decide +kernel
theorem d_Mo_goesRoad_74 : decode cX9_goesRoad 74 = .ok (.iadd, 1) := by decide +kernel
theorem d_Mo_goesRoad_75 : decode cX9_goesRoad 75 = .ok (.iaload, 1) := by decide +kernel
theorem d_Mo_goesRoad_76 : decode cX9_goesRoad 76 = .ok (.iaload, 1) := by decide +kernel
theorem d_Mo_goesRoad_77 : decode cX9_goesRoad 77 = .ok (.iload_n 2, 1) := by decide +kernel
theorem d_Mo_goesRoad_78 : decode cX9_goesRoad 78 = .ok (.invokevirtual 369, 3) := by decide +kernel
theorem d_Mo_goesRoad_81 : decode cX9_goesRoad 81 = .ok (.iastore, 1) := by decide +kernel
theorem d_Mo_goesRoad_82 : decode cX9_goesRoad 82 = .ok (.return_, 1) := by decide +kernel
theorem d_Mo_goesAllRoads_0 : decode cX9_goesAllRoads 0 = .ok (.iconst 0, 1) := by decide +kernel
theorem d_Mo_goesAllRoads_1 : decode cX9_goesAllRoads 1 = .ok (.istore_n 1, 1) := by decide +kernel
theorem d_Mo_goesAllRoads_2 : decode cX9_goesAllRoads 2 = .ok (.iload_n 1, 1) := by decide +kernel
theorem d_Mo_goesAllRoads_3 : decode cX9_goesAllRoads 3 = .ok (.bipush 10, 2) := by decide +kernel
theorem d_Mo_goesAllRoads_5 : decode cX9_goesAllRoads 5 = .ok (.if_icmp .ge 18, 3) := by decide +kernel
theorem d_Mo_goesAllRoads_8 : decode cX9_goesAllRoads 8 = .ok (.aload_n 0, 1) := by decide +kernel
theorem d_Mo_goesAllRoads_9 : decode cX9_goesAllRoads 9 = .ok (.getfield 119, 3) := by decide +kernel
theorem d_Mo_goesAllRoads_12 : decode cX9_goesAllRoads 12 = .ok (.iload_n 1, 1) := by decide +kernel
theorem d_Mo_goesAllRoads_13 : decode cX9_goesAllRoads 13 = .ok (.ldc_w 430, 3) := by decide +kernel
theorem d_Mo_goesAllRoads_16 : decode cX9_goesAllRoads 16 = .ok (.iastore, 1) := by decide +kernel
theorem d_Mo_goesAllRoads_17 : decode cX9_goesAllRoads 17 = .ok (.iinc 1 1, 3) := by decide +kernel
theorem d_Mo_goesAllRoads_20 : decode cX9_goesAllRoads 20 = .ok (.goto (-18), 3) := by decide +kernel
theorem d_Mo_goesAllRoads_23 : decode cX9_goesAllRoads 23 = .ok (.iconst 0, 1) := by decide +kernel
theorem d_Mo_goesAllRoads_24 : decode cX9_goesAllRoads 24 = .ok (.istore_n 1, 1) := by decide +kernel
theorem d_Mo_goesAllRoads_25 : decode cX9_goesAllRoads 25 = .ok (.iload_n 1, 1) := by decide +kernel
theorem d_Mo_goesAllRoads_26 : decode cX9_goesAllRoads 26 = .ok (.aload_n 0, 1) := by decide +kernel
theorem d_Mo_goesAllRoads_27 : decode cX9_goesAllRoads 27 = .ok (.getfield 318, 3) := by decide +kernel
theorem d_Mo_goesAllRoads_30 : decode cX9_goesAllRoads 30 = .ok (.if_icmp .ge 24, 3) := by decide +kernel
theorem d_Mo_goesAllRoads_33 : decode cX9_goesAllRoads 33 = .ok (.aload_n 0, 1) := by decide +kernel
theorem d_Mo_goesAllRoads_34 : decode cX9_goesAllRoads 34 = .ok (.iload_n 1, 1) := by decide +kernel
theorem d_Mo_goesAllRoads_35 : decode cX9_goesAllRoads 35 = .ok (.invokevirtual 452, 3) := by decide +kernel
theorem d_Mo_goesAllRoads_38 : decode cX9_goesAllRoads 38 = .ok (.ifCond .eq 10, 3) := by decide +kernel
theorem d_Mo_goesAllRoads_41 : decode cX9_goesAllRoads 41 = .ok (.aload_n 0, 1) := by decide +kernel
theorem d_Mo_goesAllRoads_42 : decode cX9_goesAllRoads 42 = .ok (.iconst 4, 1) := by decide +kernel
theorem d_Mo_goesAllRoads_43 : decode cX9_goesAllRoads 43 = .ok (.iload_n 1, 1) := by decide +kernel
theorem d_Mo_goesAllRoads_44 : decode cX9_goesAllRoads 44 = .ok (.imul, 1) := by decide +kernel
theorem d_Mo_goesAllRoads_45 : decode cX9_goesAllRoads 45 = .ok (.invokevirtual 455, 3) := by decide +kernel
theorem d_Mo_goesAllRoads_48 : decode cX9_goesAllRoads 48 = .ok (.iinc 1 1, 3) := by decide +kernel
theorem d_Mo_goesAllRoads_51 : decode cX9_goesAllRoads 51 = .ok (.goto (-26), 3) := by decide +kernel
theorem d_Mo_goesAllRoads_54 : decode cX9_goesAllRoads 54 = .ok (.iconst 0, 1) := by decide +kernel
theorem d_Mo_goesAllRoads_55 : decode cX9_goesAllRoads 55 = .ok (.istore_n 1, 1) := by decide +kernel
theorem d_Mo_goesAllRoads_56 : decode cX9_goesAllRoads 56 = .ok (.iload_n 1, 1) := by decide +kernel
theorem d_Mo_goesAllRoads_57 : decode cX9_goesAllRoads 57 = .ok (.bipush 10, 2) := by decide +kernel
theorem d_Mo_goesAllRoads_59 : decode cX9_goesAllRoads 59 = .ok (.if_icmp .ge 21, 3) := by decide +kernel
theorem d_Mo_goesAllRoads_62 : decode cX9_goesAllRoads 62 = .ok (.aload_n 0, 1) := by decide +kernel
theorem d_Mo_goesAllRoads_63 : decode cX9_goesAllRoads 63 = .ok (.getfield 116, 3) := by decide +kernel
theorem d_Mo_goesAllRoads_66 : decode cX9_goesAllRoads 66 = .ok (.iload_n 1, 1) := by decide +kernel
theorem d_Mo_goesAllRoads_67 : decode cX9_goesAllRoads 67 = .ok (.aload_n 0, 1) := by decide +kernel
theorem d_Mo_goesAllRoads_68 : decode cX9_goesAllRoads 68 = .ok (.getfield 119, 3) := by decide +kernel
theorem d_Mo_goesAllRoads_71 : decode cX9_goesAllRoads 71 = .ok (.iload_n 1, 1) := by decide +kernel
theorem d_Mo_goesAllRoads_72 : decode cX9_goesAllRoads 72 = .ok (.iaload, 1) := by decide +kernel
theorem d_Mo_goesAllRoads_73 : decode cX9_goesAllRoads 73 = .ok (.iastore, 1) := by decide +kernel
theorem d_Mo_goesAllRoads_74 : decode cX9_goesAllRoads 74 = .ok (.iinc 1 1, 3) := by decide +kernel
theorem d_Mo_goesAllRoads_77 : decode cX9_goesAllRoads 77 = .ok (.goto (-21), 3) := by decide +kernel
theorem d_Mo_goesAllRoads_80 : decode cX9_goesAllRoads 80 = .ok (.return_, 1) := by decide +kernel
theorem d_Mo_driest_0 : decode cX9_driest 0 = .ok (.aload_n 0, 1) := by decide +kernel
theorem d_Mo_driest_1 : decode cX9_driest 1 = .ok (.iconst 0, 1) := by decide +kernel
theorem d_Mo_driest_2 : decode cX9_driest 2 = .ok (.putfield 140, 3) := by decide +kernel
theorem d_Mo_driest_5 : decode cX9_driest 5 = .ok (.aload_n 0, 1) := by decide +kernel
theorem d_Mo_driest_6 : decode cX9_driest 6 = .ok (.iload_n 1, 1) := by decide +kernel
theorem d_Mo_driest_7 : decode cX9_driest 7 = .ok (.iconst 0, 1) := by decide +kernel
theorem d_Mo_driest_8 : decode cX9_driest 8 = .ok (.bipush 9, 2) := by decide +kernel
theorem d_Mo_driest_10 : decode cX9_driest 10 = .ok (.invokevirtual 162, 3) := by decide +kernel
theorem d_Mo_driest_13 : decode cX9_driest 13 = .ok (.ifCond .eq 36, 3) := by decide +kernel
theorem d_Mo_driest_16 : decode cX9_driest 16 = .ok (.aload_n 0, 1) := by decide +kernel
theorem d_Mo_driest_17 : decode cX9_driest 17 = .ok (.iload_n 2, 1) := by decide +kernel
theorem d_Mo_driest_18 : decode cX9_driest 18 = .ok (.iconst 0, 1) := by decide +kernel
theorem d_Mo_driest_19 : decode cX9_driest 19 = .ok (.bipush 9, 2) := by decide +kernel
theorem d_Mo_driest_21 : decode cX9_driest 21 = .ok (.invokevirtual 162, 3) := by decide +kernel
theorem d_Mo_driest_24 : decode cX9_driest 24 = .ok (.ifCond .eq 25, 3) := by decide +kernel
theorem d_Mo_driest_27 : decode cX9_driest 27 = .ok (.aload_n 0, 1) := by decide +kernel
theorem d_Mo_driest_28 : decode cX9_driest 28 = .ok (.iload_n 3, 1) := by decide +kernel
theorem d_Mo_driest_29 : decode cX9_driest 29 = .ok (.iconst 0, 1) := by decide +kernel
theorem d_Mo_driest_30 : decode cX9_driest 30 = .ok (.bipush 99, 2) := by decide +kernel
theorem d_Mo_driest_32 : decode cX9_driest 32 = .ok (.invokevirtual 162, 3) := by decide +kernel
theorem d_Mo_driest_35 : decode cX9_driest 35 = .ok (.ifCond .eq 14, 3) := by decide +kernel
theorem d_Mo_driest_38 : decode cX9_driest 38 = .ok (.aload_n 0, 1) := by decide +kernel
theorem d_Mo_driest_39 : decode cX9_driest 39 = .ok (.iload 4, 2) := by decide +kernel
theorem d_Mo_driest_41 : decode cX9_driest 41 = .ok (.iconst 0, 1) := by decide +kernel
theorem d_Mo_driest_42 : decode cX9_driest 42 = .ok (.iconst 1, 1) := by decide +kernel
theorem d_Mo_driest_43 : decode cX9_driest 43 = .ok (.invokevirtual 162, 3) := by decide +kernel
theorem d_Mo_driest_46 : decode cX9_driest 46 = .ok (.ifCond .ne 5, 3) := by decide +kernel
theorem d_Mo_driest_49 : decode cX9_driest 49 = .ok (.iconst (-1), 1) := by decide +kernel
theorem d_Mo_driest_50 : decode cX9_driest 50 = .ok (.ireturn, 1) := by decide +kernel
theorem d_Mo_driest_51 : decode cX9_driest 51 = .ok (.iconst 0, 1) := by decide +kernel
theorem d_Mo_driest_52 : decode cX9_driest 52 = .ok (.istore 5, 2) := by decide +kernel
theorem d_Mo_driest_54 : decode cX9_driest 54 = .ok (.iload 5, 2) := by decide +kernel
theorem d_Mo_driest_56 : decode cX9_driest 56 = .ok (.bipush 10, 2) := by decide +kernel
theorem d_Mo_driest_58 : decode cX9_driest 58 = .ok (.if_icmp .ge 29, 3) := by decide +kernel
theorem d_Mo_driest_61 : decode cX9_driest 61 = .ok (.aload_n 0, 1) := by decide +kernel
theorem d_Mo_driest_62 : decode cX9_driest 62 = .ok (.getfield 116, 3) := by decide +kernel
theorem d_Mo_driest_65 : decode cX9_driest 65 = .ok (.iload 5, 2) := by decide +kernel
theorem d_Mo_driest_67 : decode cX9_driest 67 = .ok (.iload 5, 2) := by decide +kernel
theorem d_Mo_driest_69 : decode cX9_driest 69 = .ok (.iload_n 1, 1) := by decide +kernel
theorem d_Mo_driest_70 : decode cX9_driest 70 = .ok (.if_icmp .ne 7, 3) := by decide +kernel
theorem d_Mo_driest_73 : decode cX9_driest 73 = .ok (.iload_n 3, 1) := by decide +kernel
theorem d_Mo_driest_74 : decode cX9_driest 74 = .ok (.goto 6, 3) := by decide +kernel
theorem d_Mo_driest_77 : decode cX9_driest 77 = .ok (.ldc_w 430, 3) := by decide +kernel
theorem d_Mo_driest_80 : decode cX9_driest 80 = .ok (.iastore, 1) := by decide +kernel
theorem d_Mo_driest_81 : decode cX9_driest 81 = .ok (.iinc 5 1, 3) := by decide +kernel
theorem d_Mo_driest_84 : decode cX9_driest 84 = .ok (.goto (-30), 3) := by decide +kernel
theorem d_Mo_driest_87 : decode cX9_driest 87 = .ok (.ldc_w 430, 3) := by decide +kernel
theorem d_Mo_driest_90 : decode cX9_driest 90 = .ok (.istore 5, 2) := by decide +kernel
theorem d_Mo_driest_92 : decode cX9_driest 92 = .ok (.iconst (-1), 1) := by decide +kernel
theorem d_Mo_driest_93 : decode cX9_driest 93 = .ok (.istore 6, 2) := by decide +kernel
theorem d_Mo_driest_95 : decode cX9_driest 95 = .ok (.iconst 0, 1) := by decide +kernel
theorem d_Mo_driest_96 : decode cX9_driest 96 = .ok (.istore 7, 2) := by decide +kernel
theorem d_Mo_driest_98 : decode cX9_driest 98 = .ok (.iload 7, 2) := by decide +kernel
theorem d_Mo_driest_100 : decode cX9_driest 100 = .ok (.bipush 12, 2) := by decide +kernel
theorem d_Mo_driest_102 : decode cX9_driest 102 = .ok (.if_icmp .gt 47, 3) := by decide +kernel
theorem d_Mo_driest_105 : decode cX9_driest 105 = .ok (.aload_n 0, 1) := by decide +kernel
theorem d_Mo_driest_106 : decode cX9_driest 106 = .ok (.getfield 116, 3) := by decide +kernel
theorem d_Mo_driest_109 : decode cX9_driest 109 = .ok (.iload_n 2, 1) := by decide +kernel
theorem d_Mo_driest_110 : decode cX9_driest 110 = .ok (.iaload, 1) := by decide +kernel
theorem d_Mo_driest_111 : decode cX9_driest 111 = .ok (.iload 5, 2) := by decide +kernel
theorem d_Mo_driest_113 : decode cX9_driest 113 = .ok (.if_icmp .ge 8, 3) := by decide +kernel
theorem d_Mo_driest_116 : decode cX9_driest 116 = .ok (.iload 7, 2) := by decide +kernel
theorem d_Mo_driest_118 : decode cX9_driest 118 = .ok (.goto 5, 3) := by decide +kernel
theorem d_Mo_driest_121 : decode cX9_driest 121 = .ok (.iload 6, 2) := by decide +kernel
theorem d_Mo_driest_123 : decode cX9_driest 123 = .ok (.istore 6, 2) := by decide +kernel
theorem d_Mo_driest_125 : decode cX9_driest 125 = .ok (.aload_n 0, 1) := by decide +kernel
theorem d_Mo_driest_126 : decode cX9_driest 126 = .ok (.iload 5, 2) := by decide +kernel
theorem d_Mo_driest_128 : decode cX9_driest 128 = .ok (.aload_n 0, 1) := by decide +kernel
theorem d_Mo_driest_129 : decode cX9_driest 129 = .ok (.getfield 116, 3) := by decide +kernel
theorem d_Mo_driest_132 : decode cX9_driest 132 = .ok (.iload_n 2, 1) := by decide +kernel
theorem d_Mo_driest_133 : decode cX9_driest 133 = .ok (.iaload, 1) := by decide +kernel
theorem d_Mo_driest_134 : decode cX9_driest 134 = .ok (.invokevirtual 369, 3) := by decide +kernel
theorem d_Mo_driest_137 : decode cX9_driest 137 = .ok (.istore 5, 2) := by decide +kernel
theorem d_Mo_driest_139 : decode cX9_driest 139 = .ok (.aload_n 0, 1) := by decide +kernel
theorem d_Mo_driest_140 : decode cX9_driest 140 = .ok (.invokevirtual 458, 3) := by decide +kernel
theorem d_Mo_driest_143 : decode cX9_driest 143 = .ok (.iinc 7 1, 3) := by decide +kernel
theorem d_Mo_driest_146 : decode cX9_driest 146 = .ok (.goto (-48), 3) := by decide +kernel
theorem d_Mo_driest_149 : decode cX9_driest 149 = .ok (.iload 5, 2) := by decide +kernel
theorem d_Mo_driest_151 : decode cX9_driest 151 = .ok (.ldc_w 430, 3) := by decide +kernel
theorem d_Mo_driest_154 : decode cX9_driest 154 = .ok (.if_icmp .eq 9, 3) := by decide +kernel
theorem d_Mo_driest_157 : decode cX9_driest 157 = .ok (.iload 4, 2) := by decide +kernel
theorem d_Mo_driest_159 : decode cX9_driest 159 = .ok (.iconst 1, 1) := by decide +kernel
theorem d_Mo_driest_160 : decode cX9_driest 160 = .ok (.if_icmp .ne 8, 3) := by decide +kernel
theorem d_Mo_driest_163 : decode cX9_driest 163 = .ok (.iload 6, 2) := by decide +kernel
theorem d_Mo_driest_165 : decode cX9_driest 165 = .ok (.goto 5, 3) := by decide +kernel
theorem d_Mo_driest_168 : decode cX9_driest 168 = .ok (.iload 5, 2) := by decide +kernel
theorem d_Mo_driest_170 : decode cX9_driest 170 = .ok (.ireturn, 1) := by decide +kernel
theorem d_Mo_count_0 : decode cX9_count 0 = .ok (.aload_n 0, 1) := by decide +kernel
theorem d_Mo_count_1 : decode cX9_count 1 = .ok (.iconst 0, 1) := by decide +kernel
theorem d_Mo_count_2 : decode cX9_count 2 = .ok (.putfield 140, 3) := by decide +kernel
theorem d_Mo_count_5 : decode cX9_count 5 = .ok (.aload_n 0, 1) := by decide +kernel
theorem d_Mo_count_6 : decode cX9_count 6 = .ok (.iload_n 1, 1) := by decide +kernel
theorem d_Mo_count_7 : decode cX9_count 7 = .ok (.iconst 0, 1) := by decide +kernel
theorem d_Mo_count_8 : decode cX9_count 8 = .ok (.iconst 5, 1) := by decide +kernel
theorem d_Mo_count_9 : decode cX9_count 9 = .ok (.invokevirtual 162, 3) := by decide +kernel
theorem d_Mo_count_12 : decode cX9_count 12 = .ok (.ifCond .eq 25, 3) := by decide +kernel
theorem d_Mo_count_15 : decode cX9_count 15 = .ok (.aload_n 0, 1) := by decide +kernel
theorem d_Mo_count_16 : decode cX9_count 16 = .ok (.iload_n 2, 1) := by decide +kernel
theorem d_Mo_count_17 : decode cX9_count 17 = .ok (.iconst 0, 1) := by decide +kernel
theorem d_Mo_count_18 : decode cX9_count 18 = .ok (.iconst 3, 1) := by decide +kernel
theorem d_Mo_count_19 : decode cX9_count 19 = .ok (.invokevirtual 162, 3) := by decide +kernel
theorem d_Mo_count_22 : decode cX9_count 22 = .ok (.ifCond .eq 15, 3) := by decide +kernel
theorem d_Mo_count_25 : decode cX9_count 25 = .ok (.aload_n 0, 1) := by decide +kernel
theorem d_Mo_count_26 : decode cX9_count 26 = .ok (.iload_n 3, 1) := by decide +kernel
theorem d_Mo_count_27 : decode cX9_count 27 = .ok (.iconst 0, 1) := by decide +kernel
theorem d_Mo_count_28 : decode cX9_count 28 = .ok (.sipush 999, 3) := by decide +kernel
theorem d_Mo_count_31 : decode cX9_count 31 = .ok (.invokevirtual 162, 3) := by decide +kernel
theorem d_Mo_count_34 : decode cX9_count 34 = .ok (.ifCond .ne 5, 3) := by decide +kernel
theorem d_Mo_count_37 : decode cX9_count 37 = .ok (.iconst 0, 1) := by decide +kernel
theorem d_Mo_count_38 : decode cX9_count 38 = .ok (.ireturn, 1) := by decide +kernel
theorem d_Mo_count_39 : decode cX9_count 39 = .ok (.aload_n 0, 1) := by decide +kernel
theorem d_Mo_count_40 : decode cX9_count 40 = .ok (.getfield 122, 3) := by decide +kernel
theorem d_Mo_count_43 : decode cX9_count 43 = .ok (.iconst 4, 1) := by decide +kernel
theorem d_Mo_count_44 : decode cX9_count 44 = .ok (.iload_n 1, 1) := by decide +kernel
theorem d_Mo_count_45 : decode cX9_count 45 = .ok (.imul, 1) := by decide +kernel
theorem d_Mo_count_46 : decode cX9_count 46 = .ok (.iload_n 2, 1) := by decide +kernel
theorem d_Mo_count_47 : decode cX9_count 47 = .ok (.iadd, 1) := by decide +kernel
theorem d_Mo_count_48 : decode cX9_count 48 = .ok (.iload_n 3, 1) := by decide +kernel
theorem d_Mo_count_49 : decode cX9_count 49 = .ok (.iastore, 1) := by decide +kernel
theorem d_Mo_count_50 : decode cX9_count 50 = .ok (.iconst 1, 1) := by decide +kernel
theorem d_Mo_count_51 : decode cX9_count 51 = .ok (.ireturn, 1) := by decide +kernel
theorem d_Mo_oddsOf_0 : decode cX9_oddsOf 0 = .ok (.iconst 4, 1) := by decide +kernel
theorem d_Mo_oddsOf_1 : decode cX9_oddsOf 1 = .ok (.istore_n 3, 1) := by decide +kernel
theorem d_Mo_oddsOf_2 : decode cX9_oddsOf 2 = .ok (.iconst 0, 1) := by decide +kernel
theorem d_Mo_oddsOf_3 : decode cX9_oddsOf 3 = .ok (.istore 4, 2) := by decide +kernel
theorem d_Mo_oddsOf_5 : decode cX9_oddsOf 5 = .ok (.iload 4, 2) := by decide +kernel
theorem d_Mo_oddsOf_7 : decode cX9_oddsOf 7 = .ok (.iconst 4, 1) := by decide +kernel
theorem d_Mo_oddsOf_8 : decode cX9_oddsOf 8 = .ok (.if_icmp .ge 23, 3) := by decide +kernel
theorem d_Mo_oddsOf_11 : decode cX9_oddsOf 11 = .ok (.iload_n 3, 1) := by decide +kernel
theorem d_Mo_oddsOf_12 : decode cX9_oddsOf 12 = .ok (.aload_n 0, 1) := by decide +kernel
theorem d_Mo_oddsOf_13 : decode cX9_oddsOf 13 = .ok (.getfield 122, 3) := by decide +kernel
theorem d_Mo_oddsOf_16 : decode cX9_oddsOf 16 = .ok (.iconst 4, 1) := by decide +kernel
theorem d_Mo_oddsOf_17 : decode cX9_oddsOf 17 = .ok (.iload_n 1, 1) := by decide +kernel
theorem d_Mo_oddsOf_18 : decode cX9_oddsOf 18 = .ok (.imul, 1) := by decide +kernel
theorem d_Mo_oddsOf_19 : decode cX9_oddsOf 19 = .ok (.iload 4, 2) := by decide +kernel
theorem d_Mo_oddsOf_21 : decode cX9_oddsOf 21 = .ok (.iadd, 1) := by decide +kernel
theorem d_Mo_oddsOf_22 : decode cX9_oddsOf 22 = .ok (.iaload, 1) := by decide +kernel
theorem d_Mo_oddsOf_23 : decode cX9_oddsOf 23 = .ok (.iadd, 1) := by decide +kernel
theorem d_Mo_oddsOf_24 : decode cX9_oddsOf 24 = .ok (.istore_n 3, 1) := by decide +kernel
theorem d_Mo_oddsOf_25 : decode cX9_oddsOf 25 = .ok (.iinc 4 1, 3) := by decide +kernel
theorem d_Mo_oddsOf_28 : decode cX9_oddsOf 28 = .ok (.goto (-23), 3) := by decide +kernel
theorem d_Mo_oddsOf_31 : decode cX9_oddsOf 31 = .ok (.ldc_w 461, 3) := by decide +kernel
theorem d_Mo_oddsOf_34 : decode cX9_oddsOf 34 = .ok (.istore 4, 2) := by decide +kernel
theorem d_Mo_oddsOf_36 : decode cX9_oddsOf 36 = .ok (.iconst 0, 1) := by decide +kernel
theorem d_Mo_oddsOf_37 : decode cX9_oddsOf 37 = .ok (.istore 5, 2) := by decide +kernel
theorem d_Mo_oddsOf_39 : decode cX9_oddsOf 39 = .ok (.iload 5, 2) := by decide +kernel
theorem d_Mo_oddsOf_41 : decode cX9_oddsOf 41 = .ok (.iconst 4, 1) := by decide +kernel
theorem d_Mo_oddsOf_42 : decode cX9_oddsOf 42 = .ok (.if_icmp .ge 39, 3) := by decide +kernel
theorem d_Mo_oddsOf_45 : decode cX9_oddsOf 45 = .ok (.aload_n 0, 1) := by decide +kernel
theorem d_Mo_oddsOf_46 : decode cX9_oddsOf 46 = .ok (.iload_n 2, 1) := by decide +kernel
theorem d_Mo_oddsOf_47 : decode cX9_oddsOf 47 = .ok (.iload 5, 2) := by decide +kernel
theorem d_Mo_oddsOf_49 : decode cX9_oddsOf 49 = .ok (.invokevirtual 158, 3) := by decide +kernel
theorem d_Mo_oddsOf_52 : decode cX9_oddsOf 52 = .ok (.ifCond .eq 23, 3) := by decide +kernel
theorem d_Mo_oddsOf_55 : decode cX9_oddsOf 55 = .ok (.iload 4, 2) := by decide +kernel
theorem d_Mo_oddsOf_57 : decode cX9_oddsOf 57 = .ok (.aload_n 0, 1) := by decide +kernel
theorem d_Mo_oddsOf_58 : decode cX9_oddsOf 58 = .ok (.getfield 122, 3) := by decide +kernel
theorem d_Mo_oddsOf_61 : decode cX9_oddsOf 61 = .ok (.iconst 4, 1) := by decide +kernel
theorem d_Mo_oddsOf_62 : decode cX9_oddsOf 62 = .ok (.iload_n 1, 1) := by decide +kernel
theorem d_Mo_oddsOf_63 : decode cX9_oddsOf 63 = .ok (.imul, 1) := by decide +kernel
theorem d_Mo_oddsOf_64 : decode cX9_oddsOf 64 = .ok (.iload 5, 2) := by decide +kernel
theorem d_Mo_oddsOf_66 : decode cX9_oddsOf 66 = .ok (.iadd, 1) := by decide +kernel
theorem d_Mo_oddsOf_67 : decode cX9_oddsOf 67 = .ok (.iaload, 1) := by decide +kernel
theorem d_Mo_oddsOf_68 : decode cX9_oddsOf 68 = .ok (.iconst 1, 1) := by decide +kernel
theorem d_Mo_oddsOf_69 : decode cX9_oddsOf 69 = .ok (.iadd, 1) := by decide +kernel
theorem d_Mo_oddsOf_70 : decode cX9_oddsOf 70 = .ok (.imul, 1) := by decide +kernel
theorem d_Mo_oddsOf_71 : decode cX9_oddsOf 71 = .ok (.iload_n 3, 1) := by decide +kernel
theorem d_Mo_oddsOf_72 : decode cX9_oddsOf 72 = .ok (.idiv, 1) := by decide +kernel
theorem d_Mo_oddsOf_73 : decode cX9_oddsOf 73 = .ok (.istore 4, 2) := by decide +kernel
theorem d_Mo_oddsOf_75 : decode cX9_oddsOf 75 = .ok (.iinc 5 1, 3) := by decide +kernel
theorem d_Mo_oddsOf_78 : decode cX9_oddsOf 78 = .ok (.goto (-39), 3) := by decide +kernel
theorem d_Mo_oddsOf_81 : decode cX9_oddsOf 81 = .ok (.iload 4, 2) := by decide +kernel
theorem d_Mo_oddsOf_83 : decode cX9_oddsOf 83 = .ok (.ireturn, 1) := by decide +kernel
theorem d_Mo_shareOf_0 : decode cX9_shareOf 0 = .ok (.iload_n 1, 1) := by decide +kernel
theorem d_Mo_shareOf_1 : decode cX9_shareOf 1 = .ok (.iload_n 2, 1) := by decide +kernel
theorem d_Mo_shareOf_2 : decode cX9_shareOf 2 = .ok (.idiv, 1) := by decide +kernel
theorem d_Mo_shareOf_3 : decode cX9_shareOf 3 = .ok (.istore_n 3, 1) := by decide +kernel
theorem d_Mo_shareOf_4 : decode cX9_shareOf 4 = .ok (.iload_n 1, 1) := by decide +kernel
theorem d_Mo_shareOf_5 : decode cX9_shareOf 5 = .ok (.iload_n 2, 1) := by decide +kernel
theorem d_Mo_shareOf_6 : decode cX9_shareOf 6 = .ok (.irem, 1) := by decide +kernel
theorem d_Mo_shareOf_7 : decode cX9_shareOf 7 = .ok (.istore 4, 2) := by decide +kernel
theorem d_Mo_shareOf_9 : decode cX9_shareOf 9 = .ok (.iconst 0, 1) := by decide +kernel
theorem d_Mo_shareOf_10 : decode cX9_shareOf 10 = .ok (.istore 5, 2) := by decide +kernel
theorem d_Mo_shareOf_12 : decode cX9_shareOf 12 = .ok (.iload 5, 2) := by decide +kernel
theorem d_Mo_shareOf_14 : decode cX9_shareOf 14 = .ok (.bipush 6, 2) := by decide +kernel
theorem d_Mo_shareOf_16 : decode cX9_shareOf 16 = .ok (.if_icmp .ge 32, 3) := by decide +kernel
theorem d_Mo_shareOf_19 : decode cX9_shareOf 19 = .ok (.iload 4, 2) := by decide +kernel
theorem d_Mo_shareOf_21 : decode cX9_shareOf 21 = .ok (.bipush 10, 2) := by decide +kernel
theorem d_Mo_shareOf_23 : decode cX9_shareOf 23 = .ok (.imul, 1) := by decide +kernel
theorem d_Mo_shareOf_24 : decode cX9_shareOf 24 = .ok (.istore 4, 2) := by decide +kernel
theorem d_Mo_shareOf_26 : decode cX9_shareOf 26 = .ok (.bipush 10, 2) := by decide +kernel
theorem d_Mo_shareOf_28 : decode cX9_shareOf 28 = .ok (.iload_n 3, 1) := by decide +kernel
theorem d_Mo_shareOf_29 : decode cX9_shareOf 29 = .ok (.imul, 1) := by decide +kernel
theorem d_Mo_shareOf_30 : decode cX9_shareOf 30 = .ok (.iload 4, 2) := by decide +kernel
theorem d_Mo_shareOf_32 : decode cX9_shareOf 32 = .ok (.iload_n 2, 1) := by decide +kernel
theorem d_Mo_shareOf_33 : decode cX9_shareOf 33 = .ok (.idiv, 1) := by decide +kernel
theorem d_Mo_shareOf_34 : decode cX9_shareOf 34 = .ok (.iadd, 1) := by decide +kernel
theorem d_Mo_shareOf_35 : decode cX9_shareOf 35 = .ok (.istore_n 3, 1) := by decide +kernel
theorem d_Mo_shareOf_36 : decode cX9_shareOf 36 = .ok (.iload 4, 2) := by decide +kernel
theorem d_Mo_shareOf_38 : decode cX9_shareOf 38 = .ok (.iload_n 2, 1) := by decide +kernel
theorem d_Mo_shareOf_39 : decode cX9_shareOf 39 = .ok (.irem, 1) := by decide +kernel
theorem d_Mo_shareOf_40 : decode cX9_shareOf 40 = .ok (.istore 4, 2) := by decide +kernel
theorem d_Mo_shareOf_42 : decode cX9_shareOf 42 = .ok (.iinc 5 1, 3) := by decide +kernel
theorem d_Mo_shareOf_45 : decode cX9_shareOf 45 = .ok (.goto (-33), 3) := by decide +kernel
theorem d_Mo_shareOf_48 : decode cX9_shareOf 48 = .ok (.iload_n 3, 1) := by decide +kernel
theorem d_Mo_shareOf_49 : decode cX9_shareOf 49 = .ok (.ireturn, 1) := by decide +kernel
theorem d_Mo_likely_0 : decode cX9_likely 0 = .ok (.aload_n 0, 1) := by decide +kernel
theorem d_Mo_likely_1 : decode cX9_likely 1 = .ok (.iconst 0, 1) := by decide +kernel
theorem d_Mo_likely_2 : decode cX9_likely 2 = .ok (.putfield 140, 3) := by decide +kernel
theorem d_Mo_likely_5 : decode cX9_likely 5 = .ok (.aload_n 0, 1) := by decide +kernel
theorem d_Mo_likely_6 : decode cX9_likely 6 = .ok (.iload_n 1, 1) := by decide +kernel
theorem d_Mo_likely_7 : decode cX9_likely 7 = .ok (.iconst (-1), 1) := by decide +kernel
theorem d_Mo_likely_8 : decode cX9_likely 8 = .ok (.iconst 5, 1) := by decide +kernel
theorem d_Mo_likely_9 : decode cX9_likely 9 = .ok (.invokevirtual 162, 3) := by decide +kernel
theorem d_Mo_likely_12 : decode cX9_likely 12 = .ok (.ifCond .eq 14, 3) := by decide +kernel
theorem d_Mo_likely_15 : decode cX9_likely 15 = .ok (.aload_n 0, 1) := by decide +kernel
theorem d_Mo_likely_16 : decode cX9_likely 16 = .ok (.iload_n 2, 1) := by decide +kernel
theorem d_Mo_likely_17 : decode cX9_likely 17 = .ok (.iconst 0, 1) := by decide +kernel
theorem d_Mo_likely_18 : decode cX9_likely 18 = .ok (.bipush 15, 2) := by decide +kernel
theorem d_Mo_likely_20 : decode cX9_likely 20 = .ok (.invokevirtual 162, 3) := by decide +kernel
theorem d_Mo_likely_23 : decode cX9_likely 23 = .ok (.ifCond .ne 5, 3) := by decide +kernel
theorem d_Mo_likely_26 : decode cX9_likely 26 = .ok (.iconst (-1), 1) := by decide +kernel
theorem d_Mo_likely_27 : decode cX9_likely 27 = .ok (.ireturn, 1) := by decide +kernel
theorem d_Mo_likely_28 : decode cX9_likely 28 = .ok (.iconst 0, 1) := by decide +kernel
theorem d_Mo_likely_29 : decode cX9_likely 29 = .ok (.istore_n 3, 1) := by decide +kernel
theorem d_Mo_likely_30 : decode cX9_likely 30 = .ok (.iconst 0, 1) := by decide +kernel
theorem d_Mo_likely_31 : decode cX9_likely 31 = .ok (.istore 4, 2) := by decide +kernel
theorem d_Mo_likely_33 : decode cX9_likely 33 = .ok (.iconst 0, 1) := by decide +kernel
theorem d_Mo_likely_34 : decode cX9_likely 34 = .ok (.istore 5, 2) := by decide +kernel
theorem d_Mo_likely_36 : decode cX9_likely 36 = .ok (.iload 5, 2) := by decide +kernel
theorem d_Mo_likely_38 : decode cX9_likely 38 = .ok (.bipush 6, 2) := by decide +kernel
theorem d_Mo_likely_40 : decode cX9_likely 40 = .ok (.if_icmp .ge 45, 3) := by decide +kernel
theorem d_Mo_likely_43 : decode cX9_likely 43 = .ok (.iload_n 3, 1) := by decide +kernel
theorem d_Mo_likely_44 : decode cX9_likely 44 = .ok (.aload_n 0, 1) := by decide +kernel
theorem d_Mo_likely_45 : decode cX9_likely 45 = .ok (.iload 5, 2) := by decide +kernel
theorem d_Mo_likely_47 : decode cX9_likely 47 = .ok (.iload_n 2, 1) := by decide +kernel
theorem d_Mo_likely_48 : decode cX9_likely 48 = .ok (.invokevirtual 462, 3) := by decide +kernel
theorem d_Mo_likely_51 : decode cX9_likely 51 = .ok (.iadd, 1) := by decide +kernel
theorem d_Mo_likely_52 : decode cX9_likely 52 = .ok (.istore_n 3, 1) := by decide +kernel
theorem d_Mo_likely_53 : decode cX9_likely 53 = .ok (.aload_n 0, 1) := by decide +kernel
theorem d_Mo_likely_54 : decode cX9_likely 54 = .ok (.iload 5, 2) := by decide +kernel
theorem d_Mo_likely_56 : decode cX9_likely 56 = .ok (.iload_n 2, 1) := by decide +kernel
theorem d_Mo_likely_57 : decode cX9_likely 57 = .ok (.invokevirtual 462, 3) := by decide +kernel
theorem d_Mo_likely_60 : decode cX9_likely 60 = .ok (.aload_n 0, 1) := by decide +kernel
theorem d_Mo_likely_61 : decode cX9_likely 61 = .ok (.iload 4, 2) := by decide +kernel
theorem d_Mo_likely_63 : decode cX9_likely 63 = .ok (.iload_n 2, 1) := by decide +kernel
theorem d_Mo_likely_64 : decode cX9_likely 64 = .ok (.invokevirtual 462, 3) := by decide +kernel
theorem d_Mo_likely_67 : decode cX9_likely 67 = .ok (.if_icmp .le 8, 3) := by decide +kernel
theorem d_Mo_likely_70 : decode cX9_likely 70 = .ok (.iload 5, 2) := by decide +kernel
theorem d_Mo_likely_72 : decode cX9_likely 72 = .ok (.goto 5, 3) := by decide +kernel
theorem d_Mo_likely_75 : decode cX9_likely 75 = .ok (.iload 4, 2) := by decide +kernel
theorem d_Mo_likely_77 : decode cX9_likely 77 = .ok (.istore 4, 2) := by decide +kernel
theorem d_Mo_likely_79 : decode cX9_likely 79 = .ok (.iinc 5 1, 3) := by decide +kernel
theorem d_Mo_likely_82 : decode cX9_likely 82 = .ok (.goto (-46), 3) := by decide +kernel
theorem d_Mo_likely_85 : decode cX9_likely 85 = .ok (.iload_n 1, 1) := by decide +kernel
theorem d_Mo_likely_86 : decode cX9_likely 86 = .ok (.iconst (-1), 1) := by decide +kernel
theorem d_Mo_likely_87 : decode cX9_likely 87 = .ok (.if_icmp .ne 6, 3) := by decide +kernel
theorem d_Mo_likely_90 : decode cX9_likely 90 = .ok (.iload 4, 2) := by decide +kernel
theorem d_Mo_likely_92 : decode cX9_likely 92 = .ok (.ireturn, 1) := by decide +kernel
theorem d_Mo_likely_93 : decode cX9_likely 93 = .ok (.iload_n 3, 1) := by decide +kernel
theorem d_Mo_likely_94 : decode cX9_likely 94 = .ok (.ifCond .ne 7, 3) := by decide +kernel
theorem d_Mo_likely_97 : decode cX9_likely 97 = .ok (.iconst 0, 1) := by decide +kernel
theorem d_Mo_likely_98 : decode cX9_likely 98 = .ok (.goto 14, 3) := by decide +kernel
theorem d_Mo_likely_101 : decode cX9_likely 101 = .ok (.aload_n 0, 1) := by decide +kernel
theorem d_Mo_likely_102 : decode cX9_likely 102 = .ok (.aload_n 0, 1) := by decide +kernel
theorem d_Mo_likely_103 : decode cX9_likely 103 = .ok (.iload_n 1, 1) := by decide +kernel
theorem d_Mo_likely_104 : decode cX9_likely 104 = .ok (.iload_n 2, 1) := by decide +kernel
theorem d_Mo_likely_105 : decode cX9_likely 105 = .ok (.invokevirtual 462, 3) := by decide +kernel
theorem d_Mo_likely_108 : decode cX9_likely 108 = .ok (.iload_n 3, 1) := by decide +kernel
theorem d_Mo_likely_109 : decode cX9_likely 109 = .ok (.invokevirtual 465, 3) := by decide +kernel
theorem d_Mo_likely_112 : decode cX9_likely 112 = .ok (.ireturn, 1) := by decide +kernel
theorem d_Mo_salt_0 : decode cX9_salt 0 = .ok (.aload_n 0, 1) := by decide +kernel
theorem d_Mo_salt_1 : decode cX9_salt 1 = .ok (.iconst 0, 1) := by decide +kernel
theorem d_Mo_salt_2 : decode cX9_salt 2 = .ok (.putfield 140, 3) := by decide +kernel
theorem d_Mo_salt_5 : decode cX9_salt 5 = .ok (.iload_n 1, 1) := by decide +kernel
theorem d_Mo_salt_6 : decode cX9_salt 6 = .ok (.iconst (-1), 1) := by decide +kernel
theorem d_Mo_salt_7 : decode cX9_salt 7 = .ok (.if_icmp .ne 10, 3) := by decide +kernel
theorem d_Mo_salt_10 : decode cX9_salt 10 = .ok (.aload_n 0, 1) := by decide +kernel
theorem d_Mo_salt_11 : decode cX9_salt 11 = .ok (.iconst 0, 1) := by decide +kernel
theorem d_Mo_salt_12 : decode cX9_salt 12 = .ok (.putfield 468, 3) := by decide +kernel
theorem d_Mo_salt_15 : decode cX9_salt 15 = .ok (.iconst 0, 1) := by decide +kernel
theorem d_Mo_salt_16 : decode cX9_salt 16 = .ok (.ireturn, 1) := by decide +kernel
theorem d_Mo_salt_17 : decode cX9_salt 17 = .ok (.aload_n 0, 1) := by decide +kernel
theorem d_Mo_salt_18 : decode cX9_salt 18 = .ok (.iload_n 1, 1) := by decide +kernel
theorem d_Mo_salt_19 : decode cX9_salt 19 = .ok (.iconst 0, 1) := by decide +kernel
theorem d_Mo_salt_20 : decode cX9_salt 20 = .ok (.bipush 99, 2) := by decide +kernel
theorem d_Mo_salt_22 : decode cX9_salt 22 = .ok (.invokevirtual 162, 3) := by decide +kernel
theorem d_Mo_salt_25 : decode cX9_salt 25 = .ok (.ifCond .eq 12, 3) := by decide +kernel
theorem d_Mo_salt_28 : decode cX9_salt 28 = .ok (.aload_n 0, 1) := by decide +kernel
theorem d_Mo_salt_29 : decode cX9_salt 29 = .ok (.getfield 468, 3) := by decide +kernel
theorem d_Mo_salt_32 : decode cX9_salt 32 = .ok (.bipush 12, 2) := by decide +kernel
theorem d_Mo_salt_34 : decode cX9_salt 34 = .ok (.if_icmp .ne 5, 3) := by decide +kernel
theorem d_Mo_salt_37 : decode cX9_salt 37 = .ok (.iconst (-1), 1) := by decide +kernel
theorem d_Mo_salt_38 : decode cX9_salt 38 = .ok (.ireturn, 1) := by decide +kernel
theorem d_Mo_salt_39 : decode cX9_salt 39 = .ok (.aload_n 0, 1) := by decide +kernel
theorem d_Mo_salt_40 : decode cX9_salt 40 = .ok (.getfield 125, 3) := by decide +kernel
theorem d_Mo_salt_43 : decode cX9_salt 43 = .ok (.aload_n 0, 1) := by decide +kernel
theorem d_Mo_salt_44 : decode cX9_salt 44 = .ok (.getfield 468, 3) := by decide +kernel
theorem d_Mo_salt_47 : decode cX9_salt 47 = .ok (.iload_n 1, 1) := by decide +kernel
theorem d_Mo_salt_48 : decode cX9_salt 48 = .ok (.iastore, 1) := by decide +kernel
theorem d_Mo_salt_49 : decode cX9_salt 49 = .ok (.aload_n 0, 1) := by decide +kernel
theorem d_Mo_salt_50 : decode cX9_salt 50 = .ok (.aload_n 0, 1) := by decide +kernel
theorem d_Mo_salt_51 : decode cX9_salt 51 = .ok (.getfield 468, 3) := by decide +kernel
theorem d_Mo_salt_54 : decode cX9_salt 54 = .ok (.iconst 1, 1) := by decide +kernel
theorem d_Mo_salt_55 : decode cX9_salt 55 = .ok (.iadd, 1) := by decide +kernel
theorem d_Mo_salt_56 : decode cX9_salt 56 = .ok (.putfield 468, 3) := by decide +kernel
theorem d_Mo_salt_59 : decode cX9_salt 59 = .ok (.aload_n 0, 1) := by decide +kernel
theorem d_Mo_salt_60 : decode cX9_salt 60 = .ok (.getfield 468, 3) := by decide +kernel
theorem d_Mo_salt_63 : decode cX9_salt 63 = .ok (.ireturn, 1) := by decide +kernel
theorem d_Mo_won_0 : decode cX9_won 0 = .ok (.aload_n 0, 1) := by decide +kernel
theorem d_Mo_won_1 : decode cX9_won 1 = .ok (.iconst 0, 1) := by decide +kernel
theorem d_Mo_won_2 : decode cX9_won 2 = .ok (.putfield 140, 3) := by decide +kernel
theorem d_Mo_won_5 : decode cX9_won 5 = .ok (.aload_n 0, 1) := by decide +kernel
theorem d_Mo_won_6 : decode cX9_won 6 = .ok (.iload_n 1, 1) := by decide +kernel
theorem d_Mo_won_7 : decode cX9_won 7 = .ok (.iconst 1, 1) := by decide +kernel
theorem d_Mo_won_8 : decode cX9_won 8 = .ok (.iconst 3, 1) := by decide +kernel
theorem d_Mo_won_9 : decode cX9_won 9 = .ok (.invokevirtual 162, 3) := by decide +kernel
theorem d_Mo_won_12 : decode cX9_won 12 = .ok (.ifCond .ne 5, 3) := by decide +kernel
theorem d_Mo_won_15 : decode cX9_won 15 = .ok (.iconst (-1), 1) := by decide +kernel
theorem d_Mo_won_16 : decode cX9_won 16 = .ok (.ireturn, 1) := by decide +kernel
theorem d_Mo_won_17 : decode cX9_won 17 = .ok (.iconst 0, 1) := by decide +kernel
theorem d_Mo_won_18 : decode cX9_won 18 = .ok (.istore_n 2, 1) := by decide +kernel
theorem d_Mo_won_19 : decode cX9_won 19 = .ok (.iload_n 2, 1) := by decide +kernel
theorem d_Mo_won_20 : decode cX9_won 20 = .ok (.iconst 4, 1) := by decide +kernel
theorem d_Mo_won_21 : decode cX9_won 21 = .ok (.if_icmp .ge 25, 3) := by decide +kernel
theorem d_Mo_won_24 : decode cX9_won 24 = .ok (.aload_n 0, 1) := by decide +kernel
theorem d_Mo_won_25 : decode cX9_won 25 = .ok (.getfield 128, 3) := by decide +kernel
theorem d_Mo_won_28 : decode cX9_won 28 = .ok (.iload_n 2, 1) := by decide +kernel
theorem d_Mo_won_29 : decode cX9_won 29 = .ok (.iconst 0, 1) := by decide +kernel
theorem d_Mo_won_30 : decode cX9_won 30 = .ok (.iastore, 1) := by decide +kernel
theorem d_Mo_won_31 : decode cX9_won 31 = .ok (.aload_n 0, 1) := by decide +kernel
theorem d_Mo_won_32 : decode cX9_won 32 = .ok (.getfield 131, 3) := by decide +kernel
theorem d_Mo_won_35 : decode cX9_won 35 = .ok (.iload_n 2, 1) := by decide +kernel
theorem d_Mo_won_36 : decode cX9_won 36 = .ok (.ldc_w 471, 3) := by decide +kernel
theorem d_Mo_won_39 : decode cX9_won 39 = .ok (.iastore, 1) := by decide +kernel
theorem d_Mo_won_40 : decode cX9_won 40 = .ok (.iinc 2 1, 3) := by decide +kernel
theorem d_Mo_won_43 : decode cX9_won 43 = .ok (.goto (-24), 3) := by decide +kernel
theorem d_Mo_won_46 : decode cX9_won 46 = .ok (.iconst 0, 1) := by decide +kernel
theorem d_Mo_won_47 : decode cX9_won 47 = .ok (.istore_n 2, 1) := by decide +kernel
theorem d_Mo_won_48 : decode cX9_won 48 = .ok (.iload_n 2, 1) := by decide +kernel
theorem d_Mo_won_49 : decode cX9_won 49 = .ok (.aload_n 0, 1) := by decide +kernel
theorem d_Mo_won_50 : decode cX9_won 50 = .ok (.getfield 468, 3) := by decide +kernel
theorem d_Mo_won_53 : decode cX9_won 53 = .ok (.if_icmp .ge 82, 3) := by decide +kernel
theorem d_Mo_won_56 : decode cX9_won 56 = .ok (.iconst 1, 1) := by decide +kernel
theorem d_Mo_won_57 : decode cX9_won 57 = .ok (.istore_n 3, 1) := by decide +kernel
theorem d_Mo_won_58 : decode cX9_won 58 = .ok (.iload_n 3, 1) := by decide +kernel
theorem d_Mo_won_59 : decode cX9_won 59 = .ok (.iload_n 1, 1) := by decide +kernel
theorem d_Mo_won_60 : decode cX9_won 60 = .ok (.if_icmp .gt 69, 3) := by decide +kernel
theorem d_Mo_won_63 : decode cX9_won 63 = .ok (.aload_n 0, 1) := by decide +kernel
theorem d_Mo_won_64 : decode cX9_won 64 = .ok (.getfield 128, 3) := by decide +kernel
theorem d_Mo_won_67 : decode cX9_won 67 = .ok (.iload_n 3, 1) := by decide +kernel
theorem d_Mo_won_68 : decode cX9_won 68 = .ok (.aload_n 0, 1) := by decide +kernel
theorem d_Mo_won_69 : decode cX9_won 69 = .ok (.aload_n 0, 1) := by decide +kernel
theorem d_Mo_won_70 : decode cX9_won 70 = .ok (.getfield 128, 3) := by decide +kernel
theorem d_Mo_won_73 : decode cX9_won 73 = .ok (.iload_n 3, 1) := by decide +kernel
theorem d_Mo_won_74 : decode cX9_won 74 = .ok (.iaload, 1) := by decide +kernel
theorem d_Mo_won_75 : decode cX9_won 75 = .ok (.aload_n 0, 1) := by decide +kernel
theorem d_Mo_won_76 : decode cX9_won 76 = .ok (.getfield 131, 3) := by decide +kernel
theorem d_Mo_won_79 : decode cX9_won 79 = .ok (.iload_n 3, 1) := by decide +kernel
theorem d_Mo_won_80 : decode cX9_won 80 = .ok (.iaload, 1) := by decide +kernel
theorem d_Mo_won_81 : decode cX9_won 81 = .ok (.aload_n 0, 1) := by decide +kernel
theorem d_Mo_won_82 : decode cX9_won 82 = .ok (.getfield 125, 3) := by decide +kernel
theorem d_Mo_won_85 : decode cX9_won 85 = .ok (.iload_n 2, 1) := by decide +kernel
theorem d_Mo_won_86 : decode cX9_won 86 = .ok (.iaload, 1) := by decide +kernel
theorem d_Mo_won_87 : decode cX9_won 87 = .ok (.iadd, 1) := by decide +kernel
theorem d_Mo_won_88 : decode cX9_won 88 = .ok (.invokevirtual 339, 3) := by decide +kernel
theorem d_Mo_won_91 : decode cX9_won 91 = .ok (.iastore, 1) := by decide +kernel
theorem d_Mo_won_92 : decode cX9_won 92 = .ok (.aload_n 0, 1) := by decide +kernel
theorem d_Mo_won_93 : decode cX9_won 93 = .ok (.getfield 131, 3) := by decide +kernel
theorem d_Mo_won_96 : decode cX9_won 96 = .ok (.iload_n 3, 1) := by decide +kernel
theorem d_Mo_won_97 : decode cX9_won 97 = .ok (.aload_n 0, 1) := by decide +kernel
theorem d_Mo_won_98 : decode cX9_won 98 = .ok (.aload_n 0, 1) := by decide +kernel
theorem d_Mo_won_99 : decode cX9_won 99 = .ok (.getfield 131, 3) := by decide +kernel
theorem d_Mo_won_102 : decode cX9_won 102 = .ok (.iload_n 3, 1) := by decide +kernel
theorem d_Mo_won_103 : decode cX9_won 103 = .ok (.iaload, 1) := by decide +kernel
theorem d_Mo_won_104 : decode cX9_won 104 = .ok (.aload_n 0, 1) := by decide +kernel
theorem d_Mo_won_105 : decode cX9_won 105 = .ok (.getfield 128, 3) := by decide +kernel
theorem d_Mo_won_108 : decode cX9_won 108 = .ok (.iload_n 3, 1) := by decide +kernel
theorem d_Mo_won_109 : decode cX9_won 109 = .ok (.iconst 1, 1) := by decide +kernel
theorem d_Mo_won_110 : decode cX9_won 110 = .ok (.isub, 1) := by decide +kernel
theorem d_Mo_won_111 : decode cX9_won 111 = .ok (.iaload, 1) := by decide +kernel
theorem d_Mo_won_112 : decode cX9_won 112 = .ok (.aload_n 0, 1) := by decide +kernel
theorem d_Mo_won_113 : decode cX9_won 113 = .ok (.getfield 125, 3) := by decide +kernel
theorem d_Mo_won_116 : decode cX9_won 116 = .ok (.iload_n 2, 1) := by decide +kernel
theorem d_Mo_won_117 : decode cX9_won 117 = .ok (.iaload, 1) := by decide +kernel
theorem d_Mo_won_118 : decode cX9_won 118 = .ok (.isub, 1) := by decide +kernel
theorem d_Mo_won_119 : decode cX9_won 119 = .ok (.invokevirtual 339, 3) := by decide +kernel
theorem d_Mo_won_122 : decode cX9_won 122 = .ok (.iastore, 1) := by decide +kernel
theorem d_Mo_won_123 : decode cX9_won 123 = .ok (.iinc 3 1, 3) := by decide +kernel
theorem d_Mo_won_126 : decode cX9_won 126 = .ok (.goto (-68), 3) := by decide +kernel
theorem d_Mo_won_129 : decode cX9_won 129 = .ok (.iinc 2 1, 3) := by decide +kernel
theorem d_Mo_won_132 : decode cX9_won 132 = .ok (.goto (-84), 3) := by decide +kernel
theorem d_Mo_won_135 : decode cX9_won 135 = .ok (.iconst 0, 1) := by decide +kernel
theorem d_Mo_won_136 : decode cX9_won 136 = .ok (.istore_n 2, 1) := by decide +kernel
theorem d_Mo_won_137 : decode cX9_won 137 = .ok (.iconst 0, 1) := by decide +kernel
theorem d_Mo_won_138 : decode cX9_won 138 = .ok (.istore_n 3, 1) := by decide +kernel
theorem d_Mo_won_139 : decode cX9_won 139 = .ok (.iload_n 3, 1) := by decide +kernel
theorem d_Mo_won_140 : decode cX9_won 140 = .ok (.iload_n 1, 1) := by decide +kernel
theorem d_Mo_won_141 : decode cX9_won 141 = .ok (.if_icmp .gt 21, 3) := by decide +kernel
theorem d_Mo_won_144 : decode cX9_won 144 = .ok (.aload_n 0, 1) := by decide +kernel
theorem d_Mo_won_145 : decode cX9_won 145 = .ok (.iload_n 2, 1) := by decide +kernel
theorem d_Mo_won_146 : decode cX9_won 146 = .ok (.aload_n 0, 1) := by decide +kernel
theorem d_Mo_won_147 : decode cX9_won 147 = .ok (.getfield 128, 3) := by decide +kernel
theorem d_Mo_won_150 : decode cX9_won 150 = .ok (.iload_n 3, 1) := by decide +kernel
theorem d_Mo_won_151 : decode cX9_won 151 = .ok (.iaload, 1) := by decide +kernel
theorem d_Mo_won_152 : decode cX9_won 152 = .ok (.invokevirtual 339, 3) := by decide +kernel
theorem d_Mo_won_155 : decode cX9_won 155 = .ok (.istore_n 2, 1) := by decide +kernel
theorem d_Mo_won_156 : decode cX9_won 156 = .ok (.iinc 3 1, 3) := by decide +kernel
theorem d_Mo_won_159 : decode cX9_won 159 = .ok (.goto (-20), 3) := by decide +kernel
theorem d_Mo_won_162 : decode cX9_won 162 = .ok (.iload_n 2, 1) := by decide +kernel
theorem d_Mo_won_163 : decode cX9_won 163 = .ok (.ireturn, 1) := by decide +kernel
theorem d_Mo_ledger_0 : decode cX9_ledger 0 = .ok (.aload_n 0, 1) := by decide +kernel
theorem d_Mo_ledger_1 : decode cX9_ledger 1 = .ok (.iconst 0, 1) := by decide +kernel
theorem d_Mo_ledger_2 : decode cX9_ledger 2 = .ok (.putfield 140, 3) := by decide +kernel
theorem d_Mo_ledger_5 : decode cX9_ledger 5 = .ok (.aload_n 0, 1) := by decide +kernel
theorem d_Mo_ledger_6 : decode cX9_ledger 6 = .ok (.iload_n 1, 1) := by decide +kernel
theorem d_Mo_ledger_7 : decode cX9_ledger 7 = .ok (.iconst 0, 1) := by decide +kernel
theorem d_Mo_ledger_8 : decode cX9_ledger 8 = .ok (.bipush 23, 2) := by decide +kernel
theorem d_Mo_ledger_10 : decode cX9_ledger 10 = .ok (.invokevirtual 162, 3) := by decide +kernel
theorem d_Mo_ledger_13 : decode cX9_ledger 13 = .ok (.ifCond .eq 26, 3) := by decide +kernel
theorem d_Mo_ledger_16 : decode cX9_ledger 16 = .ok (.aload_n 0, 1) := by decide +kernel
theorem d_Mo_ledger_17 : decode cX9_ledger 17 = .ok (.iload_n 2, 1) := by decide +kernel
theorem d_Mo_ledger_18 : decode cX9_ledger 18 = .ok (.iconst 0, 1) := by decide +kernel
theorem d_Mo_ledger_19 : decode cX9_ledger 19 = .ok (.iload_n 1, 1) := by decide +kernel
theorem d_Mo_ledger_20 : decode cX9_ledger 20 = .ok (.bipush 16, 2) := by decide +kernel
theorem d_Mo_ledger_22 : decode cX9_ledger 22 = .ok (.if_icmp .ge 8, 3) := by decide +kernel
theorem d_Mo_ledger_25 : decode cX9_ledger 25 = .ok (.bipush 99, 2) := by decide +kernel
theorem d_Mo_ledger_27 : decode cX9_ledger 27 = .ok (.goto 6, 3) := by decide +kernel
theorem d_Mo_ledger_30 : decode cX9_ledger 30 = .ok (.sipush 999, 3) := by decide +kernel
theorem d_Mo_ledger_33 : decode cX9_ledger 33 = .ok (.invokevirtual 162, 3) := by decide +kernel
theorem d_Mo_ledger_36 : decode cX9_ledger 36 = .ok (.ifCond .ne 5, 3) := by decide +kernel
theorem d_Mo_ledger_39 : decode cX9_ledger 39 = .ok (.iconst 0, 1) := by decide +kernel
theorem d_Mo_ledger_40 : decode cX9_ledger 40 = .ok (.ireturn, 1) := by decide +kernel
theorem d_Mo_ledger_41 : decode cX9_ledger 41 = .ok (.aload_n 0, 1) := by decide +kernel
theorem d_Mo_ledger_42 : decode cX9_ledger 42 = .ok (.getfield 134, 3) := by decide +kernel
theorem d_Mo_ledger_45 : decode cX9_ledger 45 = .ok (.iload_n 1, 1) := by decide +kernel
theorem d_Mo_ledger_46 : decode cX9_ledger 46 = .ok (.iload_n 2, 1) := by decide +kernel
theorem d_Mo_ledger_47 : decode cX9_ledger 47 = .ok (.iastore, 1) := by decide +kernel
theorem d_Mo_ledger_48 : decode cX9_ledger 48 = .ok (.iconst 1, 1) := by decide +kernel
theorem d_Mo_ledger_49 : decode cX9_ledger 49 = .ok (.ireturn, 1) := by decide +kernel
theorem d_Mo_offOf_0 : decode cX9_offOf 0 = .ok (.iconst 0, 1) := by decide +kernel
theorem d_Mo_offOf_1 : decode cX9_offOf 1 = .ok (.istore_n 3, 1) := by decide +kernel
theorem d_Mo_offOf_2 : decode cX9_offOf 2 = .ok (.iconst 0, 1) := by decide +kernel
theorem d_Mo_offOf_3 : decode cX9_offOf 3 = .ok (.istore 4, 2) := by decide +kernel
theorem d_Mo_offOf_5 : decode cX9_offOf 5 = .ok (.iload 4, 2) := by decide +kernel
theorem d_Mo_offOf_7 : decode cX9_offOf 7 = .ok (.iconst 4, 1) := by decide +kernel
theorem d_Mo_offOf_8 : decode cX9_offOf 8 = .ok (.if_icmp .ge 36, 3) := by decide +kernel
theorem d_Mo_offOf_11 : decode cX9_offOf 11 = .ok (.iload_n 3, 1) := by decide +kernel
theorem d_Mo_offOf_12 : decode cX9_offOf 12 = .ok (.aload_n 0, 1) := by decide +kernel
theorem d_Mo_offOf_13 : decode cX9_offOf 13 = .ok (.getfield 134, 3) := by decide +kernel
theorem d_Mo_offOf_16 : decode cX9_offOf 16 = .ok (.iload_n 2, 1) := by decide +kernel
theorem d_Mo_offOf_17 : decode cX9_offOf 17 = .ok (.ifCond .eq 12, 3) := by decide +kernel
theorem d_Mo_offOf_20 : decode cX9_offOf 20 = .ok (.iconst 4, 1) := by decide +kernel
theorem d_Mo_offOf_21 : decode cX9_offOf 21 = .ok (.iload 4, 2) := by decide +kernel
theorem d_Mo_offOf_23 : decode cX9_offOf 23 = .ok (.imul, 1) := by decide +kernel
theorem d_Mo_offOf_24 : decode cX9_offOf 24 = .ok (.iload_n 1, 1) := by decide +kernel
theorem d_Mo_offOf_25 : decode cX9_offOf 25 = .ok (.iadd, 1) := by decide +kernel
theorem d_Mo_offOf_26 : decode cX9_offOf 26 = .ok (.goto 9, 3) := by decide +kernel
theorem d_Mo_offOf_29 : decode cX9_offOf 29 = .ok (.iconst 4, 1) := by decide +kernel
theorem d_Mo_offOf_30 : decode cX9_offOf 30 = .ok (.iload_n 1, 1) := by decide +kernel
theorem d_Mo_offOf_31 : decode cX9_offOf 31 = .ok (.imul, 1) := by decide +kernel
theorem d_Mo_offOf_32 : decode cX9_offOf 32 = .ok (.iload 4, 2) := by decide +kernel
theorem d_Mo_offOf_34 : decode cX9_offOf 34 = .ok (.iadd, 1) := by decide +kernel
theorem d_Mo_offOf_35 : decode cX9_offOf 35 = .ok (.iaload, 1) := by decide +kernel
theorem d_Mo_offOf_36 : decode cX9_offOf 36 = .ok (.iadd, 1) := by decide +kernel
theorem d_Mo_offOf_37 : decode cX9_offOf 37 = .ok (.istore_n 3, 1) := by decide +kernel
theorem d_Mo_offOf_38 : decode cX9_offOf 38 = .ok (.iinc 4 1, 3) := by decide +kernel
theorem d_Mo_offOf_41 : decode cX9_offOf 41 = .ok (.goto (-36), 3) := by decide +kernel
theorem d_Mo_offOf_44 : decode cX9_offOf 44 = .ok (.iload_n 3, 1) := by decide +kernel
theorem d_Mo_offOf_45 : decode cX9_offOf 45 = .ok (.aload_n 0, 1) := by decide +kernel
theorem d_Mo_offOf_46 : decode cX9_offOf 46 = .ok (.getfield 134, 3) := by decide +kernel
theorem d_Mo_offOf_49 : decode cX9_offOf 49 = .ok (.iload_n 2, 1) := by decide +kernel
theorem d_Mo_offOf_50 : decode cX9_offOf 50 = .ok (.ifCond .eq 8, 3) := by decide +kernel
theorem d_Mo_offOf_53 : decode cX9_offOf 53 = .ok (.bipush 20, 2) := by decide +kernel
theorem d_Mo_offOf_55 : decode cX9_offOf 55 = .ok (.goto 5, 3) := by decide +kernel
theorem d_Mo_offOf_58 : decode cX9_offOf 58 = .ok (.bipush 16, 2) := by decide +kernel
theorem d_Mo_offOf_60 : decode cX9_offOf 60 = .ok (.iload_n 1, 1) := by decide +kernel
theorem d_Mo_offOf_61 : decode cX9_offOf 61 = .ok (.iadd, 1) := by decide +kernel
theorem d_Mo_offOf_62 : decode cX9_offOf 62 = .ok (.iaload, 1) := by decide +kernel
theorem d_Mo_offOf_63 : decode cX9_offOf 63 = .ok (.isub, 1) := by decide +kernel
theorem d_Mo_offOf_64 : decode cX9_offOf 64 = .ok (.ireturn, 1) := by decide +kernel
theorem d_Mo_wrongLine_0 : decode cX9_wrongLine 0 = .ok (.iconst (-1), 1) := by decide +kernel
theorem d_Mo_wrongLine_1 : decode cX9_wrongLine 1 = .ok (.istore_n 2, 1) := by decide +kernel
theorem d_Mo_wrongLine_2 : decode cX9_wrongLine 2 = .ok (.iconst 0, 1) := by decide +kernel
theorem d_Mo_wrongLine_3 : decode cX9_wrongLine 3 = .ok (.istore_n 3, 1) := by decide +kernel
theorem d_Mo_wrongLine_4 : decode cX9_wrongLine 4 = .ok (.iconst 0, 1) := by decide +kernel
theorem d_Mo_wrongLine_5 : decode cX9_wrongLine 5 = .ok (.istore 4, 2) := by decide +kernel
theorem d_Mo_wrongLine_7 : decode cX9_wrongLine 7 = .ok (.iload 4, 2) := by decide +kernel
theorem d_Mo_wrongLine_9 : decode cX9_wrongLine 9 = .ok (.iconst 4, 1) := by decide +kernel
theorem d_Mo_wrongLine_10 : decode cX9_wrongLine 10 = .ok (.if_icmp .ge 29, 3) := by decide +kernel
theorem d_Mo_wrongLine_13 : decode cX9_wrongLine 13 = .ok (.aload_n 0, 1) := by decide +kernel
theorem d_Mo_wrongLine_14 : decode cX9_wrongLine 14 = .ok (.iload 4, 2) := by decide +kernel
theorem d_Mo_wrongLine_16 : decode cX9_wrongLine 16 = .ok (.iload_n 1, 1) := by decide +kernel
theorem d_Mo_wrongLine_17 : decode cX9_wrongLine 17 = .ok (.invokevirtual 472, 3) := by decide +kernel
theorem d_Mo_wrongLine_20 : decode cX9_wrongLine 20 = .ok (.ifCond .ne 6, 3) := by decide +kernel
theorem d_Mo_wrongLine_23 : decode cX9_wrongLine 23 = .ok (.goto 10, 3) := by decide +kernel
theorem d_Mo_wrongLine_26 : decode cX9_wrongLine 26 = .ok (.iload 4, 2) := by decide +kernel
theorem d_Mo_wrongLine_28 : decode cX9_wrongLine 28 = .ok (.istore_n 2, 1) := by decide +kernel
theorem d_Mo_wrongLine_29 : decode cX9_wrongLine 29 = .ok (.iload_n 3, 1) := by decide +kernel
theorem d_Mo_wrongLine_30 : decode cX9_wrongLine 30 = .ok (.iconst 1, 1) := by decide +kernel
theorem d_Mo_wrongLine_31 : decode cX9_wrongLine 31 = .ok (.iadd, 1) := by decide +kernel
theorem d_Mo_wrongLine_32 : decode cX9_wrongLine 32 = .ok (.istore_n 3, 1) := by decide +kernel
theorem d_Mo_wrongLine_33 : decode cX9_wrongLine 33 = .ok (.iinc 4 1, 3) := by decide +kernel
theorem d_Mo_wrongLine_36 : decode cX9_wrongLine 36 = .ok (.goto (-29), 3) := by decide +kernel
theorem d_Mo_wrongLine_39 : decode cX9_wrongLine 39 = .ok (.iload_n 3, 1) := by decide +kernel
theorem d_Mo_wrongLine_40 : decode cX9_wrongLine 40 = .ok (.iconst 1, 1) := by decide +kernel
theorem d_Mo_wrongLine_41 : decode cX9_wrongLine 41 = .ok (.if_icmp .ne 7, 3) := by decide +kernel
theorem d_Mo_wrongLine_44 : decode cX9_wrongLine 44 = .ok (.iload_n 2, 1) := by decide +kernel
theorem d_Mo_wrongLine_45 : decode cX9_wrongLine 45 = .ok (.goto 4, 3) := by decide +kernel
theorem d_Mo_wrongLine_48 : decode cX9_wrongLine 48 = .ok (.iconst (-1), 1) := by decide +kernel
theorem d_Mo_wrongLine_49 : decode cX9_wrongLine 49 = .ok (.ireturn, 1) := by decide +kernel
theorem d_Mo_altered_0 : decode cX9_altered 0 = .ok (.aload_n 0, 1) := by decide +kernel
theorem d_Mo_altered_1 : decode cX9_altered 1 = .ok (.iconst 0, 1) := by decide +kernel
theorem d_Mo_altered_2 : decode cX9_altered 2 = .ok (.putfield 140, 3) := by decide +kernel
theorem d_Mo_altered_5 : decode cX9_altered 5 = .ok (.aload_n 0, 1) := by decide +kernel
theorem d_Mo_altered_6 : decode cX9_altered 6 = .ok (.iconst 0, 1) := by decide +kernel
theorem d_Mo_altered_7 : decode cX9_altered 7 = .ok (.invokevirtual 476, 3) := by decide +kernel
theorem d_Mo_altered_10 : decode cX9_altered 10 = .ok (.istore_n 2, 1) := by decide +kernel
theorem d_Mo_altered_11 : decode cX9_altered 11 = .ok (.aload_n 0, 1) := by decide +kernel
theorem d_Mo_altered_12 : decode cX9_altered 12 = .ok (.iconst 1, 1) := by decide +kernel
theorem d_Mo_altered_13 : decode cX9_altered 13 = .ok (.invokevirtual 476, 3) := by decide +kernel
theorem d_Mo_altered_16 : decode cX9_altered 16 = .ok (.istore_n 3, 1) := by decide +kernel
theorem d_Mo_altered_17 : decode cX9_altered 17 = .ok (.aload_n 0, 1) := by decide +kernel
theorem d_Mo_altered_18 : decode cX9_altered 18 = .ok (.iload_n 1, 1) := by decide +kernel
theorem d_Mo_altered_19 : decode cX9_altered 19 = .ok (.iconst 0, 1) := by decide +kernel
theorem d_Mo_altered_20 : decode cX9_altered 20 = .ok (.iconst 1, 1) := by decide +kernel
theorem d_Mo_altered_21 : decode cX9_altered 21 = .ok (.invokevirtual 162, 3) := by decide +kernel
theorem d_Mo_altered_24 : decode cX9_altered 24 = .ok (.ifCond .eq 28, 3) := by decide +kernel
theorem d_Mo_altered_27 : decode cX9_altered 27 = .ok (.iload_n 2, 1) := by decide +kernel
theorem d_Mo_altered_28 : decode cX9_altered 28 = .ok (.iconst (-1), 1) := by decide +kernel
theorem d_Mo_altered_29 : decode cX9_altered 29 = .ok (.if_icmp .eq 23, 3) := by decide +kernel
theorem d_Mo_altered_32 : decode cX9_altered 32 = .ok (.iload_n 3, 1) := by decide +kernel
theorem d_Mo_altered_33 : decode cX9_altered 33 = .ok (.iconst (-1), 1) := by decide +kernel
theorem d_Mo_altered_34 : decode cX9_altered 34 = .ok (.if_icmp .eq 18, 3) := by decide +kernel
theorem d_Mo_altered_37 : decode cX9_altered 37 = .ok (.aload_n 0, 1) := by decide +kernel
theorem d_Mo_altered_38 : decode cX9_altered 38 = .ok (.iload_n 2, 1) := by decide +kernel
theorem d_Mo_altered_39 : decode cX9_altered 39 = .ok (.iconst 0, 1) := by decide +kernel
theorem d_Mo_altered_40 : decode cX9_altered 40 = .ok (.invokevirtual 472, 3) := by decide +kernel
theorem d_Mo_altered_43 : decode cX9_altered 43 = .ok (.aload_n 0, 1) := by decide +kernel
theorem d_Mo_altered_44 : decode cX9_altered 44 = .ok (.iload_n 3, 1) := by decide +kernel
theorem d_Mo_altered_45 : decode cX9_altered 45 = .ok (.iconst 1, 1) := by decide +kernel
theorem d_Mo_altered_46 : decode cX9_altered 46 = .ok (.invokevirtual 472, 3) := by decide +kernel
theorem d_Mo_altered_49 : decode cX9_altered 49 = .ok (.if_icmp .eq 7, 3) := by decide +kernel
theorem d_Mo_altered_52 : decode cX9_altered 52 = .ok (.sipush (-10000), 3) := by decide +kernel
theorem d_Mo_altered_55 : decode cX9_altered 55 = .ok (.ireturn, 1) := by decide +kernel
theorem d_Mo_altered_56 : decode cX9_altered 56 = .ok (.iload_n 1, 1) := by decide +kernel
theorem d_Mo_altered_57 : decode cX9_altered 57 = .ok (.ifCond .ne 11, 3) := by decide +kernel
theorem d_Mo_altered_60 : decode cX9_altered 60 = .ok (.iconst 4, 1) := by decide +kernel
theorem d_Mo_altered_61 : decode cX9_altered 61 = .ok (.iload_n 2, 1) := by decide +kernel
theorem d_Mo_altered_62 : decode cX9_altered 62 = .ok (.imul, 1) := by decide +kernel
theorem d_Mo_altered_63 : decode cX9_altered 63 = .ok (.iload_n 3, 1) := by decide +kernel
theorem d_Mo_altered_64 : decode cX9_altered 64 = .ok (.iadd, 1) := by decide +kernel
theorem d_Mo_altered_65 : decode cX9_altered 65 = .ok (.goto 9, 3) := by decide +kernel
theorem d_Mo_altered_68 : decode cX9_altered 68 = .ok (.aload_n 0, 1) := by decide +kernel
theorem d_Mo_altered_69 : decode cX9_altered 69 = .ok (.iload_n 2, 1) := by decide +kernel
theorem d_Mo_altered_70 : decode cX9_altered 70 = .ok (.iconst 0, 1) := by decide +kernel
theorem d_Mo_altered_71 : decode cX9_altered 71 = .ok (.invokevirtual 472, 3) := by decide +kernel
theorem d_Mo_altered_74 : decode cX9_altered 74 = .ok (.ireturn, 1) := by decide +kernel
theorem d_Mo_years_0 : decode cX9_years 0 = .ok (.aload_n 0, 1) := by decide +kernel
theorem d_Mo_years_1 : decode cX9_years 1 = .ok (.iconst 0, 1) := by decide +kernel
theorem d_Mo_years_2 : decode cX9_years 2 = .ok (.putfield 140, 3) := by decide +kernel
theorem d_Mo_years_5 : decode cX9_years 5 = .ok (.aload_n 0, 1) := by decide +kernel
theorem d_Mo_years_6 : decode cX9_years 6 = .ok (.iload_n 1, 1) := by decide +kernel
theorem d_Mo_years_7 : decode cX9_years 7 = .ok (.iconst 1, 1) := by decide +kernel
theorem d_Mo_years_8 : decode cX9_years 8 = .ok (.bipush 30, 2) := by decide +kernel
theorem d_Mo_years_10 : decode cX9_years 10 = .ok (.invokevirtual 162, 3) := by decide +kernel
theorem d_Mo_years_13 : decode cX9_years 13 = .ok (.ifCond .eq 17, 3) := by decide +kernel
theorem d_Mo_years_16 : decode cX9_years 16 = .ok (.aload_n 0, 1) := by decide +kernel
theorem d_Mo_years_17 : decode cX9_years 17 = .ok (.iload_n 2, 1) := by decide +kernel
theorem d_Mo_years_18 : decode cX9_years 18 = .ok (.iconst 0, 1) := by decide +kernel
theorem d_Mo_years_19 : decode cX9_years 19 = .ok (.iconst 1, 1) := by decide +kernel
theorem d_Mo_years_20 : decode cX9_years 20 = .ok (.iload_n 1, 1) := by decide +kernel
theorem d_Mo_years_21 : decode cX9_years 21 = .ok (.ishl, 1) := by decide +kernel
theorem d_Mo_years_22 : decode cX9_years 22 = .ok (.iconst 1, 1) := by decide +kernel
theorem d_Mo_years_23 : decode cX9_years 23 = .ok (.isub, 1) := by decide +kernel
theorem d_Mo_years_24 : decode cX9_years 24 = .ok (.invokevirtual 162, 3) := by decide +kernel
theorem d_Mo_years_27 : decode cX9_years 27 = .ok (.ifCond .ne 5, 3) := by decide +kernel
theorem d_Mo_years_30 : decode cX9_years 30 = .ok (.iconst 0, 1) := by decide +kernel
theorem d_Mo_years_31 : decode cX9_years 31 = .ok (.ireturn, 1) := by decide +kernel
theorem d_Mo_years_32 : decode cX9_years 32 = .ok (.aload_n 0, 1) := by decide +kernel
theorem d_Mo_years_33 : decode cX9_years 33 = .ok (.iload_n 1, 1) := by decide +kernel
theorem d_Mo_years_34 : decode cX9_years 34 = .ok (.putfield 480, 3) := by decide +kernel
theorem d_Mo_years_37 : decode cX9_years 37 = .ok (.aload_n 0, 1) := by decide +kernel
theorem d_Mo_years_38 : decode cX9_years 38 = .ok (.iload_n 2, 1) := by decide +kernel
theorem d_Mo_years_39 : decode cX9_years 39 = .ok (.putfield 483, 3) := by decide +kernel
theorem d_Mo_years_42 : decode cX9_years 42 = .ok (.iconst 1, 1) := by decide +kernel
theorem d_Mo_years_43 : decode cX9_years 43 = .ok (.ireturn, 1) := by decide +kernel
theorem d_Mo_dry_0 : decode cX9_dry 0 = .ok (.aload_n 0, 1) := by decide +kernel
theorem d_Mo_dry_1 : decode cX9_dry 1 = .ok (.iconst 0, 1) := by decide +kernel
theorem d_Mo_dry_2 : decode cX9_dry 2 = .ok (.putfield 140, 3) := by decide +kernel
theorem d_Mo_dry_5 : decode cX9_dry 5 = .ok (.aload_n 0, 1) := by decide +kernel
theorem d_Mo_dry_6 : decode cX9_dry 6 = .ok (.iload_n 1, 1) := by decide +kernel
theorem d_Mo_dry_7 : decode cX9_dry 7 = .ok (.iconst 0, 1) := by decide +kernel
theorem d_Mo_dry_8 : decode cX9_dry 8 = .ok (.iconst 1, 1) := by decide +kernel
theorem d_Mo_dry_9 : decode cX9_dry 9 = .ok (.invokevirtual 162, 3) := by decide +kernel
theorem d_Mo_dry_12 : decode cX9_dry 12 = .ok (.ifCond .ne 5, 3) := by decide +kernel
theorem d_Mo_dry_15 : decode cX9_dry 15 = .ok (.iconst (-1), 1) := by decide +kernel
theorem d_Mo_dry_16 : decode cX9_dry 16 = .ok (.ireturn, 1) := by decide +kernel
theorem d_Mo_dry_17 : decode cX9_dry 17 = .ok (.iconst 0, 1) := by decide +kernel
theorem d_Mo_dry_18 : decode cX9_dry 18 = .ok (.istore_n 2, 1) := by decide +kernel
theorem d_Mo_dry_19 : decode cX9_dry 19 = .ok (.iconst 0, 1) := by decide +kernel
theorem d_Mo_dry_20 : decode cX9_dry 20 = .ok (.istore_n 3, 1) := by decide +kernel
theorem d_Mo_dry_21 : decode cX9_dry 21 = .ok (.iconst (-1), 1) := by decide +kernel
theorem d_Mo_dry_22 : decode cX9_dry 22 = .ok (.istore 4, 2) := by decide +kernel
theorem d_Mo_dry_24 : decode cX9_dry 24 = .ok (.iconst 0, 1) := by decide +kernel
theorem d_Mo_dry_25 : decode cX9_dry 25 = .ok (.istore 5, 2) := by decide +kernel
theorem d_Mo_dry_27 : decode cX9_dry 27 = .ok (.iload 5, 2) := by decide +kernel
theorem d_Mo_dry_29 : decode cX9_dry 29 = .ok (.aload_n 0, 1) := by decide +kernel
theorem d_Mo_dry_30 : decode cX9_dry 30 = .ok (.getfield 480, 3) := by decide +kernel
theorem d_Mo_dry_33 : decode cX9_dry 33 = .ok (.if_icmp .ge 48, 3) := by decide +kernel
theorem d_Mo_dry_36 : decode cX9_dry 36 = .ok (.aload_n 0, 1) := by decide +kernel
theorem d_Mo_dry_37 : decode cX9_dry 37 = .ok (.aload_n 0, 1) := by decide +kernel
theorem d_Mo_dry_38 : decode cX9_dry 38 = .ok (.getfield 483, 3) := by decide +kernel
theorem d_Mo_dry_41 : decode cX9_dry 41 = .ok (.iload 5, 2) := by decide +kernel
theorem d_Mo_dry_43 : decode cX9_dry 43 = .ok (.invokevirtual 158, 3) := by decide +kernel
theorem d_Mo_dry_46 : decode cX9_dry 46 = .ok (.ifCond .eq 7, 3) := by decide +kernel
theorem d_Mo_dry_49 : decode cX9_dry 49 = .ok (.iconst 0, 1) := by decide +kernel
theorem d_Mo_dry_50 : decode cX9_dry 50 = .ok (.goto 6, 3) := by decide +kernel
theorem d_Mo_dry_53 : decode cX9_dry 53 = .ok (.iload_n 2, 1) := by decide +kernel
theorem d_Mo_dry_54 : decode cX9_dry 54 = .ok (.iconst 1, 1) := by decide +kernel
theorem d_Mo_dry_55 : decode cX9_dry 55 = .ok (.iadd, 1) := by decide +kernel
theorem d_Mo_dry_56 : decode cX9_dry 56 = .ok (.istore_n 2, 1) := by decide +kernel
theorem d_Mo_dry_57 : decode cX9_dry 57 = .ok (.iload_n 2, 1) := by decide +kernel
theorem d_Mo_dry_58 : decode cX9_dry 58 = .ok (.iload_n 3, 1) := by decide +kernel
theorem d_Mo_dry_59 : decode cX9_dry 59 = .ok (.if_icmp .gt 6, 3) := by decide +kernel
theorem d_Mo_dry_62 : decode cX9_dry 62 = .ok (.goto 13, 3) := by decide +kernel
theorem d_Mo_dry_65 : decode cX9_dry 65 = .ok (.iload_n 2, 1) := by decide +kernel
theorem d_Mo_dry_66 : decode cX9_dry 66 = .ok (.istore_n 3, 1) := by decide +kernel
theorem d_Mo_dry_67 : decode cX9_dry 67 = .ok (.iload 5, 2) := by decide +kernel
theorem d_Mo_dry_69 : decode cX9_dry 69 = .ok (.iload_n 2, 1) := by decide +kernel
theorem d_Mo_dry_70 : decode cX9_dry 70 = .ok (.isub, 1) := by decide +kernel
theorem d_Mo_dry_71 : decode cX9_dry 71 = .ok (.iconst 1, 1) := by decide +kernel
theorem d_Mo_dry_72 : decode cX9_dry 72 = .ok (.iadd, 1) := by decide +kernel
theorem d_Mo_dry_73 : decode cX9_dry 73 = .ok (.istore 4, 2) := by decide +kernel
theorem d_Mo_dry_75 : decode cX9_dry 75 = .ok (.iinc 5 1, 3) := by decide +kernel
theorem d_Mo_dry_78 : decode cX9_dry 78 = .ok (.goto (-51), 3) := by decide +kernel
theorem d_Mo_dry_81 : decode cX9_dry 81 = .ok (.iload_n 1, 1) := by decide +kernel
theorem d_Mo_dry_82 : decode cX9_dry 82 = .ok (.ifCond .ne 7, 3) := by decide +kernel
theorem d_Mo_dry_85 : decode cX9_dry 85 = .ok (.iload_n 3, 1) := by decide +kernel
theorem d_Mo_dry_86 : decode cX9_dry 86 = .ok (.goto 5, 3) := by decide +kernel
theorem d_Mo_dry_89 : decode cX9_dry 89 = .ok (.iload 4, 2) := by decide +kernel
theorem d_Mo_dry_91 : decode cX9_dry 91 = .ok (.ireturn, 1) := by decide +kernel
theorem d_Mo_votesIn_0 : decode cX9_votesIn 0 = .ok (.iconst 0, 1) := by decide +kernel
theorem d_Mo_votesIn_1 : decode cX9_votesIn 1 = .ok (.istore_n 2, 1) := by decide +kernel
theorem d_Mo_votesIn_2 : decode cX9_votesIn 2 = .ok (.iconst 0, 1) := by decide +kernel
theorem d_Mo_votesIn_3 : decode cX9_votesIn 3 = .ok (.istore_n 3, 1) := by decide +kernel
theorem d_Mo_votesIn_4 : decode cX9_votesIn 4 = .ok (.iload_n 3, 1) := by decide +kernel
theorem d_Mo_votesIn_5 : decode cX9_votesIn 5 = .ok (.aload_n 0, 1) := by decide +kernel
theorem d_Mo_votesIn_6 : decode cX9_votesIn 6 = .ok (.getfield 155, 3) := by decide +kernel
theorem d_Mo_votesIn_9 : decode cX9_votesIn 9 = .ok (.if_icmp .ge 37, 3) := by decide +kernel
theorem d_Mo_votesIn_12 : decode cX9_votesIn 12 = .ok (.aload_n 0, 1) := by decide +kernel
theorem d_Mo_votesIn_13 : decode cX9_votesIn 13 = .ok (.iload_n 1, 1) := by decide +kernel
theorem d_Mo_votesIn_14 : decode cX9_votesIn 14 = .ok (.aload_n 0, 1) := by decide +kernel
theorem d_Mo_votesIn_15 : decode cX9_votesIn 15 = .ok (.getfield 7, 3) := by decide +kernel
theorem d_Mo_votesIn_18 : decode cX9_votesIn 18 = .ok (.bipush 67, 2) := by decide +kernel
theorem d_Mo_votesIn_20 : decode cX9_votesIn 20 = .ok (.iload_n 3, 1) := by decide +kernel
theorem d_Mo_votesIn_21 : decode cX9_votesIn 21 = .ok (.iadd, 1) := by decide +kernel
theorem d_Mo_votesIn_22 : decode cX9_votesIn 22 = .ok (.iaload, 1) := by decide +kernel
theorem d_Mo_votesIn_23 : decode cX9_votesIn 23 = .ok (.invokevirtual 158, 3) := by decide +kernel
theorem d_Mo_votesIn_26 : decode cX9_votesIn 26 = .ok (.ifCond .eq 14, 3) := by decide +kernel
theorem d_Mo_votesIn_29 : decode cX9_votesIn 29 = .ok (.iload_n 2, 1) := by decide +kernel
theorem d_Mo_votesIn_30 : decode cX9_votesIn 30 = .ok (.aload_n 0, 1) := by decide +kernel
theorem d_Mo_votesIn_31 : decode cX9_votesIn 31 = .ok (.getfield 28, 3) := by decide +kernel
theorem d_Mo_votesIn_34 : decode cX9_votesIn 34 = .ok (.iload_n 3, 1) := by decide +kernel
theorem d_Mo_votesIn_35 : decode cX9_votesIn 35 = .ok (.iaload, 1) := by decide +kernel
theorem d_Mo_votesIn_36 : decode cX9_votesIn 36 = .ok (.iadd, 1) := by decide +kernel
theorem d_Mo_votesIn_37 : decode cX9_votesIn 37 = .ok (.iconst 1, 1) := by decide +kernel
theorem d_Mo_votesIn_38 : decode cX9_votesIn 38 = .ok (.iadd, 1) := by decide +kernel
theorem d_Mo_votesIn_39 : decode cX9_votesIn 39 = .ok (.istore_n 2, 1) := by decide +kernel
theorem d_Mo_votesIn_40 : decode cX9_votesIn 40 = .ok (.iinc 3 1, 3) := by decide +kernel
theorem d_Mo_votesIn_43 : decode cX9_votesIn 43 = .ok (.goto (-39), 3) := by decide +kernel
theorem d_Mo_votesIn_46 : decode cX9_votesIn 46 = .ok (.iload_n 2, 1) := by decide +kernel
theorem d_Mo_votesIn_47 : decode cX9_votesIn 47 = .ok (.ireturn, 1) := by decide +kernel
theorem d_Mo_isMore_0 : decode cX9_isMore 0 = .ok (.iconst 2, 1) := by decide +kernel
theorem d_Mo_isMore_1 : decode cX9_isMore 1 = .ok (.aload_n 0, 1) := by decide +kernel
theorem d_Mo_isMore_2 : decode cX9_isMore 2 = .ok (.iload_n 1, 1) := by decide +kernel
theorem d_Mo_isMore_3 : decode cX9_isMore 3 = .ok (.invokevirtual 486, 3) := by decide +kernel
theorem d_Mo_isMore_6 : decode cX9_isMore 6 = .ok (.imul, 1) := by decide +kernel
theorem d_Mo_isMore_7 : decode cX9_isMore 7 = .ok (.aload_n 0, 1) := by decide +kernel
theorem d_Mo_isMore_8 : decode cX9_isMore 8 = .ok (.bipush 15, 2) := by decide +kernel
theorem d_Mo_isMore_10 : decode cX9_isMore 10 = .ok (.invokevirtual 486, 3) := by decide +kernel
theorem d_Mo_isMore_13 : decode cX9_isMore 13 = .ok (.if_icmp .le 7, 3) := by decide +kernel
theorem d_Mo_isMore_16 : decode cX9_isMore 16 = .ok (.iconst 1, 1) := by decide +kernel
theorem d_Mo_isMore_17 : decode cX9_isMore 17 = .ok (.goto 4, 3) := by decide +kernel
theorem d_Mo_isMore_20 : decode cX9_isMore 20 = .ok (.iconst 0, 1) := by decide +kernel
theorem d_Mo_isMore_21 : decode cX9_isMore 21 = .ok (.ireturn, 1) := by decide +kernel
theorem d_Mo_votes_0 : decode cX9_votes 0 = .ok (.aload_n 0, 1) := by decide +kernel
theorem d_Mo_votes_1 : decode cX9_votes 1 = .ok (.iconst 0, 1) := by decide +kernel
theorem d_Mo_votes_2 : decode cX9_votes 2 = .ok (.putfield 140, 3) := by decide +kernel
theorem d_Mo_votes_5 : decode cX9_votes 5 = .ok (.aload_n 0, 1) := by decide +kernel
theorem d_Mo_votes_6 : decode cX9_votes 6 = .ok (.iload_n 1, 1) := by decide +kernel
theorem d_Mo_votes_7 : decode cX9_votes 7 = .ok (.invokevirtual 166, 3) := by decide +kernel
theorem d_Mo_votes_10 : decode cX9_votes 10 = .ok (.ifCond .eq 13, 3) := by decide +kernel
theorem d_Mo_votes_13 : decode cX9_votes 13 = .ok (.aload_n 0, 1) := by decide +kernel
theorem d_Mo_votes_14 : decode cX9_votes 14 = .ok (.iload_n 2, 1) := by decide +kernel
theorem d_Mo_votes_15 : decode cX9_votes 15 = .ok (.iconst 0, 1) := by decide +kernel
theorem d_Mo_votes_16 : decode cX9_votes 16 = .ok (.iconst 1, 1) := by decide +kernel
theorem d_Mo_votes_17 : decode cX9_votes 17 = .ok (.invokevirtual 162, 3) := by decide +kernel
theorem d_Mo_votes_20 : decode cX9_votes 20 = .ok (.ifCond .ne 5, 3) := by decide +kernel
theorem d_Mo_votes_23 : decode cX9_votes 23 = .ok (.iconst (-1), 1) := by decide +kernel
theorem d_Mo_votes_24 : decode cX9_votes 24 = .ok (.ireturn, 1) := by decide +kernel
theorem d_Mo_votes_25 : decode cX9_votes 25 = .ok (.iload_n 2, 1) := by decide +kernel
theorem d_Mo_votes_26 : decode cX9_votes 26 = .ok (.ifCond .ne 11, 3) := by decide +kernel
theorem d_Mo_votes_29 : decode cX9_votes 29 = .ok (.aload_n 0, 1) := by decide +kernel
theorem d_Mo_votes_30 : decode cX9_votes 30 = .ok (.iconst 1, 1) := by decide +kernel
theorem d_Mo_votes_31 : decode cX9_votes 31 = .ok (.iload_n 1, 1) := by decide +kernel
theorem d_Mo_votes_32 : decode cX9_votes 32 = .ok (.ishl, 1) := by decide +kernel
theorem d_Mo_votes_33 : decode cX9_votes 33 = .ok (.invokevirtual 486, 3) := by decide +kernel
theorem d_Mo_votes_36 : decode cX9_votes 36 = .ok (.ireturn, 1) := by decide +kernel
theorem d_Mo_votes_37 : decode cX9_votes 37 = .ok (.iconst 0, 1) := by decide +kernel
theorem d_Mo_votes_38 : decode cX9_votes 38 = .ok (.istore_n 3, 1) := by decide +kernel
theorem d_Mo_votes_39 : decode cX9_votes 39 = .ok (.iconst 0, 1) := by decide +kernel
theorem d_Mo_votes_40 : decode cX9_votes 40 = .ok (.istore 4, 2) := by decide +kernel
theorem d_Mo_votes_42 : decode cX9_votes 42 = .ok (.iload 4, 2) := by decide +kernel
theorem d_Mo_votes_44 : decode cX9_votes 44 = .ok (.bipush 16, 2) := by decide +kernel
theorem d_Mo_votes_46 : decode cX9_votes 46 = .ok (.if_icmp .ge 45, 3) := by decide +kernel
theorem d_Mo_votes_49 : decode cX9_votes 49 = .ok (.aload_n 0, 1) := by decide +kernel
theorem d_Mo_votes_50 : decode cX9_votes 50 = .ok (.iload 4, 2) := by decide +kernel
theorem d_Mo_votes_52 : decode cX9_votes 52 = .ok (.iload_n 1, 1) := by decide +kernel
theorem d_Mo_votes_53 : decode cX9_votes 53 = .ok (.invokevirtual 158, 3) := by decide +kernel
theorem d_Mo_votes_56 : decode cX9_votes 56 = .ok (.ifCond .ne 29, 3) := by decide +kernel
theorem d_Mo_votes_59 : decode cX9_votes 59 = .ok (.aload_n 0, 1) := by decide +kernel
theorem d_Mo_votes_60 : decode cX9_votes 60 = .ok (.iload 4, 2) := by decide +kernel
theorem d_Mo_votes_62 : decode cX9_votes 62 = .ok (.invokevirtual 489, 3) := by decide +kernel
theorem d_Mo_votes_65 : decode cX9_votes 65 = .ok (.ifCond .ne 20, 3) := by decide +kernel
theorem d_Mo_votes_68 : decode cX9_votes 68 = .ok (.aload_n 0, 1) := by decide +kernel
theorem d_Mo_votes_69 : decode cX9_votes 69 = .ok (.iload 4, 2) := by decide +kernel
theorem d_Mo_votes_71 : decode cX9_votes 71 = .ok (.iconst 1, 1) := by decide +kernel
theorem d_Mo_votes_72 : decode cX9_votes 72 = .ok (.iload_n 1, 1) := by decide +kernel
theorem d_Mo_votes_73 : decode cX9_votes 73 = .ok (.ishl, 1) := by decide +kernel
theorem d_Mo_votes_74 : decode cX9_votes 74 = .ok (.ior, 1) := by decide +kernel
theorem d_Mo_votes_75 : decode cX9_votes 75 = .ok (.invokevirtual 489, 3) := by decide +kernel
theorem d_Mo_votes_78 : decode cX9_votes 78 = .ok (.ifCond .eq 7, 3) := by decide +kernel
theorem d_Mo_votes_81 : decode cX9_votes 81 = .ok (.iload_n 3, 1) := by decide +kernel
theorem d_Mo_votes_82 : decode cX9_votes 82 = .ok (.iconst 1, 1) := by decide +kernel
theorem d_Mo_votes_83 : decode cX9_votes 83 = .ok (.iadd, 1) := by decide +kernel
theorem d_Mo_votes_84 : decode cX9_votes 84 = .ok (.istore_n 3, 1) := by decide +kernel
theorem d_Mo_votes_85 : decode cX9_votes 85 = .ok (.iinc 4 1, 3) := by decide +kernel
theorem d_Mo_votes_88 : decode cX9_votes 88 = .ok (.goto (-46), 3) := by decide +kernel
theorem d_Mo_votes_91 : decode cX9_votes 91 = .ok (.iload_n 3, 1) := by decide +kernel
theorem d_Mo_votes_92 : decode cX9_votes 92 = .ok (.ireturn, 1) := by decide +kernel
theorem d_Mo_heapOf_0 : decode cX9_heapOf 0 = .ok (.aload_n 0, 1) := by decide +kernel
theorem d_Mo_heapOf_1 : decode cX9_heapOf 1 = .ok (.getfield 7, 3) := by decide +kernel
theorem d_Mo_heapOf_4 : decode cX9_heapOf 4 = .ok (.bipush 73, 2) := by decide +kernel
theorem d_Mo_heapOf_6 : decode cX9_heapOf 6 = .ok (.iload_n 1, 1) := by decide +kernel
theorem d_Mo_heapOf_7 : decode cX9_heapOf 7 = .ok (.iadd, 1) := by decide +kernel
theorem d_Mo_heapOf_8 : decode cX9_heapOf 8 = .ok (.iaload, 1) := by decide +kernel
theorem d_Mo_heapOf_9 : decode cX9_heapOf 9 = .ok (.aload_n 0, 1) := by decide +kernel
theorem d_Mo_heapOf_10 : decode cX9_heapOf 10 = .ok (.getfield 28, 3) := by decide +kernel
theorem d_Mo_heapOf_13 : decode cX9_heapOf 13 = .ok (.iload_n 1, 1) := by decide +kernel
theorem d_Mo_heapOf_14 : decode cX9_heapOf 14 = .ok (.iaload, 1) := by decide +kernel
theorem d_Mo_heapOf_15 : decode cX9_heapOf 15 = .ok (.iconst 2, 1) := by decide +kernel
theorem d_Mo_heapOf_16 : decode cX9_heapOf 16 = .ok (.iadd, 1) := by decide +kernel
theorem d_Mo_heapOf_17 : decode cX9_heapOf 17 = .ok (.irem, 1) := by decide +kernel
theorem d_Mo_heapOf_18 : decode cX9_heapOf 18 = .ok (.ireturn, 1) := by decide +kernel
theorem d_Mo_game_0 : decode cX9_game 0 = .ok (.aload_n 0, 1) := by decide +kernel
theorem d_Mo_game_1 : decode cX9_game 1 = .ok (.iconst 0, 1) := by decide +kernel
theorem d_Mo_game_2 : decode cX9_game 2 = .ok (.putfield 140, 3) := by decide +kernel
theorem d_Mo_game_5 : decode cX9_game 5 = .ok (.aload_n 0, 1) := by decide +kernel
theorem d_Mo_game_6 : decode cX9_game 6 = .ok (.iload_n 1, 1) := by decide +kernel
theorem d_Mo_game_7 : decode cX9_game 7 = .ok (.iconst 0, 1) := by decide +kernel
theorem d_Mo_game_8 : decode cX9_game 8 = .ok (.iconst 1, 1) := by decide +kernel
theorem d_Mo_game_9 : decode cX9_game 9 = .ok (.invokevirtual 162, 3) := by decide +kernel
theorem d_Mo_game_12 : decode cX9_game 12 = .ok (.ifCond .ne 5, 3) := by decide +kernel
theorem d_Mo_game_15 : decode cX9_game 15 = .ok (.iconst (-1), 1) := by decide +kernel
theorem d_Mo_game_16 : decode cX9_game 16 = .ok (.ireturn, 1) := by decide +kernel
theorem d_Mo_game_17 : decode cX9_game 17 = .ok (.iconst 0, 1) := by decide +kernel
theorem d_Mo_game_18 : decode cX9_game 18 = .ok (.istore_n 2, 1) := by decide +kernel
theorem d_Mo_game_19 : decode cX9_game 19 = .ok (.iconst 0, 1) := by decide +kernel
theorem d_Mo_game_20 : decode cX9_game 20 = .ok (.istore_n 3, 1) := by decide +kernel
theorem d_Mo_game_21 : decode cX9_game 21 = .ok (.iload_n 3, 1) := by decide +kernel
theorem d_Mo_game_22 : decode cX9_game 22 = .ok (.aload_n 0, 1) := by decide +kernel
theorem d_Mo_game_23 : decode cX9_game 23 = .ok (.getfield 155, 3) := by decide +kernel
theorem d_Mo_game_26 : decode cX9_game 26 = .ok (.if_icmp .ge 17, 3) := by decide +kernel
theorem d_Mo_game_29 : decode cX9_game 29 = .ok (.iload_n 2, 1) := by decide +kernel
theorem d_Mo_game_30 : decode cX9_game 30 = .ok (.aload_n 0, 1) := by decide +kernel
theorem d_Mo_game_31 : decode cX9_game 31 = .ok (.iload_n 3, 1) := by decide +kernel
theorem d_Mo_game_32 : decode cX9_game 32 = .ok (.invokevirtual 492, 3) := by decide +kernel
theorem d_Mo_game_35 : decode cX9_game 35 = .ok (.ixor, 1) := by decide +kernel
theorem d_Mo_game_36 : decode cX9_game 36 = .ok (.istore_n 2, 1) := by decide +kernel
theorem d_Mo_game_37 : decode cX9_game 37 = .ok (.iinc 3 1, 3) := by decide +kernel
theorem d_Mo_game_40 : decode cX9_game 40 = .ok (.goto (-19), 3) := by decide +kernel
theorem d_Mo_game_43 : decode cX9_game 43 = .ok (.iconst 0, 1) := by decide +kernel
theorem d_Mo_game_44 : decode cX9_game 44 = .ok (.istore_n 3, 1) := by decide +kernel
theorem d_Mo_game_45 : decode cX9_game 45 = .ok (.iload_n 3, 1) := by decide +kernel
theorem d_Mo_game_46 : decode cX9_game 46 = .ok (.aload_n 0, 1) := by decide +kernel
theorem d_Mo_game_47 : decode cX9_game 47 = .ok (.getfield 155, 3) := by decide +kernel
theorem d_Mo_game_50 : decode cX9_game 50 = .ok (.if_icmp .ge 83, 3) := by decide +kernel
theorem d_Mo_game_53 : decode cX9_game 53 = .ok (.aload_n 0, 1) := by decide +kernel
theorem d_Mo_game_54 : decode cX9_game 54 = .ok (.getfield 7, 3) := by decide +kernel
theorem d_Mo_game_57 : decode cX9_game 57 = .ok (.bipush 73, 2) := by decide +kernel
theorem d_Mo_game_59 : decode cX9_game 59 = .ok (.iload_n 3, 1) := by decide +kernel
theorem d_Mo_game_60 : decode cX9_game 60 = .ok (.iadd, 1) := by decide +kernel
theorem d_Mo_game_61 : decode cX9_game 61 = .ok (.iaload, 1) := by decide +kernel
theorem d_Mo_game_62 : decode cX9_game 62 = .ok (.istore 4, 2) := by decide +kernel
theorem d_Mo_game_64 : decode cX9_game 64 = .ok (.iconst 1, 1) := by decide +kernel
theorem d_Mo_game_65 : decode cX9_game 65 = .ok (.istore 5, 2) := by decide +kernel
theorem d_Mo_game_67 : decode cX9_game 67 = .ok (.iload 5, 2) := by decide +kernel
theorem d_Mo_game_69 : decode cX9_game 69 = .ok (.aload_n 0, 1) := by decide +kernel
theorem d_Mo_game_70 : decode cX9_game 70 = .ok (.iload 4, 2) := by decide +kernel
theorem d_Mo_game_72 : decode cX9_game 72 = .ok (.aload_n 0, 1) := by decide +kernel
theorem d_Mo_game_73 : decode cX9_game 73 = .ok (.getfield 28, 3) := by decide +kernel
theorem d_Mo_game_76 : decode cX9_game 76 = .ok (.iload_n 3, 1) := by decide +kernel
theorem d_Mo_game_77 : decode cX9_game 77 = .ok (.iaload, 1) := by decide +kernel
theorem d_Mo_game_78 : decode cX9_game 78 = .ok (.iconst 1, 1) := by decide +kernel
theorem d_Mo_game_79 : decode cX9_game 79 = .ok (.iadd, 1) := by decide +kernel
theorem d_Mo_game_80 : decode cX9_game 80 = .ok (.invokevirtual 369, 3) := by decide +kernel
theorem d_Mo_game_83 : decode cX9_game 83 = .ok (.if_icmp .gt 44, 3) := by decide +kernel
theorem d_Mo_game_86 : decode cX9_game 86 = .ok (.iload_n 2, 1) := by decide +kernel
theorem d_Mo_game_87 : decode cX9_game 87 = .ok (.aload_n 0, 1) := by decide +kernel
theorem d_Mo_game_88 : decode cX9_game 88 = .ok (.iload_n 3, 1) := by decide +kernel
theorem d_Mo_game_89 : decode cX9_game 89 = .ok (.invokevirtual 492, 3) := by decide +kernel
theorem d_Mo_game_92 : decode cX9_game 92 = .ok (.ixor, 1) := by decide +kernel
theorem d_Mo_game_93 : decode cX9_game 93 = .ok (.iload 4, 2) := by decide +kernel
theorem d_Mo_game_95 : decode cX9_game 95 = .ok (.iload 5, 2) := by decide +kernel
theorem d_Mo_game_97 : decode cX9_game 97 = .ok (.isub, 1) := by decide +kernel
theorem d_Mo_game_98 : decode cX9_game 98 = .ok (.aload_n 0, 1) := by decide +kernel
theorem d_Mo_game_99 : decode cX9_game 99 = .ok (.getfield 28, 3) := by decide +kernel
theorem d_Mo_game_102 : decode cX9_game 102 = .ok (.iload_n 3, 1) := by decide +kernel
theorem d_Mo_game_103 : decode cX9_game 103 = .ok (.iaload, 1) := by decide +kernel
theorem d_Mo_game_104 : decode cX9_game 104 = .ok (.iconst 2, 1) := by decide +kernel
theorem d_Mo_game_105 : decode cX9_game 105 = .ok (.iadd, 1) := by decide +kernel
theorem d_Mo_game_106 : decode cX9_game 106 = .ok (.irem, 1) := by decide +kernel
theorem d_Mo_game_107 : decode cX9_game 107 = .ok (.if_icmp .ne 14, 3) := by decide +kernel
theorem d_Mo_game_110 : decode cX9_game 110 = .ok (.iload_n 1, 1) := by decide +kernel
theorem d_Mo_game_111 : decode cX9_game 111 = .ok (.ifCond .ne 7, 3) := by decide +kernel
theorem d_Mo_game_114 : decode cX9_game 114 = .ok (.iload_n 3, 1) := by decide +kernel
theorem d_Mo_game_115 : decode cX9_game 115 = .ok (.goto 5, 3) := by decide +kernel
theorem d_Mo_game_118 : decode cX9_game 118 = .ok (.iload 5, 2) := by decide +kernel
theorem d_Mo_game_120 : decode cX9_game 120 = .ok (.ireturn, 1) := by decide +kernel
theorem d_Mo_game_121 : decode cX9_game 121 = .ok (.iinc 5 1, 3) := by decide +kernel
theorem d_Mo_game_124 : decode cX9_game 124 = .ok (.goto (-57), 3) := by decide +kernel
theorem d_Mo_game_127 : decode cX9_game 127 = .ok (.iinc 3 1, 3) := by decide +kernel
theorem d_Mo_game_130 : decode cX9_game 130 = .ok (.goto (-85), 3) := by decide +kernel
theorem d_Mo_game_133 : decode cX9_game 133 = .ok (.iconst (-1), 1) := by decide +kernel
theorem d_Mo_game_134 : decode cX9_game 134 = .ok (.ireturn, 1) := by decide +kernel
theorem d_Mo_keeps_0 : decode cX9_keeps 0 = .ok (.aload_n 0, 1) := by decide +kernel
theorem d_Mo_keeps_1 : decode cX9_keeps 1 = .ok (.aload_n 0, 1) := by decide +kernel
theorem d_Mo_keeps_2 : decode cX9_keeps 2 = .ok (.getfield 495, 3) := by decide +kernel
theorem d_Mo_keeps_5 : decode cX9_keeps 5 = .ok (.iconst 1, 1) := by decide +kernel
theorem d_Mo_keeps_6 : decode cX9_keeps 6 = .ok (.iadd, 1) := by decide +kernel
theorem d_Mo_keeps_7 : decode cX9_keeps 7 = .ok (.putfield 495, 3) := by decide +kernel
theorem d_Mo_keeps_10 : decode cX9_keeps 10 = .ok (.aload_n 0, 1) := by decide +kernel
theorem d_Mo_keeps_11 : decode cX9_keeps 11 = .ok (.getfield 498, 3) := by decide +kernel
theorem d_Mo_keeps_14 : decode cX9_keeps 14 = .ok (.ifCond .ne 15, 3) := by decide +kernel
theorem d_Mo_keeps_17 : decode cX9_keeps 17 = .ok (.aload_n 0, 1) := by decide +kernel
theorem d_Mo_keeps_18 : decode cX9_keeps 18 = .ok (.getfield 137, 3) := by decide +kernel
theorem d_Mo_keeps_21 : decode cX9_keeps 21 = .ok (.aload_n 0, 1) := by decide +kernel
theorem d_Mo_keeps_22 : decode cX9_keeps 22 = .ok (.getfield 495, 3) := by decide +kernel
theorem d_Mo_keeps_25 : decode cX9_keeps 25 = .ok (.iconst 1, 1) := by decide +kernel
theorem d_Mo_keeps_26 : decode cX9_keeps 26 = .ok (.isub, 1) := by decide +kernel
theorem d_Mo_keeps_27 : decode cX9_keeps 27 = .ok (.iaload, 1) := by decide +kernel
theorem d_Mo_keeps_28 : decode cX9_keeps 28 = .ok (.ireturn, 1) := by decide +kernel
theorem d_Mo_keeps_29 : decode cX9_keeps 29 = .ok (.aload_n 0, 1) := by decide +kernel
theorem d_Mo_keeps_30 : decode cX9_keeps 30 = .ok (.getfield 137, 3) := by decide +kernel
theorem d_Mo_keeps_33 : decode cX9_keeps 33 = .ok (.aload_n 0, 1) := by decide +kernel
theorem d_Mo_keeps_34 : decode cX9_keeps 34 = .ok (.getfield 495, 3) := by decide +kernel
theorem d_Mo_keeps_37 : decode cX9_keeps 37 = .ok (.iconst 1, 1) := by decide +kernel
theorem d_Mo_keeps_38 : decode cX9_keeps 38 = .ok (.isub, 1) := by decide +kernel
theorem d_Mo_keeps_39 : decode cX9_keeps 39 = .ok (.iload_n 1, 1) := by decide +kernel
theorem d_Mo_keeps_40 : decode cX9_keeps 40 = .ok (.iastore, 1) := by decide +kernel
theorem d_Mo_keeps_41 : decode cX9_keeps 41 = .ok (.iload_n 1, 1) := by decide +kernel
theorem d_Mo_keeps_42 : decode cX9_keeps 42 = .ok (.ireturn, 1) := by decide +kernel
theorem d_Mo_keepsMany_0 : decode cX9_keepsMany 0 = .ok (.aload_n 0, 1) := by decide +kernel
theorem d_Mo_keepsMany_1 : decode cX9_keepsMany 1 = .ok (.aload_n 0, 1) := by decide +kernel
theorem d_Mo_keepsMany_2 : decode cX9_keepsMany 2 = .ok (.aload_n 0, 1) := by decide +kernel
theorem d_Mo_keepsMany_3 : decode cX9_keepsMany 3 = .ok (.getfield 152, 3) := by decide +kernel
theorem d_Mo_keepsMany_6 : decode cX9_keepsMany 6 = .ok (.invokevirtual 501, 3) := by decide +kernel
theorem d_Mo_keepsMany_9 : decode cX9_keepsMany 9 = .ok (.putfield 152, 3) := by decide +kernel
theorem d_Mo_keepsMany_12 : decode cX9_keepsMany 12 = .ok (.aload_n 0, 1) := by decide +kernel
theorem d_Mo_keepsMany_13 : decode cX9_keepsMany 13 = .ok (.aload_n 0, 1) := by decide +kernel
theorem d_Mo_keepsMany_14 : decode cX9_keepsMany 14 = .ok (.aload_n 0, 1) := by decide +kernel
theorem d_Mo_keepsMany_15 : decode cX9_keepsMany 15 = .ok (.getfield 155, 3) := by decide +kernel
theorem d_Mo_keepsMany_18 : decode cX9_keepsMany 18 = .ok (.invokevirtual 501, 3) := by decide +kernel
theorem d_Mo_keepsMany_21 : decode cX9_keepsMany 21 = .ok (.putfield 155, 3) := by decide +kernel
theorem d_Mo_keepsMany_24 : decode cX9_keepsMany 24 = .ok (.aload_n 0, 1) := by decide +kernel
theorem d_Mo_keepsMany_25 : decode cX9_keepsMany 25 = .ok (.aload_n 0, 1) := by decide +kernel
theorem d_Mo_keepsMany_26 : decode cX9_keepsMany 26 = .ok (.aload_n 0, 1) := by decide +kernel
theorem d_Mo_keepsMany_27 : decode cX9_keepsMany 27 = .ok (.getfield 312, 3) := by decide +kernel
theorem d_Mo_keepsMany_30 : decode cX9_keepsMany 30 = .ok (.invokevirtual 501, 3) := by decide +kernel
theorem d_Mo_keepsMany_33 : decode cX9_keepsMany 33 = .ok (.putfield 312, 3) := by decide +kernel
theorem d_Mo_keepsMany_36 : decode cX9_keepsMany 36 = .ok (.aload_n 0, 1) := by decide +kernel
theorem d_Mo_keepsMany_37 : decode cX9_keepsMany 37 = .ok (.aload_n 0, 1) := by decide +kernel
theorem d_Mo_keepsMany_38 : decode cX9_keepsMany 38 = .ok (.aload_n 0, 1) := by decide +kernel
theorem d_Mo_keepsMany_39 : decode cX9_keepsMany 39 = .ok (.getfield 315, 3) := by decide +kernel
theorem d_Mo_keepsMany_42 : decode cX9_keepsMany 42 = .ok (.invokevirtual 501, 3) := by decide +kernel
theorem d_Mo_keepsMany_45 : decode cX9_keepsMany 45 = .ok (.putfield 315, 3) := by decide +kernel
theorem d_Mo_keepsMany_48 : decode cX9_keepsMany 48 = .ok (.aload_n 0, 1) := by decide +kernel
theorem d_Mo_keepsMany_49 : decode cX9_keepsMany 49 = .ok (.aload_n 0, 1) := by decide +kernel
theorem d_Mo_keepsMany_50 : decode cX9_keepsMany 50 = .ok (.aload_n 0, 1) := by decide +kernel
theorem d_Mo_keepsMany_51 : decode cX9_keepsMany 51 = .ok (.getfield 318, 3) := by decide +kernel
theorem d_Mo_keepsMany_54 : decode cX9_keepsMany 54 = .ok (.invokevirtual 501, 3) := by decide +kernel
theorem d_Mo_keepsMany_57 : decode cX9_keepsMany 57 = .ok (.putfield 318, 3) := by decide +kernel
theorem d_Mo_keepsMany_60 : decode cX9_keepsMany 60 = .ok (.aload_n 0, 1) := by decide +kernel
theorem d_Mo_keepsMany_61 : decode cX9_keepsMany 61 = .ok (.aload_n 0, 1) := by decide +kernel
theorem d_Mo_keepsMany_62 : decode cX9_keepsMany 62 = .ok (.aload_n 0, 1) := by decide +kernel
theorem d_Mo_keepsMany_63 : decode cX9_keepsMany 63 = .ok (.getfield 415, 3) := by decide +kernel
theorem d_Mo_keepsMany_66 : decode cX9_keepsMany 66 = .ok (.invokevirtual 501, 3) := by decide +kernel
theorem d_Mo_keepsMany_69 : decode cX9_keepsMany 69 = .ok (.putfield 415, 3) := by decide +kernel
theorem d_Mo_keepsMany_72 : decode cX9_keepsMany 72 = .ok (.aload_n 0, 1) := by decide +kernel
theorem d_Mo_keepsMany_73 : decode cX9_keepsMany 73 = .ok (.aload_n 0, 1) := by decide +kernel
theorem d_Mo_keepsMany_74 : decode cX9_keepsMany 74 = .ok (.aload_n 0, 1) := by decide +kernel
theorem d_Mo_keepsMany_75 : decode cX9_keepsMany 75 = .ok (.getfield 421, 3) := by decide +kernel
theorem d_Mo_keepsMany_78 : decode cX9_keepsMany 78 = .ok (.invokevirtual 501, 3) := by decide +kernel
theorem d_Mo_keepsMany_81 : decode cX9_keepsMany 81 = .ok (.putfield 421, 3) := by decide +kernel
theorem d_Mo_keepsMany_84 : decode cX9_keepsMany 84 = .ok (.aload_n 0, 1) := by decide +kernel
theorem d_Mo_keepsMany_85 : decode cX9_keepsMany 85 = .ok (.aload_n 0, 1) := by decide +kernel
theorem d_Mo_keepsMany_86 : decode cX9_keepsMany 86 = .ok (.aload_n 0, 1) := by decide +kernel
theorem d_Mo_keepsMany_87 : decode cX9_keepsMany 87 = .ok (.getfield 427, 3) := by decide +kernel
theorem d_Mo_keepsMany_90 : decode cX9_keepsMany 90 = .ok (.invokevirtual 501, 3) := by decide +kernel
theorem d_Mo_keepsMany_93 : decode cX9_keepsMany 93 = .ok (.putfield 427, 3) := by decide +kernel
theorem d_Mo_keepsMany_96 : decode cX9_keepsMany 96 = .ok (.aload_n 0, 1) := by decide +kernel
theorem d_Mo_keepsMany_97 : decode cX9_keepsMany 97 = .ok (.aload_n 0, 1) := by decide +kernel
theorem d_Mo_keepsMany_98 : decode cX9_keepsMany 98 = .ok (.aload_n 0, 1) := by decide +kernel
theorem d_Mo_keepsMany_99 : decode cX9_keepsMany 99 = .ok (.getfield 440, 3) := by decide +kernel
theorem d_Mo_keepsMany_102 : decode cX9_keepsMany 102 = .ok (.invokevirtual 501, 3) := by decide +kernel
theorem d_Mo_keepsMany_105 : decode cX9_keepsMany 105 = .ok (.putfield 440, 3) := by decide +kernel
theorem d_Mo_keepsMany_108 : decode cX9_keepsMany 108 = .ok (.aload_n 0, 1) := by decide +kernel
theorem d_Mo_keepsMany_109 : decode cX9_keepsMany 109 = .ok (.aload_n 0, 1) := by decide +kernel
theorem d_Mo_keepsMany_110 : decode cX9_keepsMany 110 = .ok (.aload_n 0, 1) := by decide +kernel
theorem d_Mo_keepsMany_111 : decode cX9_keepsMany 111 = .ok (.getfield 443, 3) := by decide +kernel
theorem d_Mo_keepsMany_114 : decode cX9_keepsMany 114 = .ok (.invokevirtual 501, 3) := by decide +kernel
theorem d_Mo_keepsMany_117 : decode cX9_keepsMany 117 = .ok (.putfield 443, 3) := by decide +kernel
theorem d_Mo_keepsMany_120 : decode cX9_keepsMany 120 = .ok (.aload_n 0, 1) := by decide +kernel
theorem d_Mo_keepsMany_121 : decode cX9_keepsMany 121 = .ok (.aload_n 0, 1) := by decide +kernel
theorem d_Mo_keepsMany_122 : decode cX9_keepsMany 122 = .ok (.aload_n 0, 1) := by decide +kernel
theorem d_Mo_keepsMany_123 : decode cX9_keepsMany 123 = .ok (.getfield 468, 3) := by decide +kernel
theorem d_Mo_keepsMany_126 : decode cX9_keepsMany 126 = .ok (.invokevirtual 501, 3) := by decide +kernel
theorem d_Mo_keepsMany_129 : decode cX9_keepsMany 129 = .ok (.putfield 468, 3) := by decide +kernel
theorem d_Mo_keepsMany_132 : decode cX9_keepsMany 132 = .ok (.aload_n 0, 1) := by decide +kernel
theorem d_Mo_keepsMany_133 : decode cX9_keepsMany 133 = .ok (.aload_n 0, 1) := by decide +kernel
theorem d_Mo_keepsMany_134 : decode cX9_keepsMany 134 = .ok (.aload_n 0, 1) := by decide +kernel
theorem d_Mo_keepsMany_135 : decode cX9_keepsMany 135 = .ok (.getfield 480, 3) := by decide +kernel
theorem d_Mo_keepsMany_138 : decode cX9_keepsMany 138 = .ok (.invokevirtual 501, 3) := by decide +kernel
theorem d_Mo_keepsMany_141 : decode cX9_keepsMany 141 = .ok (.putfield 480, 3) := by decide +kernel
theorem d_Mo_keepsMany_144 : decode cX9_keepsMany 144 = .ok (.aload_n 0, 1) := by decide +kernel
theorem d_Mo_keepsMany_145 : decode cX9_keepsMany 145 = .ok (.aload_n 0, 1) := by decide +kernel
theorem d_Mo_keepsMany_146 : decode cX9_keepsMany 146 = .ok (.aload_n 0, 1) := by decide +kernel
theorem d_Mo_keepsMany_147 : decode cX9_keepsMany 147 = .ok (.getfield 483, 3) := by decide +kernel
theorem d_Mo_keepsMany_150 : decode cX9_keepsMany 150 = .ok (.invokevirtual 501, 3) := by decide +kernel
theorem d_Mo_keepsMany_153 : decode cX9_keepsMany 153 = .ok (.putfield 483, 3) := by decide +kernel
theorem d_Mo_keepsMany_156 : decode cX9_keepsMany 156 = .ok (.return_, 1) := by decide +kernel
theorem d_Mo_keepsTold_0 : decode cX9_keepsTold 0 = .ok (.iconst 0, 1) := by decide +kernel
theorem d_Mo_keepsTold_1 : decode cX9_keepsTold 1 = .ok (.istore_n 1, 1) := by decide +kernel
theorem d_Mo_keepsTold_2 : decode cX9_keepsTold 2 = .ok (.iload_n 1, 1) := by decide +kernel
theorem d_Mo_keepsTold_3 : decode cX9_keepsTold 3 = .ok (.bipush 12, 2) := by decide +kernel
theorem d_Mo_keepsTold_5 : decode cX9_keepsTold 5 = .ok (.if_icmp .ge 73, 3) := by decide +kernel
theorem d_Mo_keepsTold_8 : decode cX9_keepsTold 8 = .ok (.aload_n 0, 1) := by decide +kernel
theorem d_Mo_keepsTold_9 : decode cX9_keepsTold 9 = .ok (.getfield 19, 3) := by decide +kernel
theorem d_Mo_keepsTold_12 : decode cX9_keepsTold 12 = .ok (.iload_n 1, 1) := by decide +kernel
theorem d_Mo_keepsTold_13 : decode cX9_keepsTold 13 = .ok (.aload_n 0, 1) := by decide +kernel
theorem d_Mo_keepsTold_14 : decode cX9_keepsTold 14 = .ok (.aload_n 0, 1) := by decide +kernel
theorem d_Mo_keepsTold_15 : decode cX9_keepsTold 15 = .ok (.getfield 19, 3) := by decide +kernel
theorem d_Mo_keepsTold_18 : decode cX9_keepsTold 18 = .ok (.iload_n 1, 1) := by decide +kernel
theorem d_Mo_keepsTold_19 : decode cX9_keepsTold 19 = .ok (.iaload, 1) := by decide +kernel
theorem d_Mo_keepsTold_20 : decode cX9_keepsTold 20 = .ok (.invokevirtual 501, 3) := by decide +kernel
theorem d_Mo_keepsTold_23 : decode cX9_keepsTold 23 = .ok (.iastore, 1) := by decide +kernel
theorem d_Mo_keepsTold_24 : decode cX9_keepsTold 24 = .ok (.aload_n 0, 1) := by decide +kernel
theorem d_Mo_keepsTold_25 : decode cX9_keepsTold 25 = .ok (.getfield 22, 3) := by decide +kernel
theorem d_Mo_keepsTold_28 : decode cX9_keepsTold 28 = .ok (.iload_n 1, 1) := by decide +kernel
theorem d_Mo_keepsTold_29 : decode cX9_keepsTold 29 = .ok (.aload_n 0, 1) := by decide +kernel
theorem d_Mo_keepsTold_30 : decode cX9_keepsTold 30 = .ok (.aload_n 0, 1) := by decide +kernel
theorem d_Mo_keepsTold_31 : decode cX9_keepsTold 31 = .ok (.getfield 22, 3) := by decide +kernel
theorem d_Mo_keepsTold_34 : decode cX9_keepsTold 34 = .ok (.iload_n 1, 1) := by decide +kernel
theorem d_Mo_keepsTold_35 : decode cX9_keepsTold 35 = .ok (.iaload, 1) := by decide +kernel
theorem d_Mo_keepsTold_36 : decode cX9_keepsTold 36 = .ok (.invokevirtual 501, 3) := by decide +kernel
theorem d_Mo_keepsTold_39 : decode cX9_keepsTold 39 = .ok (.iastore, 1) := by decide +kernel
theorem d_Mo_keepsTold_40 : decode cX9_keepsTold 40 = .ok (.aload_n 0, 1) := by decide +kernel
theorem d_Mo_keepsTold_41 : decode cX9_keepsTold 41 = .ok (.getfield 68, 3) := by decide +kernel
theorem d_Mo_keepsTold_44 : decode cX9_keepsTold 44 = .ok (.iload_n 1, 1) := by decide +kernel
theorem d_Mo_keepsTold_45 : decode cX9_keepsTold 45 = .ok (.aload_n 0, 1) := by decide +kernel
theorem d_Mo_keepsTold_46 : decode cX9_keepsTold 46 = .ok (.aload_n 0, 1) := by decide +kernel
theorem d_Mo_keepsTold_47 : decode cX9_keepsTold 47 = .ok (.getfield 68, 3) := by decide +kernel
theorem d_Mo_keepsTold_50 : decode cX9_keepsTold 50 = .ok (.iload_n 1, 1) := by decide +kernel
theorem d_Mo_keepsTold_51 : decode cX9_keepsTold 51 = .ok (.iaload, 1) := by decide +kernel
theorem d_Mo_keepsTold_52 : decode cX9_keepsTold 52 = .ok (.invokevirtual 501, 3) := by decide +kernel
theorem d_Mo_keepsTold_55 : decode cX9_keepsTold 55 = .ok (.iastore, 1) := by decide +kernel
theorem d_Mo_keepsTold_56 : decode cX9_keepsTold 56 = .ok (.aload_n 0, 1) := by decide +kernel
theorem d_Mo_keepsTold_57 : decode cX9_keepsTold 57 = .ok (.getfield 125, 3) := by decide +kernel
theorem d_Mo_keepsTold_60 : decode cX9_keepsTold 60 = .ok (.iload_n 1, 1) := by decide +kernel
theorem d_Mo_keepsTold_61 : decode cX9_keepsTold 61 = .ok (.aload_n 0, 1) := by decide +kernel
theorem d_Mo_keepsTold_62 : decode cX9_keepsTold 62 = .ok (.aload_n 0, 1) := by decide +kernel
theorem d_Mo_keepsTold_63 : decode cX9_keepsTold 63 = .ok (.getfield 125, 3) := by decide +kernel
theorem d_Mo_keepsTold_66 : decode cX9_keepsTold 66 = .ok (.iload_n 1, 1) := by decide +kernel
theorem d_Mo_keepsTold_67 : decode cX9_keepsTold 67 = .ok (.iaload, 1) := by decide +kernel
theorem d_Mo_keepsTold_68 : decode cX9_keepsTold 68 = .ok (.invokevirtual 501, 3) := by decide +kernel
theorem d_Mo_keepsTold_71 : decode cX9_keepsTold 71 = .ok (.iastore, 1) := by decide +kernel
theorem d_Mo_keepsTold_72 : decode cX9_keepsTold 72 = .ok (.iinc 1 1, 3) := by decide +kernel
theorem d_Mo_keepsTold_75 : decode cX9_keepsTold 75 = .ok (.goto (-73), 3) := by decide +kernel
theorem d_Mo_keepsTold_78 : decode cX9_keepsTold 78 = .ok (.iconst 0, 1) := by decide +kernel
theorem d_Mo_keepsTold_79 : decode cX9_keepsTold 79 = .ok (.istore_n 1, 1) := by decide +kernel
theorem d_Mo_keepsTold_80 : decode cX9_keepsTold 80 = .ok (.iload_n 1, 1) := by decide +kernel
theorem d_Mo_keepsTold_81 : decode cX9_keepsTold 81 = .ok (.bipush 6, 2) := by decide +kernel
theorem d_Mo_keepsTold_83 : decode cX9_keepsTold 83 = .ok (.if_icmp .ge 89, 3) := by decide +kernel
theorem d_Mo_keepsTold_86 : decode cX9_keepsTold 86 = .ok (.aload_n 0, 1) := by decide +kernel
theorem d_Mo_keepsTold_87 : decode cX9_keepsTold 87 = .ok (.getfield 25, 3) := by decide +kernel
theorem d_Mo_keepsTold_90 : decode cX9_keepsTold 90 = .ok (.iload_n 1, 1) := by decide +kernel
theorem d_Mo_keepsTold_91 : decode cX9_keepsTold 91 = .ok (.aload_n 0, 1) := by decide +kernel
theorem d_Mo_keepsTold_92 : decode cX9_keepsTold 92 = .ok (.aload_n 0, 1) := by decide +kernel
theorem d_Mo_keepsTold_93 : decode cX9_keepsTold 93 = .ok (.getfield 25, 3) := by decide +kernel
theorem d_Mo_keepsTold_96 : decode cX9_keepsTold 96 = .ok (.iload_n 1, 1) := by decide +kernel
theorem d_Mo_keepsTold_97 : decode cX9_keepsTold 97 = .ok (.iaload, 1) := by decide +kernel
theorem d_Mo_keepsTold_98 : decode cX9_keepsTold 98 = .ok (.invokevirtual 501, 3) := by decide +kernel
theorem d_Mo_keepsTold_101 : decode cX9_keepsTold 101 = .ok (.iastore, 1) := by decide +kernel
theorem d_Mo_keepsTold_102 : decode cX9_keepsTold 102 = .ok (.aload_n 0, 1) := by decide +kernel
theorem d_Mo_keepsTold_103 : decode cX9_keepsTold 103 = .ok (.getfield 28, 3) := by decide +kernel
theorem d_Mo_keepsTold_106 : decode cX9_keepsTold 106 = .ok (.iload_n 1, 1) := by decide +kernel
theorem d_Mo_keepsTold_107 : decode cX9_keepsTold 107 = .ok (.aload_n 0, 1) := by decide +kernel
theorem d_Mo_keepsTold_108 : decode cX9_keepsTold 108 = .ok (.aload_n 0, 1) := by decide +kernel
theorem d_Mo_keepsTold_109 : decode cX9_keepsTold 109 = .ok (.getfield 28, 3) := by decide +kernel
theorem d_Mo_keepsTold_112 : decode cX9_keepsTold 112 = .ok (.iload_n 1, 1) := by decide +kernel
theorem d_Mo_keepsTold_113 : decode cX9_keepsTold 113 = .ok (.iaload, 1) := by decide +kernel
theorem d_Mo_keepsTold_114 : decode cX9_keepsTold 114 = .ok (.invokevirtual 501, 3) := by decide +kernel
theorem d_Mo_keepsTold_117 : decode cX9_keepsTold 117 = .ok (.iastore, 1) := by decide +kernel
theorem d_Mo_keepsTold_118 : decode cX9_keepsTold 118 = .ok (.aload_n 0, 1) := by decide +kernel
theorem d_Mo_keepsTold_119 : decode cX9_keepsTold 119 = .ok (.getfield 92, 3) := by decide +kernel
theorem d_Mo_keepsTold_122 : decode cX9_keepsTold 122 = .ok (.iload_n 1, 1) := by decide +kernel
theorem d_Mo_keepsTold_123 : decode cX9_keepsTold 123 = .ok (.aload_n 0, 1) := by decide +kernel
theorem d_Mo_keepsTold_124 : decode cX9_keepsTold 124 = .ok (.aload_n 0, 1) := by decide +kernel
theorem d_Mo_keepsTold_125 : decode cX9_keepsTold 125 = .ok (.getfield 92, 3) := by decide +kernel
theorem d_Mo_keepsTold_128 : decode cX9_keepsTold 128 = .ok (.iload_n 1, 1) := by decide +kernel
theorem d_Mo_keepsTold_129 : decode cX9_keepsTold 129 = .ok (.iaload, 1) := by decide +kernel
theorem d_Mo_keepsTold_130 : decode cX9_keepsTold 130 = .ok (.invokevirtual 501, 3) := by decide +kernel
theorem d_Mo_keepsTold_133 : decode cX9_keepsTold 133 = .ok (.iastore, 1) := by decide +kernel
theorem d_Mo_keepsTold_134 : decode cX9_keepsTold 134 = .ok (.aload_n 0, 1) := by decide +kernel
theorem d_Mo_keepsTold_135 : decode cX9_keepsTold 135 = .ok (.getfield 110, 3) := by decide +kernel
theorem d_Mo_keepsTold_138 : decode cX9_keepsTold 138 = .ok (.iload_n 1, 1) := by decide +kernel
theorem d_Mo_keepsTold_139 : decode cX9_keepsTold 139 = .ok (.aload_n 0, 1) := by decide +kernel
theorem d_Mo_keepsTold_140 : decode cX9_keepsTold 140 = .ok (.aload_n 0, 1) := by decide +kernel
theorem d_Mo_keepsTold_141 : decode cX9_keepsTold 141 = .ok (.getfield 110, 3) := by decide +kernel
theorem d_Mo_keepsTold_144 : decode cX9_keepsTold 144 = .ok (.iload_n 1, 1) := by decide +kernel
theorem d_Mo_keepsTold_145 : decode cX9_keepsTold 145 = .ok (.iaload, 1) := by decide +kernel
theorem d_Mo_keepsTold_146 : decode cX9_keepsTold 146 = .ok (.invokevirtual 501, 3) := by decide +kernel
theorem d_Mo_keepsTold_149 : decode cX9_keepsTold 149 = .ok (.iastore, 1) := by decide +kernel
theorem d_Mo_keepsTold_150 : decode cX9_keepsTold 150 = .ok (.aload_n 0, 1) := by decide +kernel
theorem d_Mo_keepsTold_151 : decode cX9_keepsTold 151 = .ok (.getfield 113, 3) := by decide +kernel
theorem d_Mo_keepsTold_154 : decode cX9_keepsTold 154 = .ok (.iload_n 1, 1) := by decide +kernel
theorem d_Mo_keepsTold_155 : decode cX9_keepsTold 155 = .ok (.aload_n 0, 1) := by decide +kernel
theorem d_Mo_keepsTold_156 : decode cX9_keepsTold 156 = .ok (.aload_n 0, 1) := by decide +kernel
theorem d_Mo_keepsTold_157 : decode cX9_keepsTold 157 = .ok (.getfield 113, 3) := by decide +kernel
theorem d_Mo_keepsTold_160 : decode cX9_keepsTold 160 = .ok (.iload_n 1, 1) := by decide +kernel
theorem d_Mo_keepsTold_161 : decode cX9_keepsTold 161 = .ok (.iaload, 1) := by decide +kernel
theorem d_Mo_keepsTold_162 : decode cX9_keepsTold 162 = .ok (.invokevirtual 501, 3) := by decide +kernel
theorem d_Mo_keepsTold_165 : decode cX9_keepsTold 165 = .ok (.iastore, 1) := by decide +kernel
theorem d_Mo_keepsTold_166 : decode cX9_keepsTold 166 = .ok (.iinc 1 1, 3) := by decide +kernel
theorem d_Mo_keepsTold_169 : decode cX9_keepsTold 169 = .ok (.goto (-89), 3) := by decide +kernel
theorem d_Mo_keepsTold_172 : decode cX9_keepsTold 172 = .ok (.iconst 0, 1) := by decide +kernel
theorem d_Mo_keepsTold_173 : decode cX9_keepsTold 173 = .ok (.istore_n 1, 1) := by decide +kernel
theorem d_Mo_keepsTold_174 : decode cX9_keepsTold 174 = .ok (.iload_n 1, 1) := by decide +kernel
theorem d_Mo_keepsTold_175 : decode cX9_keepsTold 175 = .ok (.bipush 8, 2) := by decide +kernel
theorem d_Mo_keepsTold_177 : decode cX9_keepsTold 177 = .ok (.if_icmp .ge 73, 3) := by decide +kernel
theorem d_Mo_keepsTold_180 : decode cX9_keepsTold 180 = .ok (.aload_n 0, 1) := by decide +kernel
theorem d_Mo_keepsTold_181 : decode cX9_keepsTold 181 = .ok (.getfield 83, 3) := by decide +kernel
theorem d_Mo_keepsTold_184 : decode cX9_keepsTold 184 = .ok (.iload_n 1, 1) := by decide +kernel
theorem d_Mo_keepsTold_185 : decode cX9_keepsTold 185 = .ok (.aload_n 0, 1) := by decide +kernel
theorem d_Mo_keepsTold_186 : decode cX9_keepsTold 186 = .ok (.aload_n 0, 1) := by decide +kernel
theorem d_Mo_keepsTold_187 : decode cX9_keepsTold 187 = .ok (.getfield 83, 3) := by decide +kernel
theorem d_Mo_keepsTold_190 : decode cX9_keepsTold 190 = .ok (.iload_n 1, 1) := by decide +kernel
theorem d_Mo_keepsTold_191 : decode cX9_keepsTold 191 = .ok (.iaload, 1) := by decide +kernel
theorem d_Mo_keepsTold_192 : decode cX9_keepsTold 192 = .ok (.invokevirtual 501, 3) := by decide +kernel
theorem d_Mo_keepsTold_195 : decode cX9_keepsTold 195 = .ok (.iastore, 1) := by decide +kernel
theorem d_Mo_keepsTold_196 : decode cX9_keepsTold 196 = .ok (.aload_n 0, 1) := by decide +kernel
theorem d_Mo_keepsTold_197 : decode cX9_keepsTold 197 = .ok (.getfield 86, 3) := by decide +kernel
theorem d_Mo_keepsTold_200 : decode cX9_keepsTold 200 = .ok (.iload_n 1, 1) := by decide +kernel
theorem d_Mo_keepsTold_201 : decode cX9_keepsTold 201 = .ok (.aload_n 0, 1) := by decide +kernel
theorem d_Mo_keepsTold_202 : decode cX9_keepsTold 202 = .ok (.aload_n 0, 1) := by decide +kernel
theorem d_Mo_keepsTold_203 : decode cX9_keepsTold 203 = .ok (.getfield 86, 3) := by decide +kernel
theorem d_Mo_keepsTold_206 : decode cX9_keepsTold 206 = .ok (.iload_n 1, 1) := by decide +kernel
theorem d_Mo_keepsTold_207 : decode cX9_keepsTold 207 = .ok (.iaload, 1) := by decide +kernel
theorem d_Mo_keepsTold_208 : decode cX9_keepsTold 208 = .ok (.invokevirtual 501, 3) := by decide +kernel
theorem d_Mo_keepsTold_211 : decode cX9_keepsTold 211 = .ok (.iastore, 1) := by decide +kernel
theorem d_Mo_keepsTold_212 : decode cX9_keepsTold 212 = .ok (.aload_n 0, 1) := by decide +kernel
theorem d_Mo_keepsTold_213 : decode cX9_keepsTold 213 = .ok (.getfield 89, 3) := by decide +kernel
theorem d_Mo_keepsTold_216 : decode cX9_keepsTold 216 = .ok (.iload_n 1, 1) := by decide +kernel
theorem d_Mo_keepsTold_217 : decode cX9_keepsTold 217 = .ok (.aload_n 0, 1) := by decide +kernel
theorem d_Mo_keepsTold_218 : decode cX9_keepsTold 218 = .ok (.aload_n 0, 1) := by decide +kernel
theorem d_Mo_keepsTold_219 : decode cX9_keepsTold 219 = .ok (.getfield 89, 3) := by decide +kernel
theorem d_Mo_keepsTold_222 : decode cX9_keepsTold 222 = .ok (.iload_n 1, 1) := by decide +kernel
theorem d_Mo_keepsTold_223 : decode cX9_keepsTold 223 = .ok (.iaload, 1) := by decide +kernel
theorem d_Mo_keepsTold_224 : decode cX9_keepsTold 224 = .ok (.invokevirtual 501, 3) := by decide +kernel
theorem d_Mo_keepsTold_227 : decode cX9_keepsTold 227 = .ok (.iastore, 1) := by decide +kernel
theorem d_Mo_keepsTold_228 : decode cX9_keepsTold 228 = .ok (.aload_n 0, 1) := by decide +kernel
theorem d_Mo_keepsTold_229 : decode cX9_keepsTold 229 = .ok (.getfield 101, 3) := by decide +kernel
theorem d_Mo_keepsTold_232 : decode cX9_keepsTold 232 = .ok (.iload_n 1, 1) := by decide +kernel
theorem d_Mo_keepsTold_233 : decode cX9_keepsTold 233 = .ok (.aload_n 0, 1) := by decide +kernel
theorem d_Mo_keepsTold_234 : decode cX9_keepsTold 234 = .ok (.aload_n 0, 1) := by decide +kernel
theorem d_Mo_keepsTold_235 : decode cX9_keepsTold 235 = .ok (.getfield 101, 3) := by decide +kernel
theorem d_Mo_keepsTold_238 : decode cX9_keepsTold 238 = .ok (.iload_n 1, 1) := by decide +kernel
theorem d_Mo_keepsTold_239 : decode cX9_keepsTold 239 = .ok (.iaload, 1) := by decide +kernel
theorem d_Mo_keepsTold_240 : decode cX9_keepsTold 240 = .ok (.invokevirtual 501, 3) := by decide +kernel
theorem d_Mo_keepsTold_243 : decode cX9_keepsTold 243 = .ok (.iastore, 1) := by decide +kernel
theorem d_Mo_keepsTold_244 : decode cX9_keepsTold 244 = .ok (.iinc 1 1, 3) := by decide +kernel
theorem d_Mo_keepsTold_247 : decode cX9_keepsTold 247 = .ok (.goto (-73), 3) := by decide +kernel
theorem d_Mo_keepsTold_250 : decode cX9_keepsTold 250 = .ok (.iconst 0, 1) := by decide +kernel
theorem d_Mo_keepsTold_251 : decode cX9_keepsTold 251 = .ok (.istore_n 1, 1) := by decide +kernel
theorem d_Mo_keepsTold_252 : decode cX9_keepsTold 252 = .ok (.iload_n 1, 1) := by decide +kernel
theorem d_Mo_keepsTold_253 : decode cX9_keepsTold 253 = .ok (.bipush 10, 2) := by decide +kernel
theorem d_Mo_keepsTold_255 : decode cX9_keepsTold 255 = .ok (.if_icmp .ge 25, 3) := by decide +kernel
theorem d_Mo_keepsTold_258 : decode cX9_keepsTold 258 = .ok (.aload_n 0, 1) := by decide +kernel
theorem d_Mo_keepsTold_259 : decode cX9_keepsTold 259 = .ok (.getfield 107, 3) := by decide +kernel
theorem d_Mo_keepsTold_262 : decode cX9_keepsTold 262 = .ok (.iload_n 1, 1) := by decide +kernel
theorem d_Mo_keepsTold_263 : decode cX9_keepsTold 263 = .ok (.aload_n 0, 1) := by decide +kernel
theorem d_Mo_keepsTold_264 : decode cX9_keepsTold 264 = .ok (.aload_n 0, 1) := by decide +kernel
theorem d_Mo_keepsTold_265 : decode cX9_keepsTold 265 = .ok (.getfield 107, 3) := by decide +kernel
theorem d_Mo_keepsTold_268 : decode cX9_keepsTold 268 = .ok (.iload_n 1, 1) := by decide +kernel
theorem d_Mo_keepsTold_269 : decode cX9_keepsTold 269 = .ok (.iaload, 1) := by decide +kernel
theorem d_Mo_keepsTold_270 : decode cX9_keepsTold 270 = .ok (.invokevirtual 501, 3) := by decide +kernel
theorem d_Mo_keepsTold_273 : decode cX9_keepsTold 273 = .ok (.iastore, 1) := by decide +kernel
theorem d_Mo_keepsTold_274 : decode cX9_keepsTold 274 = .ok (.iinc 1 1, 3) := by decide +kernel
theorem d_Mo_keepsTold_277 : decode cX9_keepsTold 277 = .ok (.goto (-25), 3) := by decide +kernel
theorem d_Mo_keepsTold_280 : decode cX9_keepsTold 280 = .ok (.iconst 0, 1) := by decide +kernel
theorem d_Mo_keepsTold_281 : decode cX9_keepsTold 281 = .ok (.istore_n 1, 1) := by decide +kernel
theorem d_Mo_keepsTold_282 : decode cX9_keepsTold 282 = .ok (.iload_n 1, 1) := by decide +kernel
theorem d_Mo_keepsTold_283 : decode cX9_keepsTold 283 = .ok (.bipush 24, 2) := by decide +kernel
theorem d_Mo_keepsTold_285 : decode cX9_keepsTold 285 = .ok (.if_icmp .ge 41, 3) := by decide +kernel
theorem d_Mo_keepsTold_288 : decode cX9_keepsTold 288 = .ok (.aload_n 0, 1) := by decide +kernel
theorem d_Mo_keepsTold_289 : decode cX9_keepsTold 289 = .ok (.getfield 122, 3) := by decide +kernel
theorem d_Mo_keepsTold_292 : decode cX9_keepsTold 292 = .ok (.iload_n 1, 1) := by decide +kernel
theorem d_Mo_keepsTold_293 : decode cX9_keepsTold 293 = .ok (.aload_n 0, 1) := by decide +kernel
theorem d_Mo_keepsTold_294 : decode cX9_keepsTold 294 = .ok (.aload_n 0, 1) := by decide +kernel
theorem d_Mo_keepsTold_295 : decode cX9_keepsTold 295 = .ok (.getfield 122, 3) := by decide +kernel
theorem d_Mo_keepsTold_298 : decode cX9_keepsTold 298 = .ok (.iload_n 1, 1) := by decide +kernel
theorem d_Mo_keepsTold_299 : decode cX9_keepsTold 299 = .ok (.iaload, 1) := by decide +kernel
theorem d_Mo_keepsTold_300 : decode cX9_keepsTold 300 = .ok (.invokevirtual 501, 3) := by decide +kernel
theorem d_Mo_keepsTold_303 : decode cX9_keepsTold 303 = .ok (.iastore, 1) := by decide +kernel
theorem d_Mo_keepsTold_304 : decode cX9_keepsTold 304 = .ok (.aload_n 0, 1) := by decide +kernel
theorem d_Mo_keepsTold_305 : decode cX9_keepsTold 305 = .ok (.getfield 134, 3) := by decide +kernel
theorem d_Mo_keepsTold_308 : decode cX9_keepsTold 308 = .ok (.iload_n 1, 1) := by decide +kernel
theorem d_Mo_keepsTold_309 : decode cX9_keepsTold 309 = .ok (.aload_n 0, 1) := by decide +kernel
theorem d_Mo_keepsTold_310 : decode cX9_keepsTold 310 = .ok (.aload_n 0, 1) := by decide +kernel
theorem d_Mo_keepsTold_311 : decode cX9_keepsTold 311 = .ok (.getfield 134, 3) := by decide +kernel
theorem d_Mo_keepsTold_314 : decode cX9_keepsTold 314 = .ok (.iload_n 1, 1) := by decide +kernel
theorem d_Mo_keepsTold_315 : decode cX9_keepsTold 315 = .ok (.iaload, 1) := by decide +kernel
theorem d_Mo_keepsTold_316 : decode cX9_keepsTold 316 = .ok (.invokevirtual 501, 3) := by decide +kernel
theorem d_Mo_keepsTold_319 : decode cX9_keepsTold 319 = .ok (.iastore, 1) := by decide +kernel
theorem d_Mo_keepsTold_320 : decode cX9_keepsTold 320 = .ok (.iinc 1 1, 3) := by decide +kernel
theorem d_Mo_keepsTold_323 : decode cX9_keepsTold 323 = .ok (.goto (-41), 3) := by decide +kernel
theorem d_Mo_keepsTold_326 : decode cX9_keepsTold 326 = .ok (.iconst 0, 1) := by decide +kernel
theorem d_Mo_keepsTold_327 : decode cX9_keepsTold 327 = .ok (.istore_n 1, 1) := by decide +kernel
theorem d_Mo_keepsTold_328 : decode cX9_keepsTold 328 = .ok (.iload_n 1, 1) := by decide +kernel
theorem d_Mo_keepsTold_329 : decode cX9_keepsTold 329 = .ok (.bipush 64, 2) := by decide +kernel
theorem d_Mo_keepsTold_331 : decode cX9_keepsTold 331 = .ok (.if_icmp .ge 25, 3) := by decide +kernel
theorem d_Mo_keepsTold_334 : decode cX9_keepsTold 334 = .ok (.aload_n 0, 1) := by decide +kernel
theorem d_Mo_keepsTold_335 : decode cX9_keepsTold 335 = .ok (.getfield 71, 3) := by decide +kernel
theorem d_Mo_keepsTold_338 : decode cX9_keepsTold 338 = .ok (.iload_n 1, 1) := by decide +kernel
theorem d_Mo_keepsTold_339 : decode cX9_keepsTold 339 = .ok (.aload_n 0, 1) := by decide +kernel
theorem d_Mo_keepsTold_340 : decode cX9_keepsTold 340 = .ok (.aload_n 0, 1) := by decide +kernel
theorem d_Mo_keepsTold_341 : decode cX9_keepsTold 341 = .ok (.getfield 71, 3) := by decide +kernel
theorem d_Mo_keepsTold_344 : decode cX9_keepsTold 344 = .ok (.iload_n 1, 1) := by decide +kernel
theorem d_Mo_keepsTold_345 : decode cX9_keepsTold 345 = .ok (.iaload, 1) := by decide +kernel
theorem d_Mo_keepsTold_346 : decode cX9_keepsTold 346 = .ok (.invokevirtual 501, 3) := by decide +kernel
theorem d_Mo_keepsTold_349 : decode cX9_keepsTold 349 = .ok (.iastore, 1) := by decide +kernel
theorem d_Mo_keepsTold_350 : decode cX9_keepsTold 350 = .ok (.iinc 1 1, 3) := by decide +kernel
theorem d_Mo_keepsTold_353 : decode cX9_keepsTold 353 = .ok (.goto (-25), 3) := by decide +kernel
theorem d_Mo_keepsTold_356 : decode cX9_keepsTold 356 = .ok (.iconst 0, 1) := by decide +kernel
theorem d_Mo_keepsTold_357 : decode cX9_keepsTold 357 = .ok (.istore_n 1, 1) := by decide +kernel
theorem d_Mo_keepsTold_358 : decode cX9_keepsTold 358 = .ok (.iload_n 1, 1) := by decide +kernel
theorem d_Mo_keepsTold_359 : decode cX9_keepsTold 359 = .ok (.bipush 64, 2) := by decide +kernel
theorem d_Mo_keepsTold_361 : decode cX9_keepsTold 361 = .ok (.if_icmp .ge 25, 3) := by decide +kernel
theorem d_Mo_keepsTold_364 : decode cX9_keepsTold 364 = .ok (.aload_n 0, 1) := by decide +kernel
theorem d_Mo_keepsTold_365 : decode cX9_keepsTold 365 = .ok (.getfield 74, 3) := by decide +kernel
theorem d_Mo_keepsTold_368 : decode cX9_keepsTold 368 = .ok (.iload_n 1, 1) := by decide +kernel
theorem d_Mo_keepsTold_369 : decode cX9_keepsTold 369 = .ok (.aload_n 0, 1) := by decide +kernel
theorem d_Mo_keepsTold_370 : decode cX9_keepsTold 370 = .ok (.aload_n 0, 1) := by decide +kernel
theorem d_Mo_keepsTold_371 : decode cX9_keepsTold 371 = .ok (.getfield 74, 3) := by decide +kernel
theorem d_Mo_keepsTold_374 : decode cX9_keepsTold 374 = .ok (.iload_n 1, 1) := by decide +kernel
theorem d_Mo_keepsTold_375 : decode cX9_keepsTold 375 = .ok (.iaload, 1) := by decide +kernel
theorem d_Mo_keepsTold_376 : decode cX9_keepsTold 376 = .ok (.invokevirtual 501, 3) := by decide +kernel
theorem d_Mo_keepsTold_379 : decode cX9_keepsTold 379 = .ok (.iastore, 1) := by decide +kernel
theorem d_Mo_keepsTold_380 : decode cX9_keepsTold 380 = .ok (.iinc 1 1, 3) := by decide +kernel
theorem d_Mo_keepsTold_383 : decode cX9_keepsTold 383 = .ok (.goto (-25), 3) := by decide +kernel
theorem d_Mo_keepsTold_386 : decode cX9_keepsTold 386 = .ok (.return_, 1) := by decide +kernel
theorem d_Mo_keepsLaw_0 : decode cX9_keepsLaw 0 = .ok (.aload_n 0, 1) := by decide +kernel
theorem d_Mo_keepsLaw_1 : decode cX9_keepsLaw 1 = .ok (.getfield 40, 3) := by decide +kernel
theorem d_Mo_keepsLaw_4 : decode cX9_keepsLaw 4 = .ok (.iconst 0, 1) := by decide +kernel
theorem d_Mo_keepsLaw_5 : decode cX9_keepsLaw 5 = .ok (.aload_n 0, 1) := by decide +kernel
theorem d_Mo_keepsLaw_6 : decode cX9_keepsLaw 6 = .ok (.aload_n 0, 1) := by decide +kernel
theorem d_Mo_keepsLaw_7 : decode cX9_keepsLaw 7 = .ok (.getfield 40, 3) := by decide +kernel
theorem d_Mo_keepsLaw_10 : decode cX9_keepsLaw 10 = .ok (.iconst 0, 1) := by decide +kernel
theorem d_Mo_keepsLaw_11 : decode cX9_keepsLaw 11 = .ok (.iaload, 1) := by decide +kernel
theorem d_Mo_keepsLaw_12 : decode cX9_keepsLaw 12 = .ok (.invokevirtual 501, 3) := by decide +kernel
theorem d_Mo_keepsLaw_15 : decode cX9_keepsLaw 15 = .ok (.iastore, 1) := by decide +kernel
theorem d_Mo_keepsLaw_16 : decode cX9_keepsLaw 16 = .ok (.iconst 0, 1) := by decide +kernel
theorem d_Mo_keepsLaw_17 : decode cX9_keepsLaw 17 = .ok (.istore_n 1, 1) := by decide +kernel
theorem d_Mo_keepsLaw_18 : decode cX9_keepsLaw 18 = .ok (.iload_n 1, 1) := by decide +kernel
theorem d_Mo_keepsLaw_19 : decode cX9_keepsLaw 19 = .ok (.bipush 16, 2) := by decide +kernel
theorem d_Mo_keepsLaw_21 : decode cX9_keepsLaw 21 = .ok (.if_icmp .ge 73, 3) := by decide +kernel
theorem d_Mo_keepsLaw_24 : decode cX9_keepsLaw 24 = .ok (.aload_n 0, 1) := by decide +kernel
theorem d_Mo_keepsLaw_25 : decode cX9_keepsLaw 25 = .ok (.getfield 43, 3) := by decide +kernel
theorem d_Mo_keepsLaw_28 : decode cX9_keepsLaw 28 = .ok (.iload_n 1, 1) := by decide +kernel
theorem d_Mo_keepsLaw_29 : decode cX9_keepsLaw 29 = .ok (.aload_n 0, 1) := by decide +kernel
theorem d_Mo_keepsLaw_30 : decode cX9_keepsLaw 30 = .ok (.aload_n 0, 1) := by decide +kernel
theorem d_Mo_keepsLaw_31 : decode cX9_keepsLaw 31 = .ok (.getfield 43, 3) := by decide +kernel
theorem d_Mo_keepsLaw_34 : decode cX9_keepsLaw 34 = .ok (.iload_n 1, 1) := by decide +kernel
theorem d_Mo_keepsLaw_35 : decode cX9_keepsLaw 35 = .ok (.iaload, 1) := by decide +kernel
theorem d_Mo_keepsLaw_36 : decode cX9_keepsLaw 36 = .ok (.invokevirtual 501, 3) := by decide +kernel
theorem d_Mo_keepsLaw_39 : decode cX9_keepsLaw 39 = .ok (.iastore, 1) := by decide +kernel
theorem d_Mo_keepsLaw_40 : decode cX9_keepsLaw 40 = .ok (.aload_n 0, 1) := by decide +kernel
theorem d_Mo_keepsLaw_41 : decode cX9_keepsLaw 41 = .ok (.getfield 46, 3) := by decide +kernel
theorem d_Mo_keepsLaw_44 : decode cX9_keepsLaw 44 = .ok (.iload_n 1, 1) := by decide +kernel
theorem d_Mo_keepsLaw_45 : decode cX9_keepsLaw 45 = .ok (.aload_n 0, 1) := by decide +kernel
theorem d_Mo_keepsLaw_46 : decode cX9_keepsLaw 46 = .ok (.aload_n 0, 1) := by decide +kernel
theorem d_Mo_keepsLaw_47 : decode cX9_keepsLaw 47 = .ok (.getfield 46, 3) := by decide +kernel
theorem d_Mo_keepsLaw_50 : decode cX9_keepsLaw 50 = .ok (.iload_n 1, 1) := by decide +kernel
theorem d_Mo_keepsLaw_51 : decode cX9_keepsLaw 51 = .ok (.iaload, 1) := by decide +kernel
theorem d_Mo_keepsLaw_52 : decode cX9_keepsLaw 52 = .ok (.invokevirtual 501, 3) := by decide +kernel
theorem d_Mo_keepsLaw_55 : decode cX9_keepsLaw 55 = .ok (.iastore, 1) := by decide +kernel
theorem d_Mo_keepsLaw_56 : decode cX9_keepsLaw 56 = .ok (.aload_n 0, 1) := by decide +kernel
theorem d_Mo_keepsLaw_57 : decode cX9_keepsLaw 57 = .ok (.getfield 49, 3) := by decide +kernel
theorem d_Mo_keepsLaw_60 : decode cX9_keepsLaw 60 = .ok (.iload_n 1, 1) := by decide +kernel
theorem d_Mo_keepsLaw_61 : decode cX9_keepsLaw 61 = .ok (.aload_n 0, 1) := by decide +kernel
theorem d_Mo_keepsLaw_62 : decode cX9_keepsLaw 62 = .ok (.aload_n 0, 1) := by decide +kernel
theorem d_Mo_keepsLaw_63 : decode cX9_keepsLaw 63 = .ok (.getfield 49, 3) := by decide +kernel
theorem d_Mo_keepsLaw_66 : decode cX9_keepsLaw 66 = .ok (.iload_n 1, 1) := by decide +kernel
theorem d_Mo_keepsLaw_67 : decode cX9_keepsLaw 67 = .ok (.iaload, 1) := by decide +kernel
theorem d_Mo_keepsLaw_68 : decode cX9_keepsLaw 68 = .ok (.invokevirtual 501, 3) := by decide +kernel
theorem d_Mo_keepsLaw_71 : decode cX9_keepsLaw 71 = .ok (.iastore, 1) := by decide +kernel
theorem d_Mo_keepsLaw_72 : decode cX9_keepsLaw 72 = .ok (.aload_n 0, 1) := by decide +kernel
theorem d_Mo_keepsLaw_73 : decode cX9_keepsLaw 73 = .ok (.getfield 52, 3) := by decide +kernel
theorem d_Mo_keepsLaw_76 : decode cX9_keepsLaw 76 = .ok (.iload_n 1, 1) := by decide +kernel
theorem d_Mo_keepsLaw_77 : decode cX9_keepsLaw 77 = .ok (.aload_n 0, 1) := by decide +kernel
theorem d_Mo_keepsLaw_78 : decode cX9_keepsLaw 78 = .ok (.aload_n 0, 1) := by decide +kernel
theorem d_Mo_keepsLaw_79 : decode cX9_keepsLaw 79 = .ok (.getfield 52, 3) := by decide +kernel
theorem d_Mo_keepsLaw_82 : decode cX9_keepsLaw 82 = .ok (.iload_n 1, 1) := by decide +kernel
theorem d_Mo_keepsLaw_83 : decode cX9_keepsLaw 83 = .ok (.iaload, 1) := by decide +kernel
theorem d_Mo_keepsLaw_84 : decode cX9_keepsLaw 84 = .ok (.invokevirtual 501, 3) := by decide +kernel
theorem d_Mo_keepsLaw_87 : decode cX9_keepsLaw 87 = .ok (.iastore, 1) := by decide +kernel
theorem d_Mo_keepsLaw_88 : decode cX9_keepsLaw 88 = .ok (.iinc 1 1, 3) := by decide +kernel
theorem d_Mo_keepsLaw_91 : decode cX9_keepsLaw 91 = .ok (.goto (-73), 3) := by decide +kernel
theorem d_Mo_keepsLaw_94 : decode cX9_keepsLaw 94 = .ok (.iconst 0, 1) := by decide +kernel
theorem d_Mo_keepsLaw_95 : decode cX9_keepsLaw 95 = .ok (.istore_n 1, 1) := by decide +kernel
theorem d_Mo_keepsLaw_96 : decode cX9_keepsLaw 96 = .ok (.iload_n 1, 1) := by decide +kernel
theorem d_Mo_keepsLaw_97 : decode cX9_keepsLaw 97 = .ok (.sipush 400, 3) := by decide +kernel
theorem d_Mo_keepsLaw_100 : decode cX9_keepsLaw 100 = .ok (.if_icmp .ge 41, 3) := by decide +kernel
theorem d_Mo_keepsLaw_103 : decode cX9_keepsLaw 103 = .ok (.aload_n 0, 1) := by decide +kernel
theorem d_Mo_keepsLaw_104 : decode cX9_keepsLaw 104 = .ok (.getfield 55, 3) := by decide +kernel
theorem d_Mo_keepsLaw_107 : decode cX9_keepsLaw 107 = .ok (.iload_n 1, 1) := by decide +kernel
theorem d_Mo_keepsLaw_108 : decode cX9_keepsLaw 108 = .ok (.aload_n 0, 1) := by decide +kernel
theorem d_Mo_keepsLaw_109 : decode cX9_keepsLaw 109 = .ok (.aload_n 0, 1) := by decide +kernel
theorem d_Mo_keepsLaw_110 : decode cX9_keepsLaw 110 = .ok (.getfield 55, 3) := by decide +kernel
theorem d_Mo_keepsLaw_113 : decode cX9_keepsLaw 113 = .ok (.iload_n 1, 1) := by decide +kernel
theorem d_Mo_keepsLaw_114 : decode cX9_keepsLaw 114 = .ok (.iaload, 1) := by decide +kernel
theorem d_Mo_keepsLaw_115 : decode cX9_keepsLaw 115 = .ok (.invokevirtual 501, 3) := by decide +kernel
theorem d_Mo_keepsLaw_118 : decode cX9_keepsLaw 118 = .ok (.iastore, 1) := by decide +kernel
theorem d_Mo_keepsLaw_119 : decode cX9_keepsLaw 119 = .ok (.aload_n 0, 1) := by decide +kernel
theorem d_Mo_keepsLaw_120 : decode cX9_keepsLaw 120 = .ok (.getfield 58, 3) := by decide +kernel
theorem d_Mo_keepsLaw_123 : decode cX9_keepsLaw 123 = .ok (.iload_n 1, 1) := by decide +kernel
theorem d_Mo_keepsLaw_124 : decode cX9_keepsLaw 124 = .ok (.aload_n 0, 1) := by decide +kernel
theorem d_Mo_keepsLaw_125 : decode cX9_keepsLaw 125 = .ok (.aload_n 0, 1) := by decide +kernel
theorem d_Mo_keepsLaw_126 : decode cX9_keepsLaw 126 = .ok (.getfield 58, 3) := by decide +kernel
theorem d_Mo_keepsLaw_129 : decode cX9_keepsLaw 129 = .ok (.iload_n 1, 1) := by decide +kernel
theorem d_Mo_keepsLaw_130 : decode cX9_keepsLaw 130 = .ok (.iaload, 1) := by decide +kernel
theorem d_Mo_keepsLaw_131 : decode cX9_keepsLaw 131 = .ok (.invokevirtual 501, 3) := by decide +kernel
theorem d_Mo_keepsLaw_134 : decode cX9_keepsLaw 134 = .ok (.iastore, 1) := by decide +kernel
theorem d_Mo_keepsLaw_135 : decode cX9_keepsLaw 135 = .ok (.iinc 1 1, 3) := by decide +kernel
theorem d_Mo_keepsLaw_138 : decode cX9_keepsLaw 138 = .ok (.goto (-42), 3) := by decide +kernel
theorem d_Mo_keepsLaw_141 : decode cX9_keepsLaw 141 = .ok (.return_, 1) := by decide +kernel
theorem d_Mo_image_0 : decode cX9_image 0 = .ok (.aload_n 0, 1) := by decide +kernel
theorem d_Mo_image_1 : decode cX9_image 1 = .ok (.iconst 0, 1) := by decide +kernel
theorem d_Mo_image_2 : decode cX9_image 2 = .ok (.putfield 140, 3) := by decide +kernel
theorem d_Mo_image_5 : decode cX9_image 5 = .ok (.iload_n 1, 1) := by decide +kernel
theorem d_Mo_image_6 : decode cX9_image 6 = .ok (.ifCond .ne 12, 3) := by decide +kernel
theorem d_Mo_image_9 : decode cX9_image 9 = .ok (.aload_n 0, 1) := by decide +kernel
theorem d_Mo_image_10 : decode cX9_image 10 = .ok (.getfield 504, 3) := by decide +kernel
theorem d_Mo_image_13 : decode cX9_image 13 = .ok (.ifCond .ne 5, 3) := by decide +kernel
theorem d_Mo_image_16 : decode cX9_image 16 = .ok (.iconst 0, 1) := by decide +kernel
theorem d_Mo_image_17 : decode cX9_image 17 = .ok (.ireturn, 1) := by decide +kernel
theorem d_Mo_image_18 : decode cX9_image 18 = .ok (.aload_n 0, 1) := by decide +kernel
theorem d_Mo_image_19 : decode cX9_image 19 = .ok (.iload_n 1, 1) := by decide +kernel
theorem d_Mo_image_20 : decode cX9_image 20 = .ok (.putfield 498, 3) := by decide +kernel
theorem d_Mo_image_23 : decode cX9_image 23 = .ok (.aload_n 0, 1) := by decide +kernel
theorem d_Mo_image_24 : decode cX9_image 24 = .ok (.iconst 1, 1) := by decide +kernel
theorem d_Mo_image_25 : decode cX9_image 25 = .ok (.putfield 504, 3) := by decide +kernel
theorem d_Mo_image_28 : decode cX9_image 28 = .ok (.aload_n 0, 1) := by decide +kernel
theorem d_Mo_image_29 : decode cX9_image 29 = .ok (.iconst 0, 1) := by decide +kernel
theorem d_Mo_image_30 : decode cX9_image 30 = .ok (.putfield 495, 3) := by decide +kernel
theorem d_Mo_image_33 : decode cX9_image 33 = .ok (.iconst 0, 1) := by decide +kernel
theorem d_Mo_image_34 : decode cX9_image 34 = .ok (.istore_n 2, 1) := by decide +kernel
theorem d_Mo_image_35 : decode cX9_image 35 = .ok (.iload_n 2, 1) := by decide +kernel
theorem d_Mo_image_36 : decode cX9_image 36 = .ok (.bipush 79, 2) := by decide +kernel
theorem d_Mo_image_38 : decode cX9_image 38 = .ok (.if_icmp .ge 25, 3) := by decide +kernel
theorem d_Mo_image_41 : decode cX9_image 41 = .ok (.aload_n 0, 1) := by decide +kernel
theorem d_Mo_image_42 : decode cX9_image 42 = .ok (.getfield 7, 3) := by decide +kernel
theorem d_Mo_image_45 : decode cX9_image 45 = .ok (.iload_n 2, 1) := by decide +kernel
theorem d_Mo_image_46 : decode cX9_image 46 = .ok (.aload_n 0, 1) := by decide +kernel
theorem d_Mo_image_47 : decode cX9_image 47 = .ok (.aload_n 0, 1) := by decide +kernel
theorem d_Mo_image_48 : decode cX9_image 48 = .ok (.getfield 7, 3) := by decide +kernel
theorem d_Mo_image_51 : decode cX9_image 51 = .ok (.iload_n 2, 1) := by decide +kernel
theorem d_Mo_image_52 : decode cX9_image 52 = .ok (.iaload, 1) := by decide +kernel
theorem d_Mo_image_53 : decode cX9_image 53 = .ok (.invokevirtual 501, 3) := by decide +kernel
theorem d_Mo_image_56 : decode cX9_image 56 = .ok (.iastore, 1) := by decide +kernel
theorem d_Mo_image_57 : decode cX9_image 57 = .ok (.iinc 2 1, 3) := by decide +kernel
theorem d_Mo_image_60 : decode cX9_image 60 = .ok (.goto (-25), 3) := by decide +kernel
theorem d_Mo_image_63 : decode cX9_image 63 = .ok (.aload_n 0, 1) := by decide +kernel
theorem d_Mo_image_64 : decode cX9_image 64 = .ok (.invokevirtual 507, 3) := by decide +kernel
theorem d_Mo_image_67 : decode cX9_image 67 = .ok (.aload_n 0, 1) := by decide +kernel
theorem d_Mo_image_68 : decode cX9_image 68 = .ok (.invokevirtual 510, 3) := by decide +kernel
theorem d_Mo_image_71 : decode cX9_image 71 = .ok (.iconst 0, 1) := by decide +kernel
theorem d_Mo_image_72 : decode cX9_image 72 = .ok (.istore_n 2, 1) := by decide +kernel
theorem d_Mo_image_73 : decode cX9_image 73 = .ok (.iload_n 2, 1) := by decide +kernel
theorem d_Mo_image_74 : decode cX9_image 74 = .ok (.sipush 600, 3) := by decide +kernel
theorem d_Mo_image_77 : decode cX9_image 77 = .ok (.if_icmp .ge 25, 3) := by decide +kernel
theorem d_Mo_image_80 : decode cX9_image 80 = .ok (.aload_n 0, 1) := by decide +kernel
theorem d_Mo_image_81 : decode cX9_image 81 = .ok (.getfield 31, 3) := by decide +kernel
theorem d_Mo_image_84 : decode cX9_image 84 = .ok (.iload_n 2, 1) := by decide +kernel
theorem d_Mo_image_85 : decode cX9_image 85 = .ok (.aload_n 0, 1) := by decide +kernel
theorem d_Mo_image_86 : decode cX9_image 86 = .ok (.aload_n 0, 1) := by decide +kernel
theorem d_Mo_image_87 : decode cX9_image 87 = .ok (.getfield 31, 3) := by decide +kernel
theorem d_Mo_image_90 : decode cX9_image 90 = .ok (.iload_n 2, 1) := by decide +kernel
theorem d_Mo_image_91 : decode cX9_image 91 = .ok (.iaload, 1) := by decide +kernel
theorem d_Mo_image_92 : decode cX9_image 92 = .ok (.invokevirtual 501, 3) := by decide +kernel
theorem d_Mo_image_95 : decode cX9_image 95 = .ok (.iastore, 1) := by decide +kernel
theorem d_Mo_image_96 : decode cX9_image 96 = .ok (.iinc 2 1, 3) := by decide +kernel
theorem d_Mo_image_99 : decode cX9_image 99 = .ok (.goto (-26), 3) := by decide +kernel
theorem d_Mo_image_102 : decode cX9_image 102 = .ok (.aload_n 0, 1) := by decide +kernel
theorem d_Mo_image_103 : decode cX9_image 103 = .ok (.invokevirtual 513, 3) := by decide +kernel
theorem d_Mo_image_106 : decode cX9_image 106 = .ok (.iload_n 1, 1) := by decide +kernel
theorem d_Mo_image_107 : decode cX9_image 107 = .ok (.ifCond .ne 8, 3) := by decide +kernel
theorem d_Mo_image_110 : decode cX9_image 110 = .ok (.aload_n 0, 1) := by decide +kernel
theorem d_Mo_image_111 : decode cX9_image 111 = .ok (.iconst 0, 1) := by decide +kernel
theorem d_Mo_image_112 : decode cX9_image 112 = .ok (.putfield 143, 3) := by decide +kernel
theorem d_Mo_image_115 : decode cX9_image 115 = .ok (.iconst 1, 1) := by decide +kernel
theorem d_Mo_image_116 : decode cX9_image 116 = .ok (.ireturn, 1) := by decide +kernel
theorem d_Mo_look_0 : decode cX9_look 0 = .ok (.aload_n 0, 1) := by decide +kernel
theorem d_Mo_look_1 : decode cX9_look 1 = .ok (.iconst 0, 1) := by decide +kernel
theorem d_Mo_look_2 : decode cX9_look 2 = .ok (.putfield 140, 3) := by decide +kernel
theorem d_Mo_look_5 : decode cX9_look 5 = .ok (.iload_n 1, 1) := by decide +kernel
theorem d_Mo_look_6 : decode cX9_look 6 = .ok (.ifCond .ne 8, 3) := by decide +kernel
theorem d_Mo_look_9 : decode cX9_look 9 = .ok (.aload_n 0, 1) := by decide +kernel
theorem d_Mo_look_10 : decode cX9_look 10 = .ok (.getfield 152, 3) := by decide +kernel
theorem d_Mo_look_13 : decode cX9_look 13 = .ok (.ireturn, 1) := by decide +kernel
theorem d_Mo_look_14 : decode cX9_look 14 = .ok (.iload_n 1, 1) := by decide +kernel
theorem d_Mo_look_15 : decode cX9_look 15 = .ok (.iconst 1, 1) := by decide +kernel
theorem d_Mo_look_16 : decode cX9_look 16 = .ok (.if_icmp .ne 8, 3) := by decide +kernel
theorem d_Mo_look_19 : decode cX9_look 19 = .ok (.aload_n 0, 1) := by decide +kernel
theorem d_Mo_look_20 : decode cX9_look 20 = .ok (.getfield 155, 3) := by decide +kernel
theorem d_Mo_look_23 : decode cX9_look 23 = .ok (.ireturn, 1) := by decide +kernel
theorem d_Mo_look_24 : decode cX9_look 24 = .ok (.iload_n 1, 1) := by decide +kernel
theorem d_Mo_look_25 : decode cX9_look 25 = .ok (.iconst 2, 1) := by decide +kernel
theorem d_Mo_look_26 : decode cX9_look 26 = .ok (.if_icmp .ne 10, 3) := by decide +kernel
theorem d_Mo_look_29 : decode cX9_look 29 = .ok (.aload_n 0, 1) := by decide +kernel
theorem d_Mo_look_30 : decode cX9_look 30 = .ok (.getfield 7, 3) := by decide +kernel
theorem d_Mo_look_33 : decode cX9_look 33 = .ok (.iconst 0, 1) := by decide +kernel
theorem d_Mo_look_34 : decode cX9_look 34 = .ok (.iaload, 1) := by decide +kernel
theorem d_Mo_look_35 : decode cX9_look 35 = .ok (.ireturn, 1) := by decide +kernel
theorem d_Mo_look_36 : decode cX9_look 36 = .ok (.iload_n 1, 1) := by decide +kernel
theorem d_Mo_look_37 : decode cX9_look 37 = .ok (.iconst 3, 1) := by decide +kernel
theorem d_Mo_look_38 : decode cX9_look 38 = .ok (.if_icmp .ne 10, 3) := by decide +kernel
theorem d_Mo_look_41 : decode cX9_look 41 = .ok (.aload_n 0, 1) := by decide +kernel
theorem d_Mo_look_42 : decode cX9_look 42 = .ok (.getfield 7, 3) := by decide +kernel
theorem d_Mo_look_45 : decode cX9_look 45 = .ok (.iconst 3, 1) := by decide +kernel
theorem d_Mo_look_46 : decode cX9_look 46 = .ok (.iaload, 1) := by decide +kernel
theorem d_Mo_look_47 : decode cX9_look 47 = .ok (.ireturn, 1) := by decide +kernel
theorem d_Mo_look_48 : decode cX9_look 48 = .ok (.iload_n 1, 1) := by decide +kernel
theorem d_Mo_look_49 : decode cX9_look 49 = .ok (.iconst 4, 1) := by decide +kernel
theorem d_Mo_look_50 : decode cX9_look 50 = .ok (.if_icmp .ne 10, 3) := by decide +kernel
theorem d_Mo_look_53 : decode cX9_look 53 = .ok (.aload_n 0, 1) := by decide +kernel
theorem d_Mo_look_54 : decode cX9_look 54 = .ok (.getfield 7, 3) := by decide +kernel
theorem d_Mo_look_57 : decode cX9_look 57 = .ok (.iconst 4, 1) := by decide +kernel
theorem d_Mo_look_58 : decode cX9_look 58 = .ok (.iaload, 1) := by decide +kernel
theorem d_Mo_look_59 : decode cX9_look 59 = .ok (.ireturn, 1) := by decide +kernel
theorem d_Mo_look_60 : decode cX9_look 60 = .ok (.iload_n 1, 1) := by decide +kernel
theorem d_Mo_look_61 : decode cX9_look 61 = .ok (.iconst 5, 1) := by decide +kernel
theorem d_Mo_look_62 : decode cX9_look 62 = .ok (.if_icmp .ne 10, 3) := by decide +kernel
theorem d_Mo_look_65 : decode cX9_look 65 = .ok (.aload_n 0, 1) := by decide +kernel
theorem d_Mo_look_66 : decode cX9_look 66 = .ok (.getfield 7, 3) := by decide +kernel
theorem d_Mo_look_69 : decode cX9_look 69 = .ok (.iconst 5, 1) := by decide +kernel
theorem d_Mo_look_70 : decode cX9_look 70 = .ok (.iaload, 1) := by decide +kernel
theorem d_Mo_look_71 : decode cX9_look 71 = .ok (.ireturn, 1) := by decide +kernel
theorem d_Mo_look_72 : decode cX9_look 72 = .ok (.iload_n 1, 1) := by decide +kernel
theorem d_Mo_look_73 : decode cX9_look 73 = .ok (.bipush 6, 2) := by decide +kernel
theorem d_Mo_look_75 : decode cX9_look 75 = .ok (.if_icmp .ne 16, 3) := by decide +kernel
theorem d_Mo_look_78 : decode cX9_look 78 = .ok (.bipush 15, 2) := by decide +kernel
theorem d_Mo_look_80 : decode cX9_look 80 = .ok (.aload_n 0, 1) := by decide +kernel
theorem d_Mo_look_81 : decode cX9_look 81 = .ok (.getfield 7, 3) := by decide +kernel
theorem d_Mo_look_84 : decode cX9_look 84 = .ok (.bipush 6, 2) := by decide +kernel
theorem d_Mo_look_86 : decode cX9_look 86 = .ok (.iaload, 1) := by decide +kernel
theorem d_Mo_look_87 : decode cX9_look 87 = .ok (.iconst (-1), 1) := by decide +kernel
theorem d_Mo_look_88 : decode cX9_look 88 = .ok (.ixor, 1) := by decide +kernel
theorem d_Mo_look_89 : decode cX9_look 89 = .ok (.iand, 1) := by decide +kernel
theorem d_Mo_look_90 : decode cX9_look 90 = .ok (.ireturn, 1) := by decide +kernel
theorem d_Mo_look_91 : decode cX9_look 91 = .ok (.iload_n 1, 1) := by decide +kernel
theorem d_Mo_look_92 : decode cX9_look 92 = .ok (.bipush 7, 2) := by decide +kernel
theorem d_Mo_look_94 : decode cX9_look 94 = .ok (.if_icmp .ne 8, 3) := by decide +kernel
theorem d_Mo_look_97 : decode cX9_look 97 = .ok (.aload_n 0, 1) := by decide +kernel
theorem d_Mo_look_98 : decode cX9_look 98 = .ok (.invokevirtual 342, 3) := by decide +kernel
theorem d_Mo_look_101 : decode cX9_look 101 = .ok (.ireturn, 1) := by decide +kernel
theorem d_Mo_look_102 : decode cX9_look 102 = .ok (.iload_n 1, 1) := by decide +kernel
theorem d_Mo_look_103 : decode cX9_look 103 = .ok (.bipush 8, 2) := by decide +kernel
theorem d_Mo_look_105 : decode cX9_look 105 = .ok (.if_icmp .ne 10, 3) := by decide +kernel
theorem d_Mo_look_108 : decode cX9_look 108 = .ok (.aload_n 0, 1) := by decide +kernel
theorem d_Mo_look_109 : decode cX9_look 109 = .ok (.getfield 7, 3) := by decide +kernel
theorem d_Mo_look_112 : decode cX9_look 112 = .ok (.iconst 2, 1) := by decide +kernel
theorem d_Mo_look_113 : decode cX9_look 113 = .ok (.iaload, 1) := by decide +kernel
