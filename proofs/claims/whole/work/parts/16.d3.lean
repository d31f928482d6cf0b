theorem d_Mo_readRoad_60 : decode cX9_readRoad 60 = .ok (.iadd, 1) := by decide +kernel
theorem d_Mo_readRoad_61 : decode cX9_readRoad 61 = .ok (.aload_n 0, 1) := by decide +kernel
theorem d_Mo_readRoad_62 : decode cX9_readRoad 62 = .ok (.iconst 0, 1) := by decide +kernel
theorem d_Mo_readRoad_63 : decode cX9_readRoad 63 = .ok (.bipush 9, 2) := by decide +kernel
theorem d_Mo_readRoad_65 : decode cX9_readRoad 65 = .ok (.invokevirtual 278, 3) := by decide +kernel
theorem d_Mo_readRoad_68 : decode cX9_readRoad 68 = .ok (.iastore, 1) := by decide +kernel
theorem d_Mo_readRoad_69 : decode cX9_readRoad 69 = .ok (.aload_n 0, 1) := by decide +kernel
theorem d_Mo_readRoad_70 : decode cX9_readRoad 70 = .ok (.getfield 74, 3) := by decide +kernel
theorem d_Mo_readRoad_73 : decode cX9_readRoad 73 = .ok (.iload_n 1, 1) := by decide +kernel
theorem d_Mo_readRoad_74 : decode cX9_readRoad 74 = .ok (.iconst 1, 1) := by decide +kernel
theorem d_Mo_readRoad_75 : decode cX9_readRoad 75 = .ok (.iadd, 1) := by decide +kernel
theorem d_Mo_readRoad_76 : decode cX9_readRoad 76 = .ok (.iaload, 1) := by decide +kernel
theorem d_Mo_readRoad_77 : decode cX9_readRoad 77 = .ok (.iconst (-1), 1) := by decide +kernel
theorem d_Mo_readRoad_78 : decode cX9_readRoad 78 = .ok (.if_icmp .ne 5, 3) := by decide +kernel
theorem d_Mo_readRoad_81 : decode cX9_readRoad 81 = .ok (.iconst (-1), 1) := by decide +kernel
theorem d_Mo_readRoad_82 : decode cX9_readRoad 82 = .ok (.ireturn, 1) := by decide +kernel
theorem d_Mo_readRoad_83 : decode cX9_readRoad 83 = .ok (.aload_n 0, 1) := by decide +kernel
theorem d_Mo_readRoad_84 : decode cX9_readRoad 84 = .ok (.getfield 74, 3) := by decide +kernel
theorem d_Mo_readRoad_87 : decode cX9_readRoad 87 = .ok (.iload_n 1, 1) := by decide +kernel
theorem d_Mo_readRoad_88 : decode cX9_readRoad 88 = .ok (.iconst 2, 1) := by decide +kernel
theorem d_Mo_readRoad_89 : decode cX9_readRoad 89 = .ok (.iadd, 1) := by decide +kernel
theorem d_Mo_readRoad_90 : decode cX9_readRoad 90 = .ok (.aload_n 0, 1) := by decide +kernel
theorem d_Mo_readRoad_91 : decode cX9_readRoad 91 = .ok (.bipush 28, 2) := by decide +kernel
theorem d_Mo_readRoad_93 : decode cX9_readRoad 93 = .ok (.iconst 0, 1) := by decide +kernel
theorem d_Mo_readRoad_94 : decode cX9_readRoad 94 = .ok (.bipush 99, 2) := by decide +kernel
theorem d_Mo_readRoad_96 : decode cX9_readRoad 96 = .ok (.invokevirtual 281, 3) := by decide +kernel
theorem d_Mo_readRoad_99 : decode cX9_readRoad 99 = .ok (.iastore, 1) := by decide +kernel
theorem d_Mo_readRoad_100 : decode cX9_readRoad 100 = .ok (.aload_n 0, 1) := by decide +kernel
theorem d_Mo_readRoad_101 : decode cX9_readRoad 101 = .ok (.getfield 74, 3) := by decide +kernel
theorem d_Mo_readRoad_104 : decode cX9_readRoad 104 = .ok (.iload_n 1, 1) := by decide +kernel
theorem d_Mo_readRoad_105 : decode cX9_readRoad 105 = .ok (.iconst 2, 1) := by decide +kernel
theorem d_Mo_readRoad_106 : decode cX9_readRoad 106 = .ok (.iadd, 1) := by decide +kernel
theorem d_Mo_readRoad_107 : decode cX9_readRoad 107 = .ok (.iaload, 1) := by decide +kernel
theorem d_Mo_readRoad_108 : decode cX9_readRoad 108 = .ok (.iconst (-1), 1) := by decide +kernel
theorem d_Mo_readRoad_109 : decode cX9_readRoad 109 = .ok (.if_icmp .ne 5, 3) := by decide +kernel
theorem d_Mo_readRoad_112 : decode cX9_readRoad 112 = .ok (.iconst (-1), 1) := by decide +kernel
theorem d_Mo_readRoad_113 : decode cX9_readRoad 113 = .ok (.ireturn, 1) := by decide +kernel
theorem d_Mo_readRoad_114 : decode cX9_readRoad 114 = .ok (.aload_n 0, 1) := by decide +kernel
theorem d_Mo_readRoad_115 : decode cX9_readRoad 115 = .ok (.getfield 74, 3) := by decide +kernel
theorem d_Mo_readRoad_118 : decode cX9_readRoad 118 = .ok (.iload_n 1, 1) := by decide +kernel
theorem d_Mo_readRoad_119 : decode cX9_readRoad 119 = .ok (.iconst 3, 1) := by decide +kernel
theorem d_Mo_readRoad_120 : decode cX9_readRoad 120 = .ok (.iadd, 1) := by decide +kernel
theorem d_Mo_readRoad_121 : decode cX9_readRoad 121 = .ok (.aload_n 0, 1) := by decide +kernel
theorem d_Mo_readRoad_122 : decode cX9_readRoad 122 = .ok (.bipush 9, 2) := by decide +kernel
theorem d_Mo_readRoad_124 : decode cX9_readRoad 124 = .ok (.iconst 0, 1) := by decide +kernel
theorem d_Mo_readRoad_125 : decode cX9_readRoad 125 = .ok (.bipush 99, 2) := by decide +kernel
theorem d_Mo_readRoad_127 : decode cX9_readRoad 127 = .ok (.invokevirtual 281, 3) := by decide +kernel
theorem d_Mo_readRoad_130 : decode cX9_readRoad 130 = .ok (.iastore, 1) := by decide +kernel
theorem d_Mo_readRoad_131 : decode cX9_readRoad 131 = .ok (.aload_n 0, 1) := by decide +kernel
theorem d_Mo_readRoad_132 : decode cX9_readRoad 132 = .ok (.getfield 74, 3) := by decide +kernel
theorem d_Mo_readRoad_135 : decode cX9_readRoad 135 = .ok (.iload_n 1, 1) := by decide +kernel
theorem d_Mo_readRoad_136 : decode cX9_readRoad 136 = .ok (.iconst 3, 1) := by decide +kernel
theorem d_Mo_readRoad_137 : decode cX9_readRoad 137 = .ok (.iadd, 1) := by decide +kernel
theorem d_Mo_readRoad_138 : decode cX9_readRoad 138 = .ok (.iaload, 1) := by decide +kernel
theorem d_Mo_readRoad_139 : decode cX9_readRoad 139 = .ok (.iconst (-1), 1) := by decide +kernel
theorem d_Mo_readRoad_140 : decode cX9_readRoad 140 = .ok (.if_icmp .ne 7, 3) := by decide +kernel
theorem d_Mo_readRoad_143 : decode cX9_readRoad 143 = .ok (.iconst (-1), 1) := by decide +kernel
theorem d_Mo_readRoad_144 : decode cX9_readRoad 144 = .ok (.goto 9, 3) := by decide +kernel
theorem d_Mo_readRoad_147 : decode cX9_readRoad 147 = .ok (.aload_n 0, 1) := by decide +kernel
theorem d_Mo_readRoad_148 : decode cX9_readRoad 148 = .ok (.bipush 59, 2) := by decide +kernel
theorem d_Mo_readRoad_150 : decode cX9_readRoad 150 = .ok (.invokevirtual 285, 3) := by decide +kernel
theorem d_Mo_readRoad_153 : decode cX9_readRoad 153 = .ok (.ireturn, 1) := by decide +kernel
theorem d_Mo_readRoads_0 : decode cX9_readRoads 0 = .ok (.iconst 0, 1) := by decide +kernel
theorem d_Mo_readRoads_1 : decode cX9_readRoads 1 = .ok (.istore_n 1, 1) := by decide +kernel
theorem d_Mo_readRoads_2 : decode cX9_readRoads 2 = .ok (.aload_n 0, 1) := by decide +kernel
theorem d_Mo_readRoads_3 : decode cX9_readRoads 3 = .ok (.bipush 27, 2) := by decide +kernel
theorem d_Mo_readRoads_5 : decode cX9_readRoads 5 = .ok (.invokevirtual 256, 3) := by decide +kernel
theorem d_Mo_readRoads_8 : decode cX9_readRoads 8 = .ok (.ifCond .eq 38, 3) := by decide +kernel
theorem d_Mo_readRoads_11 : decode cX9_readRoads 11 = .ok (.iload_n 1, 1) := by decide +kernel
theorem d_Mo_readRoads_12 : decode cX9_readRoads 12 = .ok (.bipush 16, 2) := by decide +kernel
theorem d_Mo_readRoads_14 : decode cX9_readRoads 14 = .ok (.if_icmp .ne 9, 3) := by decide +kernel
theorem d_Mo_readRoads_17 : decode cX9_readRoads 17 = .ok (.aload_n 0, 1) := by decide +kernel
theorem d_Mo_readRoads_18 : decode cX9_readRoads 18 = .ok (.iconst 3, 1) := by decide +kernel
theorem d_Mo_readRoads_19 : decode cX9_readRoads 19 = .ok (.invokevirtual 227, 3) := by decide +kernel
theorem d_Mo_readRoads_22 : decode cX9_readRoads 22 = .ok (.ireturn, 1) := by decide +kernel
theorem d_Mo_readRoads_23 : decode cX9_readRoads 23 = .ok (.aload_n 0, 1) := by decide +kernel
theorem d_Mo_readRoads_24 : decode cX9_readRoads 24 = .ok (.bipush 64, 2) := by decide +kernel
theorem d_Mo_readRoads_26 : decode cX9_readRoads 26 = .ok (.iconst 4, 1) := by decide +kernel
theorem d_Mo_readRoads_27 : decode cX9_readRoads 27 = .ok (.iload_n 1, 1) := by decide +kernel
theorem d_Mo_readRoads_28 : decode cX9_readRoads 28 = .ok (.imul, 1) := by decide +kernel
theorem d_Mo_readRoads_29 : decode cX9_readRoads 29 = .ok (.iadd, 1) := by decide +kernel
theorem d_Mo_readRoads_30 : decode cX9_readRoads 30 = .ok (.invokevirtual 297, 3) := by decide +kernel
theorem d_Mo_readRoads_33 : decode cX9_readRoads 33 = .ok (.iconst (-1), 1) := by decide +kernel
theorem d_Mo_readRoads_34 : decode cX9_readRoads 34 = .ok (.if_icmp .ne 5, 3) := by decide +kernel
theorem d_Mo_readRoads_37 : decode cX9_readRoads 37 = .ok (.iconst (-1), 1) := by decide +kernel
theorem d_Mo_readRoads_38 : decode cX9_readRoads 38 = .ok (.ireturn, 1) := by decide +kernel
theorem d_Mo_readRoads_39 : decode cX9_readRoads 39 = .ok (.iload_n 1, 1) := by decide +kernel
theorem d_Mo_readRoads_40 : decode cX9_readRoads 40 = .ok (.iconst 1, 1) := by decide +kernel
theorem d_Mo_readRoads_41 : decode cX9_readRoads 41 = .ok (.iadd, 1) := by decide +kernel
theorem d_Mo_readRoads_42 : decode cX9_readRoads 42 = .ok (.istore_n 1, 1) := by decide +kernel
theorem d_Mo_readRoads_43 : decode cX9_readRoads 43 = .ok (.goto (-41), 3) := by decide +kernel
theorem d_Mo_readRoads_46 : decode cX9_readRoads 46 = .ok (.aload_n 0, 1) := by decide +kernel
theorem d_Mo_readRoads_47 : decode cX9_readRoads 47 = .ok (.getfield 196, 3) := by decide +kernel
theorem d_Mo_readRoads_50 : decode cX9_readRoads 50 = .ok (.ifCond .ne 7, 3) := by decide +kernel
theorem d_Mo_readRoads_53 : decode cX9_readRoads 53 = .ok (.iload_n 1, 1) := by decide +kernel
theorem d_Mo_readRoads_54 : decode cX9_readRoads 54 = .ok (.goto 8, 3) := by decide +kernel
theorem d_Mo_readRoads_57 : decode cX9_readRoads 57 = .ok (.aload_n 0, 1) := by decide +kernel
theorem d_Mo_readRoads_58 : decode cX9_readRoads 58 = .ok (.iconst 1, 1) := by decide +kernel
theorem d_Mo_readRoads_59 : decode cX9_readRoads 59 = .ok (.invokevirtual 227, 3) := by decide +kernel
theorem d_Mo_readRoads_62 : decode cX9_readRoads 62 = .ok (.ireturn, 1) := by decide +kernel
theorem d_Mo_isLineWord_0 : decode cX9_isLineWord 0 = .ok (.aload_n 0, 1) := by decide +kernel
theorem d_Mo_isLineWord_1 : decode cX9_isLineWord 1 = .ok (.getfield 196, 3) := by decide +kernel
theorem d_Mo_isLineWord_4 : decode cX9_isLineWord 4 = .ok (.iconst 2, 1) := by decide +kernel
theorem d_Mo_isLineWord_5 : decode cX9_isLineWord 5 = .ok (.if_icmp .ne 20, 3) := by decide +kernel
theorem d_Mo_isLineWord_8 : decode cX9_isLineWord 8 = .ok (.aload_n 0, 1) := by decide +kernel
theorem d_Mo_isLineWord_9 : decode cX9_isLineWord 9 = .ok (.aload_n 0, 1) := by decide +kernel
theorem d_Mo_isLineWord_10 : decode cX9_isLineWord 10 = .ok (.getfield 199, 3) := by decide +kernel
theorem d_Mo_isLineWord_13 : decode cX9_isLineWord 13 = .ok (.iconst 0, 1) := by decide +kernel
theorem d_Mo_isLineWord_14 : decode cX9_isLineWord 14 = .ok (.iconst 2, 1) := by decide +kernel
theorem d_Mo_isLineWord_15 : decode cX9_isLineWord 15 = .ok (.invokevirtual 162, 3) := by decide +kernel
theorem d_Mo_isLineWord_18 : decode cX9_isLineWord 18 = .ok (.ifCond .eq 7, 3) := by decide +kernel
theorem d_Mo_isLineWord_21 : decode cX9_isLineWord 21 = .ok (.iconst 1, 1) := by decide +kernel
theorem d_Mo_isLineWord_22 : decode cX9_isLineWord 22 = .ok (.goto 4, 3) := by decide +kernel
theorem d_Mo_isLineWord_25 : decode cX9_isLineWord 25 = .ok (.iconst 0, 1) := by decide +kernel
theorem d_Mo_isLineWord_26 : decode cX9_isLineWord 26 = .ok (.ireturn, 1) := by decide +kernel
theorem d_Mo_canAsk_0 : decode cX9_canAsk 0 = .ok (.aload_n 0, 1) := by decide +kernel
theorem d_Mo_canAsk_1 : decode cX9_canAsk 1 = .ok (.iload_n 1, 1) := by decide +kernel
theorem d_Mo_canAsk_2 : decode cX9_canAsk 2 = .ok (.bipush 7, 2) := by decide +kernel
theorem d_Mo_canAsk_4 : decode cX9_canAsk 4 = .ok (.bipush 16, 2) := by decide +kernel
theorem d_Mo_canAsk_6 : decode cX9_canAsk 6 = .ok (.invokevirtual 162, 3) := by decide +kernel
theorem d_Mo_canAsk_9 : decode cX9_canAsk 9 = .ok (.ireturn, 1) := by decide +kernel
theorem d_Mo_emits_0 : decode cX9_emits 0 = .ok (.aload_n 0, 1) := by decide +kernel
theorem d_Mo_emits_1 : decode cX9_emits 1 = .ok (.getfield 55, 3) := by decide +kernel
theorem d_Mo_emits_4 : decode cX9_emits 4 = .ok (.sipush 800, 3) := by decide +kernel
theorem d_Mo_emits_7 : decode cX9_emits 7 = .ok (.aload_n 0, 1) := by decide +kernel
theorem d_Mo_emits_8 : decode cX9_emits 8 = .ok (.getfield 221, 3) := by decide +kernel
theorem d_Mo_emits_11 : decode cX9_emits 11 = .ok (.iadd, 1) := by decide +kernel
theorem d_Mo_emits_12 : decode cX9_emits 12 = .ok (.iload_n 1, 1) := by decide +kernel
theorem d_Mo_emits_13 : decode cX9_emits 13 = .ok (.iastore, 1) := by decide +kernel
theorem d_Mo_emits_14 : decode cX9_emits 14 = .ok (.aload_n 0, 1) := by decide +kernel
theorem d_Mo_emits_15 : decode cX9_emits 15 = .ok (.getfield 58, 3) := by decide +kernel
theorem d_Mo_emits_18 : decode cX9_emits 18 = .ok (.sipush 800, 3) := by decide +kernel
theorem d_Mo_emits_21 : decode cX9_emits 21 = .ok (.aload_n 0, 1) := by decide +kernel
theorem d_Mo_emits_22 : decode cX9_emits 22 = .ok (.getfield 221, 3) := by decide +kernel
theorem d_Mo_emits_25 : decode cX9_emits 25 = .ok (.iadd, 1) := by decide +kernel
theorem d_Mo_emits_26 : decode cX9_emits 26 = .ok (.iload_n 2, 1) := by decide +kernel
theorem d_Mo_emits_27 : decode cX9_emits 27 = .ok (.iastore, 1) := by decide +kernel
theorem d_Mo_emits_28 : decode cX9_emits 28 = .ok (.aload_n 0, 1) := by decide +kernel
theorem d_Mo_emits_29 : decode cX9_emits 29 = .ok (.aload_n 0, 1) := by decide +kernel
theorem d_Mo_emits_30 : decode cX9_emits 30 = .ok (.getfield 221, 3) := by decide +kernel
theorem d_Mo_emits_33 : decode cX9_emits 33 = .ok (.iconst 1, 1) := by decide +kernel
theorem d_Mo_emits_34 : decode cX9_emits 34 = .ok (.iadd, 1) := by decide +kernel
theorem d_Mo_emits_35 : decode cX9_emits 35 = .ok (.putfield 221, 3) := by decide +kernel
theorem d_Mo_emits_38 : decode cX9_emits 38 = .ok (.return_, 1) := by decide +kernel
theorem d_Mo_readUnit_0 : decode cX9_readUnit 0 = .ok (.aload_n 0, 1) := by decide +kernel
theorem d_Mo_readUnit_1 : decode cX9_readUnit 1 = .ok (.getfield 196, 3) := by decide +kernel
theorem d_Mo_readUnit_4 : decode cX9_readUnit 4 = .ok (.iconst 2, 1) := by decide +kernel
theorem d_Mo_readUnit_5 : decode cX9_readUnit 5 = .ok (.if_icmp .ne 18, 3) := by decide +kernel
theorem d_Mo_readUnit_8 : decode cX9_readUnit 8 = .ok (.aload_n 0, 1) := by decide +kernel
theorem d_Mo_readUnit_9 : decode cX9_readUnit 9 = .ok (.aload_n 0, 1) := by decide +kernel
theorem d_Mo_readUnit_10 : decode cX9_readUnit 10 = .ok (.getfield 199, 3) := by decide +kernel
theorem d_Mo_readUnit_13 : decode cX9_readUnit 13 = .ok (.invokevirtual 224, 3) := by decide +kernel
theorem d_Mo_readUnit_16 : decode cX9_readUnit 16 = .ok (.ifCond .eq 7, 3) := by decide +kernel
theorem d_Mo_readUnit_19 : decode cX9_readUnit 19 = .ok (.iconst 1, 1) := by decide +kernel
theorem d_Mo_readUnit_20 : decode cX9_readUnit 20 = .ok (.goto 4, 3) := by decide +kernel
theorem d_Mo_readUnit_23 : decode cX9_readUnit 23 = .ok (.iconst 0, 1) := by decide +kernel
theorem d_Mo_readUnit_24 : decode cX9_readUnit 24 = .ok (.istore_n 1, 1) := by decide +kernel
theorem d_Mo_readUnit_25 : decode cX9_readUnit 25 = .ok (.iload_n 1, 1) := by decide +kernel
theorem d_Mo_readUnit_26 : decode cX9_readUnit 26 = .ok (.ifCond .ne 17, 3) := by decide +kernel
theorem d_Mo_readUnit_29 : decode cX9_readUnit 29 = .ok (.aload_n 0, 1) := by decide +kernel
theorem d_Mo_readUnit_30 : decode cX9_readUnit 30 = .ok (.getfield 196, 3) := by decide +kernel
theorem d_Mo_readUnit_33 : decode cX9_readUnit 33 = .ok (.iconst 3, 1) := by decide +kernel
theorem d_Mo_readUnit_34 : decode cX9_readUnit 34 = .ok (.if_icmp .eq 9, 3) := by decide +kernel
theorem d_Mo_readUnit_37 : decode cX9_readUnit 37 = .ok (.aload_n 0, 1) := by decide +kernel
theorem d_Mo_readUnit_38 : decode cX9_readUnit 38 = .ok (.iconst 1, 1) := by decide +kernel
theorem d_Mo_readUnit_39 : decode cX9_readUnit 39 = .ok (.invokevirtual 227, 3) := by decide +kernel
theorem d_Mo_readUnit_42 : decode cX9_readUnit 42 = .ok (.ireturn, 1) := by decide +kernel
theorem d_Mo_readUnit_43 : decode cX9_readUnit 43 = .ok (.aload_n 0, 1) := by decide +kernel
theorem d_Mo_readUnit_44 : decode cX9_readUnit 44 = .ok (.iload_n 1, 1) := by decide +kernel
theorem d_Mo_readUnit_45 : decode cX9_readUnit 45 = .ok (.ifCond .eq 7, 3) := by decide +kernel
theorem d_Mo_readUnit_48 : decode cX9_readUnit 48 = .ok (.iconst 1, 1) := by decide +kernel
theorem d_Mo_readUnit_49 : decode cX9_readUnit 49 = .ok (.goto 4, 3) := by decide +kernel
theorem d_Mo_readUnit_52 : decode cX9_readUnit 52 = .ok (.iconst 0, 1) := by decide +kernel
theorem d_Mo_readUnit_53 : decode cX9_readUnit 53 = .ok (.iload_n 1, 1) := by decide +kernel
theorem d_Mo_readUnit_54 : decode cX9_readUnit 54 = .ok (.ifCond .eq 13, 3) := by decide +kernel
theorem d_Mo_readUnit_57 : decode cX9_readUnit 57 = .ok (.aload_n 0, 1) := by decide +kernel
theorem d_Mo_readUnit_58 : decode cX9_readUnit 58 = .ok (.getfield 199, 3) := by decide +kernel
theorem d_Mo_readUnit_61 : decode cX9_readUnit 61 = .ok (.bipush 7, 2) := by decide +kernel
theorem d_Mo_readUnit_63 : decode cX9_readUnit 63 = .ok (.isub, 1) := by decide +kernel
theorem d_Mo_readUnit_64 : decode cX9_readUnit 64 = .ok (.goto 7, 3) := by decide +kernel
theorem d_Mo_readUnit_67 : decode cX9_readUnit 67 = .ok (.aload_n 0, 1) := by decide +kernel
theorem d_Mo_readUnit_68 : decode cX9_readUnit 68 = .ok (.getfield 199, 3) := by decide +kernel
theorem d_Mo_readUnit_71 : decode cX9_readUnit 71 = .ok (.invokevirtual 230, 3) := by decide +kernel
theorem d_Mo_readUnit_74 : decode cX9_readUnit 74 = .ok (.aload_n 0, 1) := by decide +kernel
theorem d_Mo_readUnit_75 : decode cX9_readUnit 75 = .ok (.invokevirtual 234, 3) := by decide +kernel
theorem d_Mo_readUnit_78 : decode cX9_readUnit 78 = .ok (.iconst 0, 1) := by decide +kernel
theorem d_Mo_readUnit_79 : decode cX9_readUnit 79 = .ok (.ireturn, 1) := by decide +kernel
theorem d_Mo_readProduct_0 : decode cX9_readProduct 0 = .ok (.aload_n 0, 1) := by decide +kernel
theorem d_Mo_readProduct_1 : decode cX9_readProduct 1 = .ok (.invokevirtual 237, 3) := by decide +kernel
theorem d_Mo_readProduct_4 : decode cX9_readProduct 4 = .ok (.iconst (-1), 1) := by decide +kernel
theorem d_Mo_readProduct_5 : decode cX9_readProduct 5 = .ok (.if_icmp .ne 5, 3) := by decide +kernel
theorem d_Mo_readProduct_8 : decode cX9_readProduct 8 = .ok (.iconst (-1), 1) := by decide +kernel
theorem d_Mo_readProduct_9 : decode cX9_readProduct 9 = .ok (.ireturn, 1) := by decide +kernel
theorem d_Mo_readProduct_10 : decode cX9_readProduct 10 = .ok (.aload_n 0, 1) := by decide +kernel
theorem d_Mo_readProduct_11 : decode cX9_readProduct 11 = .ok (.bipush 42, 2) := by decide +kernel
theorem d_Mo_readProduct_13 : decode cX9_readProduct 13 = .ok (.invokevirtual 241, 3) := by decide +kernel
theorem d_Mo_readProduct_16 : decode cX9_readProduct 16 = .ok (.ifCond .ne 12, 3) := by decide +kernel
theorem d_Mo_readProduct_19 : decode cX9_readProduct 19 = .ok (.aload_n 0, 1) := by decide +kernel
theorem d_Mo_readProduct_20 : decode cX9_readProduct 20 = .ok (.bipush 47, 2) := by decide +kernel
theorem d_Mo_readProduct_22 : decode cX9_readProduct 22 = .ok (.invokevirtual 241, 3) := by decide +kernel
theorem d_Mo_readProduct_25 : decode cX9_readProduct 25 = .ok (.ifCond .eq 76, 3) := by decide +kernel
theorem d_Mo_readProduct_28 : decode cX9_readProduct 28 = .ok (.aload_n 0, 1) := by decide +kernel
theorem d_Mo_readProduct_29 : decode cX9_readProduct 29 = .ok (.bipush 42, 2) := by decide +kernel
theorem d_Mo_readProduct_31 : decode cX9_readProduct 31 = .ok (.invokevirtual 241, 3) := by decide +kernel
theorem d_Mo_readProduct_34 : decode cX9_readProduct 34 = .ok (.istore_n 1, 1) := by decide +kernel
theorem d_Mo_readProduct_35 : decode cX9_readProduct 35 = .ok (.aload_n 0, 1) := by decide +kernel
theorem d_Mo_readProduct_36 : decode cX9_readProduct 36 = .ok (.invokevirtual 234, 3) := by decide +kernel
theorem d_Mo_readProduct_39 : decode cX9_readProduct 39 = .ok (.iload_n 1, 1) := by decide +kernel
theorem d_Mo_readProduct_40 : decode cX9_readProduct 40 = .ok (.ifCond .ne 17, 3) := by decide +kernel
theorem d_Mo_readProduct_43 : decode cX9_readProduct 43 = .ok (.aload_n 0, 1) := by decide +kernel
theorem d_Mo_readProduct_44 : decode cX9_readProduct 44 = .ok (.getfield 196, 3) := by decide +kernel
theorem d_Mo_readProduct_47 : decode cX9_readProduct 47 = .ok (.iconst 3, 1) := by decide +kernel
theorem d_Mo_readProduct_48 : decode cX9_readProduct 48 = .ok (.if_icmp .eq 9, 3) := by decide +kernel
theorem d_Mo_readProduct_51 : decode cX9_readProduct 51 = .ok (.aload_n 0, 1) := by decide +kernel
theorem d_Mo_readProduct_52 : decode cX9_readProduct 52 = .ok (.iconst 1, 1) := by decide +kernel
theorem d_Mo_readProduct_53 : decode cX9_readProduct 53 = .ok (.invokevirtual 227, 3) := by decide +kernel
theorem d_Mo_readProduct_56 : decode cX9_readProduct 56 = .ok (.ireturn, 1) := by decide +kernel
theorem d_Mo_readProduct_57 : decode cX9_readProduct 57 = .ok (.iload_n 1, 1) := by decide +kernel
theorem d_Mo_readProduct_58 : decode cX9_readProduct 58 = .ok (.ifCond .ne 16, 3) := by decide +kernel
theorem d_Mo_readProduct_61 : decode cX9_readProduct 61 = .ok (.aload_n 0, 1) := by decide +kernel
theorem d_Mo_readProduct_62 : decode cX9_readProduct 62 = .ok (.getfield 199, 3) := by decide +kernel
theorem d_Mo_readProduct_65 : decode cX9_readProduct 65 = .ok (.ifCond .ne 9, 3) := by decide +kernel
theorem d_Mo_readProduct_68 : decode cX9_readProduct 68 = .ok (.aload_n 0, 1) := by decide +kernel
theorem d_Mo_readProduct_69 : decode cX9_readProduct 69 = .ok (.iconst 2, 1) := by decide +kernel
theorem d_Mo_readProduct_70 : decode cX9_readProduct 70 = .ok (.invokevirtual 227, 3) := by decide +kernel
theorem d_Mo_readProduct_73 : decode cX9_readProduct 73 = .ok (.ireturn, 1) := by decide +kernel
theorem d_Mo_readProduct_74 : decode cX9_readProduct 74 = .ok (.aload_n 0, 1) := by decide +kernel
theorem d_Mo_readProduct_75 : decode cX9_readProduct 75 = .ok (.invokevirtual 237, 3) := by decide +kernel
theorem d_Mo_readProduct_78 : decode cX9_readProduct 78 = .ok (.iconst (-1), 1) := by decide +kernel
theorem d_Mo_readProduct_79 : decode cX9_readProduct 79 = .ok (.if_icmp .ne 5, 3) := by decide +kernel
theorem d_Mo_readProduct_82 : decode cX9_readProduct 82 = .ok (.iconst (-1), 1) := by decide +kernel
theorem d_Mo_readProduct_83 : decode cX9_readProduct 83 = .ok (.ireturn, 1) := by decide +kernel
theorem d_Mo_readProduct_84 : decode cX9_readProduct 84 = .ok (.aload_n 0, 1) := by decide +kernel
theorem d_Mo_readProduct_85 : decode cX9_readProduct 85 = .ok (.iload_n 1, 1) := by decide +kernel
theorem d_Mo_readProduct_86 : decode cX9_readProduct 86 = .ok (.ifCond .eq 7, 3) := by decide +kernel
theorem d_Mo_readProduct_89 : decode cX9_readProduct 89 = .ok (.iconst 4, 1) := by decide +kernel
theorem d_Mo_readProduct_90 : decode cX9_readProduct 90 = .ok (.goto 4, 3) := by decide +kernel
theorem d_Mo_readProduct_93 : decode cX9_readProduct 93 = .ok (.iconst 5, 1) := by decide +kernel
theorem d_Mo_readProduct_94 : decode cX9_readProduct 94 = .ok (.iconst 0, 1) := by decide +kernel
theorem d_Mo_readProduct_95 : decode cX9_readProduct 95 = .ok (.invokevirtual 230, 3) := by decide +kernel
theorem d_Mo_readProduct_98 : decode cX9_readProduct 98 = .ok (.goto (-88), 3) := by decide +kernel
theorem d_Mo_readProduct_101 : decode cX9_readProduct 101 = .ok (.iconst 0, 1) := by decide +kernel
theorem d_Mo_readProduct_102 : decode cX9_readProduct 102 = .ok (.ireturn, 1) := by decide +kernel
theorem d_Mo_readSum_0 : decode cX9_readSum 0 = .ok (.aload_n 0, 1) := by decide +kernel
theorem d_Mo_readSum_1 : decode cX9_readSum 1 = .ok (.invokevirtual 244, 3) := by decide +kernel
theorem d_Mo_readSum_4 : decode cX9_readSum 4 = .ok (.iconst (-1), 1) := by decide +kernel
theorem d_Mo_readSum_5 : decode cX9_readSum 5 = .ok (.if_icmp .ne 5, 3) := by decide +kernel
theorem d_Mo_readSum_8 : decode cX9_readSum 8 = .ok (.iconst (-1), 1) := by decide +kernel
theorem d_Mo_readSum_9 : decode cX9_readSum 9 = .ok (.ireturn, 1) := by decide +kernel
theorem d_Mo_readSum_10 : decode cX9_readSum 10 = .ok (.aload_n 0, 1) := by decide +kernel
theorem d_Mo_readSum_11 : decode cX9_readSum 11 = .ok (.bipush 43, 2) := by decide +kernel
theorem d_Mo_readSum_13 : decode cX9_readSum 13 = .ok (.invokevirtual 241, 3) := by decide +kernel
theorem d_Mo_readSum_16 : decode cX9_readSum 16 = .ok (.ifCond .ne 12, 3) := by decide +kernel
theorem d_Mo_readSum_19 : decode cX9_readSum 19 = .ok (.aload_n 0, 1) := by decide +kernel
theorem d_Mo_readSum_20 : decode cX9_readSum 20 = .ok (.bipush 45, 2) := by decide +kernel
theorem d_Mo_readSum_22 : decode cX9_readSum 22 = .ok (.invokevirtual 241, 3) := by decide +kernel
theorem d_Mo_readSum_25 : decode cX9_readSum 25 = .ok (.ifCond .eq 41, 3) := by decide +kernel
theorem d_Mo_readSum_28 : decode cX9_readSum 28 = .ok (.aload_n 0, 1) := by decide +kernel
theorem d_Mo_readSum_29 : decode cX9_readSum 29 = .ok (.getfield 199, 3) := by decide +kernel
theorem d_Mo_readSum_32 : decode cX9_readSum 32 = .ok (.bipush 43, 2) := by decide +kernel
theorem d_Mo_readSum_34 : decode cX9_readSum 34 = .ok (.if_icmp .ne 7, 3) := by decide +kernel
theorem d_Mo_readSum_37 : decode cX9_readSum 37 = .ok (.iconst 2, 1) := by decide +kernel
theorem d_Mo_readSum_38 : decode cX9_readSum 38 = .ok (.goto 4, 3) := by decide +kernel
theorem d_Mo_readSum_41 : decode cX9_readSum 41 = .ok (.iconst 3, 1) := by decide +kernel
theorem d_Mo_readSum_42 : decode cX9_readSum 42 = .ok (.istore_n 1, 1) := by decide +kernel
theorem d_Mo_readSum_43 : decode cX9_readSum 43 = .ok (.aload_n 0, 1) := by decide +kernel
theorem d_Mo_readSum_44 : decode cX9_readSum 44 = .ok (.invokevirtual 234, 3) := by decide +kernel
theorem d_Mo_readSum_47 : decode cX9_readSum 47 = .ok (.aload_n 0, 1) := by decide +kernel
theorem d_Mo_readSum_48 : decode cX9_readSum 48 = .ok (.invokevirtual 244, 3) := by decide +kernel
theorem d_Mo_readSum_51 : decode cX9_readSum 51 = .ok (.iconst (-1), 1) := by decide +kernel
theorem d_Mo_readSum_52 : decode cX9_readSum 52 = .ok (.if_icmp .ne 5, 3) := by decide +kernel
theorem d_Mo_readSum_55 : decode cX9_readSum 55 = .ok (.iconst (-1), 1) := by decide +kernel
theorem d_Mo_readSum_56 : decode cX9_readSum 56 = .ok (.ireturn, 1) := by decide +kernel
theorem d_Mo_readSum_57 : decode cX9_readSum 57 = .ok (.aload_n 0, 1) := by decide +kernel
theorem d_Mo_readSum_58 : decode cX9_readSum 58 = .ok (.iload_n 1, 1) := by decide +kernel
theorem d_Mo_readSum_59 : decode cX9_readSum 59 = .ok (.iconst 0, 1) := by decide +kernel
theorem d_Mo_readSum_60 : decode cX9_readSum 60 = .ok (.invokevirtual 230, 3) := by decide +kernel
theorem d_Mo_readSum_63 : decode cX9_readSum 63 = .ok (.goto (-53), 3) := by decide +kernel
theorem d_Mo_readSum_66 : decode cX9_readSum 66 = .ok (.iconst 0, 1) := by decide +kernel
theorem d_Mo_readSum_67 : decode cX9_readSum 67 = .ok (.ireturn, 1) := by decide +kernel
theorem d_Mo_waits_0 : decode cX9_waits 0 = .ok (.aload_n 0, 1) := by decide +kernel
theorem d_Mo_waits_1 : decode cX9_waits 1 = .ok (.getfield 61, 3) := by decide +kernel
theorem d_Mo_waits_4 : decode cX9_waits 4 = .ok (.aload_n 0, 1) := by decide +kernel
theorem d_Mo_waits_5 : decode cX9_waits 5 = .ok (.getfield 250, 3) := by decide +kernel
theorem d_Mo_waits_8 : decode cX9_waits 8 = .ok (.iload_n 1, 1) := by decide +kernel
theorem d_Mo_waits_9 : decode cX9_waits 9 = .ok (.iastore, 1) := by decide +kernel
theorem d_Mo_waits_10 : decode cX9_waits 10 = .ok (.aload_n 0, 1) := by decide +kernel
theorem d_Mo_waits_11 : decode cX9_waits 11 = .ok (.aload_n 0, 1) := by decide +kernel
theorem d_Mo_waits_12 : decode cX9_waits 12 = .ok (.getfield 250, 3) := by decide +kernel
theorem d_Mo_waits_15 : decode cX9_waits 15 = .ok (.iconst 1, 1) := by decide +kernel
theorem d_Mo_waits_16 : decode cX9_waits 16 = .ok (.iadd, 1) := by decide +kernel
theorem d_Mo_waits_17 : decode cX9_waits 17 = .ok (.putfield 250, 3) := by decide +kernel
theorem d_Mo_waits_20 : decode cX9_waits 20 = .ok (.return_, 1) := by decide +kernel
theorem d_Mo_readCompared_0 : decode cX9_readCompared 0 = .ok (.aload_n 0, 1) := by decide +kernel
theorem d_Mo_readCompared_1 : decode cX9_readCompared 1 = .ok (.invokevirtual 247, 3) := by decide +kernel
theorem d_Mo_readCompared_4 : decode cX9_readCompared 4 = .ok (.iconst (-1), 1) := by decide +kernel
theorem d_Mo_readCompared_5 : decode cX9_readCompared 5 = .ok (.if_icmp .ne 5, 3) := by decide +kernel
theorem d_Mo_readCompared_8 : decode cX9_readCompared 8 = .ok (.iconst (-1), 1) := by decide +kernel
theorem d_Mo_readCompared_9 : decode cX9_readCompared 9 = .ok (.ireturn, 1) := by decide +kernel
theorem d_Mo_readCompared_10 : decode cX9_readCompared 10 = .ok (.aload_n 0, 1) := by decide +kernel
theorem d_Mo_readCompared_11 : decode cX9_readCompared 11 = .ok (.bipush 60, 2) := by decide +kernel
theorem d_Mo_readCompared_13 : decode cX9_readCompared 13 = .ok (.invokevirtual 241, 3) := by decide +kernel
theorem d_Mo_readCompared_16 : decode cX9_readCompared 16 = .ok (.ifCond .ne 27, 3) := by decide +kernel
theorem d_Mo_readCompared_19 : decode cX9_readCompared 19 = .ok (.aload_n 0, 1) := by decide +kernel
theorem d_Mo_readCompared_20 : decode cX9_readCompared 20 = .ok (.bipush 61, 2) := by decide +kernel
theorem d_Mo_readCompared_22 : decode cX9_readCompared 22 = .ok (.invokevirtual 241, 3) := by decide +kernel
theorem d_Mo_readCompared_25 : decode cX9_readCompared 25 = .ok (.ifCond .ne 18, 3) := by decide +kernel
theorem d_Mo_readCompared_28 : decode cX9_readCompared 28 = .ok (.aload_n 0, 1) := by decide +kernel
theorem d_Mo_readCompared_29 : decode cX9_readCompared 29 = .ok (.bipush 62, 2) := by decide +kernel
theorem d_Mo_readCompared_31 : decode cX9_readCompared 31 = .ok (.invokevirtual 241, 3) := by decide +kernel
theorem d_Mo_readCompared_34 : decode cX9_readCompared 34 = .ok (.ifCond .ne 9, 3) := by decide +kernel
theorem d_Mo_readCompared_37 : decode cX9_readCompared 37 = .ok (.aload_n 0, 1) := by decide +kernel
theorem d_Mo_readCompared_38 : decode cX9_readCompared 38 = .ok (.iconst 1, 1) := by decide +kernel
theorem d_Mo_readCompared_39 : decode cX9_readCompared 39 = .ok (.invokevirtual 227, 3) := by decide +kernel
theorem d_Mo_readCompared_42 : decode cX9_readCompared 42 = .ok (.ireturn, 1) := by decide +kernel
theorem d_Mo_readCompared_43 : decode cX9_readCompared 43 = .ok (.aload_n 0, 1) := by decide +kernel
theorem d_Mo_readCompared_44 : decode cX9_readCompared 44 = .ok (.getfield 199, 3) := by decide +kernel
theorem d_Mo_readCompared_47 : decode cX9_readCompared 47 = .ok (.bipush 60, 2) := by decide +kernel
theorem d_Mo_readCompared_49 : decode cX9_readCompared 49 = .ok (.if_icmp .ne 8, 3) := by decide +kernel
theorem d_Mo_readCompared_52 : decode cX9_readCompared 52 = .ok (.bipush 6, 2) := by decide +kernel
theorem d_Mo_readCompared_54 : decode cX9_readCompared 54 = .ok (.goto 19, 3) := by decide +kernel
theorem d_Mo_readCompared_57 : decode cX9_readCompared 57 = .ok (.aload_n 0, 1) := by decide +kernel
theorem d_Mo_readCompared_58 : decode cX9_readCompared 58 = .ok (.getfield 199, 3) := by decide +kernel
theorem d_Mo_readCompared_61 : decode cX9_readCompared 61 = .ok (.bipush 61, 2) := by decide +kernel
theorem d_Mo_readCompared_63 : decode cX9_readCompared 63 = .ok (.if_icmp .ne 8, 3) := by decide +kernel
theorem d_Mo_readCompared_66 : decode cX9_readCompared 66 = .ok (.bipush 7, 2) := by decide +kernel
theorem d_Mo_readCompared_68 : decode cX9_readCompared 68 = .ok (.goto 5, 3) := by decide +kernel
theorem d_Mo_readCompared_71 : decode cX9_readCompared 71 = .ok (.bipush 8, 2) := by decide +kernel
theorem d_Mo_readCompared_73 : decode cX9_readCompared 73 = .ok (.istore_n 1, 1) := by decide +kernel
theorem d_Mo_readCompared_74 : decode cX9_readCompared 74 = .ok (.aload_n 0, 1) := by decide +kernel
theorem d_Mo_readCompared_75 : decode cX9_readCompared 75 = .ok (.invokevirtual 234, 3) := by decide +kernel
theorem d_Mo_readCompared_78 : decode cX9_readCompared 78 = .ok (.aload_n 0, 1) := by decide +kernel
theorem d_Mo_readCompared_79 : decode cX9_readCompared 79 = .ok (.invokevirtual 247, 3) := by decide +kernel
theorem d_Mo_readCompared_82 : decode cX9_readCompared 82 = .ok (.iconst (-1), 1) := by decide +kernel
theorem d_Mo_readCompared_83 : decode cX9_readCompared 83 = .ok (.if_icmp .ne 5, 3) := by decide +kernel
theorem d_Mo_readCompared_86 : decode cX9_readCompared 86 = .ok (.iconst (-1), 1) := by decide +kernel
theorem d_Mo_readCompared_87 : decode cX9_readCompared 87 = .ok (.ireturn, 1) := by decide +kernel
theorem d_Mo_readCompared_88 : decode cX9_readCompared 88 = .ok (.aload_n 0, 1) := by decide +kernel
theorem d_Mo_readCompared_89 : decode cX9_readCompared 89 = .ok (.iload_n 1, 1) := by decide +kernel
theorem d_Mo_readCompared_90 : decode cX9_readCompared 90 = .ok (.iconst 0, 1) := by decide +kernel
theorem d_Mo_readCompared_91 : decode cX9_readCompared 91 = .ok (.invokevirtual 230, 3) := by decide +kernel
theorem d_Mo_readCompared_94 : decode cX9_readCompared 94 = .ok (.iconst 0, 1) := by decide +kernel
theorem d_Mo_readCompared_95 : decode cX9_readCompared 95 = .ok (.ireturn, 1) := by decide +kernel
theorem d_Mo_settles_0 : decode cX9_settles 0 = .ok (.aload_n 0, 1) := by decide +kernel
theorem d_Mo_settles_1 : decode cX9_settles 1 = .ok (.getfield 250, 3) := by decide +kernel
theorem d_Mo_settles_4 : decode cX9_settles 4 = .ok (.ifCond .le 53, 3) := by decide +kernel
theorem d_Mo_settles_7 : decode cX9_settles 7 = .ok (.aload_n 0, 1) := by decide +kernel
theorem d_Mo_settles_8 : decode cX9_settles 8 = .ok (.getfield 61, 3) := by decide +kernel
theorem d_Mo_settles_11 : decode cX9_settles 11 = .ok (.aload_n 0, 1) := by decide +kernel
theorem d_Mo_settles_12 : decode cX9_settles 12 = .ok (.getfield 250, 3) := by decide +kernel
theorem d_Mo_settles_15 : decode cX9_settles 15 = .ok (.iconst 1, 1) := by decide +kernel
theorem d_Mo_settles_16 : decode cX9_settles 16 = .ok (.isub, 1) := by decide +kernel
theorem d_Mo_settles_17 : decode cX9_settles 17 = .ok (.iaload, 1) := by decide +kernel
theorem d_Mo_settles_18 : decode cX9_settles 18 = .ok (.iload_n 1, 1) := by decide +kernel
theorem d_Mo_settles_19 : decode cX9_settles 19 = .ok (.if_icmp .ne 38, 3) := by decide +kernel
theorem d_Mo_settles_22 : decode cX9_settles 22 = .ok (.aload_n 0, 1) := by decide +kernel
theorem d_Mo_settles_23 : decode cX9_settles 23 = .ok (.aload_n 0, 1) := by decide +kernel
theorem d_Mo_settles_24 : decode cX9_settles 24 = .ok (.getfield 250, 3) := by decide +kernel
theorem d_Mo_settles_27 : decode cX9_settles 27 = .ok (.iconst 1, 1) := by decide +kernel
theorem d_Mo_settles_28 : decode cX9_settles 28 = .ok (.isub, 1) := by decide +kernel
theorem d_Mo_settles_29 : decode cX9_settles 29 = .ok (.putfield 250, 3) := by decide +kernel
theorem d_Mo_settles_32 : decode cX9_settles 32 = .ok (.aload_n 0, 1) := by decide +kernel
theorem d_Mo_settles_33 : decode cX9_settles 33 = .ok (.iload_n 1, 1) := by decide +kernel
theorem d_Mo_settles_34 : decode cX9_settles 34 = .ok (.iconst 0, 1) := by decide +kernel
theorem d_Mo_settles_35 : decode cX9_settles 35 = .ok (.invokevirtual 230, 3) := by decide +kernel
theorem d_Mo_settles_38 : decode cX9_settles 38 = .ok (.iload_n 1, 1) := by decide +kernel
theorem d_Mo_settles_39 : decode cX9_settles 39 = .ok (.bipush 9, 2) := by decide +kernel
theorem d_Mo_settles_41 : decode cX9_settles 41 = .ok (.if_icmp .ne (-41), 3) := by decide +kernel
theorem d_Mo_settles_44 : decode cX9_settles 44 = .ok (.aload_n 0, 1) := by decide +kernel
theorem d_Mo_settles_45 : decode cX9_settles 45 = .ok (.aload_n 0, 1) := by decide +kernel
theorem d_Mo_settles_46 : decode cX9_settles 46 = .ok (.getfield 253, 3) := by decide +kernel
theorem d_Mo_settles_49 : decode cX9_settles 49 = .ok (.iconst 1, 1) := by decide +kernel
theorem d_Mo_settles_50 : decode cX9_settles 50 = .ok (.isub, 1) := by decide +kernel
theorem d_Mo_settles_51 : decode cX9_settles 51 = .ok (.putfield 253, 3) := by decide +kernel
theorem d_Mo_settles_54 : decode cX9_settles 54 = .ok (.goto (-54), 3) := by decide +kernel
theorem d_Mo_settles_57 : decode cX9_settles 57 = .ok (.return_, 1) := by decide +kernel
theorem d_Mo_readAny_0 : decode cX9_readAny 0 = .ok (.iconst 0, 1) := by decide +kernel
theorem d_Mo_readAny_1 : decode cX9_readAny 1 = .ok (.istore_n 1, 1) := by decide +kernel
theorem d_Mo_readAny_2 : decode cX9_readAny 2 = .ok (.aload_n 0, 1) := by decide +kernel
theorem d_Mo_readAny_3 : decode cX9_readAny 3 = .ok (.iconst 0, 1) := by decide +kernel
theorem d_Mo_readAny_4 : decode cX9_readAny 4 = .ok (.putfield 250, 3) := by decide +kernel
theorem d_Mo_readAny_7 : decode cX9_readAny 7 = .ok (.iconst 1, 1) := by decide +kernel
theorem d_Mo_readAny_8 : decode cX9_readAny 8 = .ok (.istore_n 2, 1) := by decide +kernel
theorem d_Mo_readAny_9 : decode cX9_readAny 9 = .ok (.iload_n 2, 1) := by decide +kernel
theorem d_Mo_readAny_10 : decode cX9_readAny 10 = .ok (.ifCond .eq 99, 3) := by decide +kernel
theorem d_Mo_readAny_13 : decode cX9_readAny 13 = .ok (.aload_n 0, 1) := by decide +kernel
theorem d_Mo_readAny_14 : decode cX9_readAny 14 = .ok (.bipush 6, 2) := by decide +kernel
theorem d_Mo_readAny_16 : decode cX9_readAny 16 = .ok (.invokevirtual 256, 3) := by decide +kernel
theorem d_Mo_readAny_19 : decode cX9_readAny 19 = .ok (.istore_n 3, 1) := by decide +kernel
theorem d_Mo_readAny_20 : decode cX9_readAny 20 = .ok (.iload_n 3, 1) := by decide +kernel
theorem d_Mo_readAny_21 : decode cX9_readAny 21 = .ok (.ifCond .ne 12, 3) := by decide +kernel
theorem d_Mo_readAny_24 : decode cX9_readAny 24 = .ok (.aload_n 0, 1) := by decide +kernel
theorem d_Mo_readAny_25 : decode cX9_readAny 25 = .ok (.bipush 40, 2) := by decide +kernel
theorem d_Mo_readAny_27 : decode cX9_readAny 27 = .ok (.invokevirtual 241, 3) := by decide +kernel
theorem d_Mo_readAny_30 : decode cX9_readAny 30 = .ok (.ifCond .eq 58, 3) := by decide +kernel
theorem d_Mo_readAny_33 : decode cX9_readAny 33 = .ok (.aload_n 0, 1) := by decide +kernel
theorem d_Mo_readAny_34 : decode cX9_readAny 34 = .ok (.getfield 253, 3) := by decide +kernel
theorem d_Mo_readAny_37 : decode cX9_readAny 37 = .ok (.bipush 8, 2) := by decide +kernel
theorem d_Mo_readAny_39 : decode cX9_readAny 39 = .ok (.if_icmp .ne 9, 3) := by decide +kernel
theorem d_Mo_readAny_42 : decode cX9_readAny 42 = .ok (.aload_n 0, 1) := by decide +kernel
theorem d_Mo_readAny_43 : decode cX9_readAny 43 = .ok (.iconst 3, 1) := by decide +kernel
theorem d_Mo_readAny_44 : decode cX9_readAny 44 = .ok (.invokevirtual 227, 3) := by decide +kernel
theorem d_Mo_readAny_47 : decode cX9_readAny 47 = .ok (.ireturn, 1) := by decide +kernel
theorem d_Mo_readAny_48 : decode cX9_readAny 48 = .ok (.aload_n 0, 1) := by decide +kernel
theorem d_Mo_readAny_49 : decode cX9_readAny 49 = .ok (.aload_n 0, 1) := by decide +kernel
theorem d_Mo_readAny_50 : decode cX9_readAny 50 = .ok (.getfield 253, 3) := by decide +kernel
theorem d_Mo_readAny_53 : decode cX9_readAny 53 = .ok (.iconst 1, 1) := by decide +kernel
theorem d_Mo_readAny_54 : decode cX9_readAny 54 = .ok (.iadd, 1) := by decide +kernel
theorem d_Mo_readAny_55 : decode cX9_readAny 55 = .ok (.putfield 253, 3) := by decide +kernel
theorem d_Mo_readAny_58 : decode cX9_readAny 58 = .ok (.iload_n 3, 1) := by decide +kernel
theorem d_Mo_readAny_59 : decode cX9_readAny 59 = .ok (.ifCond .ne 7, 3) := by decide +kernel
theorem d_Mo_readAny_62 : decode cX9_readAny 62 = .ok (.iload_n 1, 1) := by decide +kernel
theorem d_Mo_readAny_63 : decode cX9_readAny 63 = .ok (.iconst 1, 1) := by decide +kernel
theorem d_Mo_readAny_64 : decode cX9_readAny 64 = .ok (.iadd, 1) := by decide +kernel
theorem d_Mo_readAny_65 : decode cX9_readAny 65 = .ok (.istore_n 1, 1) := by decide +kernel
theorem d_Mo_readAny_66 : decode cX9_readAny 66 = .ok (.aload_n 0, 1) := by decide +kernel
theorem d_Mo_readAny_67 : decode cX9_readAny 67 = .ok (.iload_n 3, 1) := by decide +kernel
theorem d_Mo_readAny_68 : decode cX9_readAny 68 = .ok (.ifCond .eq 8, 3) := by decide +kernel
theorem d_Mo_readAny_71 : decode cX9_readAny 71 = .ok (.bipush 9, 2) := by decide +kernel
theorem d_Mo_readAny_73 : decode cX9_readAny 73 = .ok (.goto 5, 3) := by decide +kernel
theorem d_Mo_readAny_76 : decode cX9_readAny 76 = .ok (.bipush 12, 2) := by decide +kernel
theorem d_Mo_readAny_78 : decode cX9_readAny 78 = .ok (.invokevirtual 259, 3) := by decide +kernel
theorem d_Mo_readAny_81 : decode cX9_readAny 81 = .ok (.aload_n 0, 1) := by decide +kernel
theorem d_Mo_readAny_82 : decode cX9_readAny 82 = .ok (.invokevirtual 234, 3) := by decide +kernel
theorem d_Mo_readAny_85 : decode cX9_readAny 85 = .ok (.goto (-76), 3) := by decide +kernel
theorem d_Mo_readAny_88 : decode cX9_readAny 88 = .ok (.aload_n 0, 1) := by decide +kernel
theorem d_Mo_readAny_89 : decode cX9_readAny 89 = .ok (.invokevirtual 262, 3) := by decide +kernel
theorem d_Mo_readAny_92 : decode cX9_readAny 92 = .ok (.iconst (-1), 1) := by decide +kernel
theorem d_Mo_readAny_93 : decode cX9_readAny 93 = .ok (.if_icmp .ne 5, 3) := by decide +kernel
theorem d_Mo_readAny_96 : decode cX9_readAny 96 = .ok (.iconst (-1), 1) := by decide +kernel
theorem d_Mo_readAny_97 : decode cX9_readAny 97 = .ok (.ireturn, 1) := by decide +kernel
theorem d_Mo_readAny_98 : decode cX9_readAny 98 = .ok (.aload_n 0, 1) := by decide +kernel
theorem d_Mo_readAny_99 : decode cX9_readAny 99 = .ok (.bipush 9, 2) := by decide +kernel
theorem d_Mo_readAny_101 : decode cX9_readAny 101 = .ok (.invokevirtual 265, 3) := by decide +kernel
theorem d_Mo_readAny_104 : decode cX9_readAny 104 = .ok (.iconst 0, 1) := by decide +kernel
theorem d_Mo_readAny_105 : decode cX9_readAny 105 = .ok (.istore_n 2, 1) := by decide +kernel
theorem d_Mo_readAny_106 : decode cX9_readAny 106 = .ok (.goto (-97), 3) := by decide +kernel
theorem d_Mo_readAny_109 : decode cX9_readAny 109 = .ok (.aload_n 0, 1) := by decide +kernel
theorem d_Mo_readAny_110 : decode cX9_readAny 110 = .ok (.iconst 5, 1) := by decide +kernel
theorem d_Mo_readAny_111 : decode cX9_readAny 111 = .ok (.invokevirtual 256, 3) := by decide +kernel
theorem d_Mo_readAny_114 : decode cX9_readAny 114 = .ok (.ifCond .eq 24, 3) := by decide +kernel
theorem d_Mo_readAny_117 : decode cX9_readAny 117 = .ok (.aload_n 0, 1) := by decide +kernel
theorem d_Mo_readAny_118 : decode cX9_readAny 118 = .ok (.bipush 10, 2) := by decide +kernel
theorem d_Mo_readAny_120 : decode cX9_readAny 120 = .ok (.invokevirtual 265, 3) := by decide +kernel
theorem d_Mo_readAny_123 : decode cX9_readAny 123 = .ok (.aload_n 0, 1) := by decide +kernel
theorem d_Mo_readAny_124 : decode cX9_readAny 124 = .ok (.bipush 10, 2) := by decide +kernel
theorem d_Mo_readAny_126 : decode cX9_readAny 126 = .ok (.invokevirtual 259, 3) := by decide +kernel
theorem d_Mo_readAny_129 : decode cX9_readAny 129 = .ok (.aload_n 0, 1) := by decide +kernel
theorem d_Mo_readAny_130 : decode cX9_readAny 130 = .ok (.invokevirtual 234, 3) := by decide +kernel
theorem d_Mo_readAny_133 : decode cX9_readAny 133 = .ok (.iconst 1, 1) := by decide +kernel
theorem d_Mo_readAny_134 : decode cX9_readAny 134 = .ok (.istore_n 2, 1) := by decide +kernel
theorem d_Mo_readAny_135 : decode cX9_readAny 135 = .ok (.goto (-126), 3) := by decide +kernel
theorem d_Mo_readAny_138 : decode cX9_readAny 138 = .ok (.aload_n 0, 1) := by decide +kernel
theorem d_Mo_readAny_139 : decode cX9_readAny 139 = .ok (.iconst 4, 1) := by decide +kernel
theorem d_Mo_readAny_140 : decode cX9_readAny 140 = .ok (.invokevirtual 256, 3) := by decide +kernel
theorem d_Mo_readAny_143 : decode cX9_readAny 143 = .ok (.ifCond .eq 30, 3) := by decide +kernel
theorem d_Mo_readAny_146 : decode cX9_readAny 146 = .ok (.aload_n 0, 1) := by decide +kernel
theorem d_Mo_readAny_147 : decode cX9_readAny 147 = .ok (.bipush 10, 2) := by decide +kernel
theorem d_Mo_readAny_149 : decode cX9_readAny 149 = .ok (.invokevirtual 265, 3) := by decide +kernel
theorem d_Mo_readAny_152 : decode cX9_readAny 152 = .ok (.aload_n 0, 1) := by decide +kernel
theorem d_Mo_readAny_153 : decode cX9_readAny 153 = .ok (.bipush 11, 2) := by decide +kernel
theorem d_Mo_readAny_155 : decode cX9_readAny 155 = .ok (.invokevirtual 265, 3) := by decide +kernel
theorem d_Mo_readAny_158 : decode cX9_readAny 158 = .ok (.aload_n 0, 1) := by decide +kernel
theorem d_Mo_readAny_159 : decode cX9_readAny 159 = .ok (.bipush 11, 2) := by decide +kernel
theorem d_Mo_readAny_161 : decode cX9_readAny 161 = .ok (.invokevirtual 259, 3) := by decide +kernel
theorem d_Mo_readAny_164 : decode cX9_readAny 164 = .ok (.aload_n 0, 1) := by decide +kernel
theorem d_Mo_readAny_165 : decode cX9_readAny 165 = .ok (.invokevirtual 234, 3) := by decide +kernel
theorem d_Mo_readAny_168 : decode cX9_readAny 168 = .ok (.iconst 1, 1) := by decide +kernel
theorem d_Mo_readAny_169 : decode cX9_readAny 169 = .ok (.istore_n 2, 1) := by decide +kernel
theorem d_Mo_readAny_170 : decode cX9_readAny 170 = .ok (.goto (-161), 3) := by decide +kernel
theorem d_Mo_readAny_173 : decode cX9_readAny 173 = .ok (.aload_n 0, 1) := by decide +kernel
theorem d_Mo_readAny_174 : decode cX9_readAny 174 = .ok (.bipush 10, 2) := by decide +kernel
theorem d_Mo_readAny_176 : decode cX9_readAny 176 = .ok (.invokevirtual 265, 3) := by decide +kernel
theorem d_Mo_readAny_179 : decode cX9_readAny 179 = .ok (.aload_n 0, 1) := by decide +kernel
theorem d_Mo_readAny_180 : decode cX9_readAny 180 = .ok (.bipush 11, 2) := by decide +kernel
theorem d_Mo_readAny_182 : decode cX9_readAny 182 = .ok (.invokevirtual 265, 3) := by decide +kernel
theorem d_Mo_readAny_185 : decode cX9_readAny 185 = .ok (.iload_n 1, 1) := by decide +kernel
theorem d_Mo_readAny_186 : decode cX9_readAny 186 = .ok (.ifCond .ne 5, 3) := by decide +kernel
theorem d_Mo_readAny_189 : decode cX9_readAny 189 = .ok (.iconst 0, 1) := by decide +kernel
theorem d_Mo_readAny_190 : decode cX9_readAny 190 = .ok (.ireturn, 1) := by decide +kernel
theorem d_Mo_readAny_191 : decode cX9_readAny 191 = .ok (.aload_n 0, 1) := by decide +kernel
theorem d_Mo_readAny_192 : decode cX9_readAny 192 = .ok (.bipush 41, 2) := by decide +kernel
theorem d_Mo_readAny_194 : decode cX9_readAny 194 = .ok (.invokevirtual 241, 3) := by decide +kernel
theorem d_Mo_readAny_197 : decode cX9_readAny 197 = .ok (.ifCond .ne 9, 3) := by decide +kernel
theorem d_Mo_readAny_200 : decode cX9_readAny 200 = .ok (.aload_n 0, 1) := by decide +kernel
theorem d_Mo_readAny_201 : decode cX9_readAny 201 = .ok (.iconst 1, 1) := by decide +kernel
theorem d_Mo_readAny_202 : decode cX9_readAny 202 = .ok (.invokevirtual 227, 3) := by decide +kernel
theorem d_Mo_readAny_205 : decode cX9_readAny 205 = .ok (.ireturn, 1) := by decide +kernel
theorem d_Mo_readAny_206 : decode cX9_readAny 206 = .ok (.aload_n 0, 1) := by decide +kernel
theorem d_Mo_readAny_207 : decode cX9_readAny 207 = .ok (.aload_n 0, 1) := by decide +kernel
theorem d_Mo_readAny_208 : decode cX9_readAny 208 = .ok (.getfield 250, 3) := by decide +kernel
theorem d_Mo_readAny_211 : decode cX9_readAny 211 = .ok (.iconst 1, 1) := by decide +kernel
theorem d_Mo_readAny_212 : decode cX9_readAny 212 = .ok (.isub, 1) := by decide +kernel
theorem d_Mo_readAny_213 : decode cX9_readAny 213 = .ok (.putfield 250, 3) := by decide +kernel
theorem d_Mo_readAny_216 : decode cX9_readAny 216 = .ok (.iload_n 1, 1) := by decide +kernel
theorem d_Mo_readAny_217 : decode cX9_readAny 217 = .ok (.iconst 1, 1) := by decide +kernel
theorem d_Mo_readAny_218 : decode cX9_readAny 218 = .ok (.isub, 1) := by decide +kernel
theorem d_Mo_readAny_219 : decode cX9_readAny 219 = .ok (.istore_n 1, 1) := by decide +kernel
theorem d_Mo_readAny_220 : decode cX9_readAny 220 = .ok (.aload_n 0, 1) := by decide +kernel
theorem d_Mo_readAny_221 : decode cX9_readAny 221 = .ok (.aload_n 0, 1) := by decide +kernel
theorem d_Mo_readAny_222 : decode cX9_readAny 222 = .ok (.getfield 253, 3) := by decide +kernel
theorem d_Mo_readAny_225 : decode cX9_readAny 225 = .ok (.iconst 1, 1) := by decide +kernel
theorem d_Mo_readAny_226 : decode cX9_readAny 226 = .ok (.isub, 1) := by decide +kernel
theorem d_Mo_readAny_227 : decode cX9_readAny 227 = .ok (.putfield 253, 3) := by decide +kernel
theorem d_Mo_readAny_230 : decode cX9_readAny 230 = .ok (.aload_n 0, 1) := by decide +kernel
theorem d_Mo_readAny_231 : decode cX9_readAny 231 = .ok (.bipush 9, 2) := by decide +kernel
theorem d_Mo_readAny_233 : decode cX9_readAny 233 = .ok (.invokevirtual 265, 3) := by decide +kernel
theorem d_Mo_readAny_236 : decode cX9_readAny 236 = .ok (.aload_n 0, 1) := by decide +kernel
theorem d_Mo_readAny_237 : decode cX9_readAny 237 = .ok (.invokevirtual 234, 3) := by decide +kernel
theorem d_Mo_readAny_240 : decode cX9_readAny 240 = .ok (.goto (-231), 3) := by decide +kernel
theorem d_Mo_readLaw_0 : decode cX9_readLaw 0 = .ok (.iconst 0, 1) := by decide +kernel
theorem d_Mo_readLaw_1 : decode cX9_readLaw 1 = .ok (.istore_n 1, 1) := by decide +kernel
theorem d_Mo_readLaw_2 : decode cX9_readLaw 2 = .ok (.aload_n 0, 1) := by decide +kernel
theorem d_Mo_readLaw_3 : decode cX9_readLaw 3 = .ok (.invokevirtual 268, 3) := by decide +kernel
theorem d_Mo_readLaw_6 : decode cX9_readLaw 6 = .ok (.ifCond .eq 122, 3) := by decide +kernel
theorem d_Mo_readLaw_9 : decode cX9_readLaw 9 = .ok (.iload_n 1, 1) := by decide +kernel
theorem d_Mo_readLaw_10 : decode cX9_readLaw 10 = .ok (.bipush 16, 2) := by decide +kernel
theorem d_Mo_readLaw_12 : decode cX9_readLaw 12 = .ok (.if_icmp .ne 9, 3) := by decide +kernel
theorem d_Mo_readLaw_15 : decode cX9_readLaw 15 = .ok (.aload_n 0, 1) := by decide +kernel
theorem d_Mo_readLaw_16 : decode cX9_readLaw 16 = .ok (.iconst 3, 1) := by decide +kernel
theorem d_Mo_readLaw_17 : decode cX9_readLaw 17 = .ok (.invokevirtual 227, 3) := by decide +kernel
theorem d_Mo_readLaw_20 : decode cX9_readLaw 20 = .ok (.ireturn, 1) := by decide +kernel
theorem d_Mo_readLaw_21 : decode cX9_readLaw 21 = .ok (.bipush 32, 2) := by decide +kernel
theorem d_Mo_readLaw_23 : decode cX9_readLaw 23 = .ok (.iload_n 1, 1) := by decide +kernel
theorem d_Mo_readLaw_24 : decode cX9_readLaw 24 = .ok (.iadd, 1) := by decide +kernel
theorem d_Mo_readLaw_25 : decode cX9_readLaw 25 = .ok (.istore_n 2, 1) := by decide +kernel
theorem d_Mo_readLaw_26 : decode cX9_readLaw 26 = .ok (.aload_n 0, 1) := by decide +kernel
theorem d_Mo_readLaw_27 : decode cX9_readLaw 27 = .ok (.getfield 43, 3) := by decide +kernel
theorem d_Mo_readLaw_30 : decode cX9_readLaw 30 = .ok (.iload_n 2, 1) := by decide +kernel
theorem d_Mo_readLaw_31 : decode cX9_readLaw 31 = .ok (.aload_n 0, 1) := by decide +kernel
theorem d_Mo_readLaw_32 : decode cX9_readLaw 32 = .ok (.getfield 199, 3) := by decide +kernel
theorem d_Mo_readLaw_35 : decode cX9_readLaw 35 = .ok (.iastore, 1) := by decide +kernel
theorem d_Mo_readLaw_36 : decode cX9_readLaw 36 = .ok (.aload_n 0, 1) := by decide +kernel
theorem d_Mo_readLaw_37 : decode cX9_readLaw 37 = .ok (.invokevirtual 234, 3) := by decide +kernel
theorem d_Mo_readLaw_40 : decode cX9_readLaw 40 = .ok (.aload_n 0, 1) := by decide +kernel
theorem d_Mo_readLaw_41 : decode cX9_readLaw 41 = .ok (.getfield 46, 3) := by decide +kernel
theorem d_Mo_readLaw_44 : decode cX9_readLaw 44 = .ok (.iload_n 2, 1) := by decide +kernel
theorem d_Mo_readLaw_45 : decode cX9_readLaw 45 = .ok (.aload_n 0, 1) := by decide +kernel
theorem d_Mo_readLaw_46 : decode cX9_readLaw 46 = .ok (.getfield 221, 3) := by decide +kernel
theorem d_Mo_readLaw_49 : decode cX9_readLaw 49 = .ok (.iastore, 1) := by decide +kernel
theorem d_Mo_readLaw_50 : decode cX9_readLaw 50 = .ok (.aload_n 0, 1) := by decide +kernel
theorem d_Mo_readLaw_51 : decode cX9_readLaw 51 = .ok (.invokevirtual 247, 3) := by decide +kernel
theorem d_Mo_readLaw_54 : decode cX9_readLaw 54 = .ok (.iconst (-1), 1) := by decide +kernel
theorem d_Mo_readLaw_55 : decode cX9_readLaw 55 = .ok (.if_icmp .ne 5, 3) := by decide +kernel
theorem d_Mo_readLaw_58 : decode cX9_readLaw 58 = .ok (.iconst (-1), 1) := by decide +kernel
theorem d_Mo_readLaw_59 : decode cX9_readLaw 59 = .ok (.ireturn, 1) := by decide +kernel
theorem d_Mo_readLaw_60 : decode cX9_readLaw 60 = .ok (.aload_n 0, 1) := by decide +kernel
theorem d_Mo_readLaw_61 : decode cX9_readLaw 61 = .ok (.getfield 49, 3) := by decide +kernel
theorem d_Mo_readLaw_64 : decode cX9_readLaw 64 = .ok (.iload_n 2, 1) := by decide +kernel
theorem d_Mo_readLaw_65 : decode cX9_readLaw 65 = .ok (.aload_n 0, 1) := by decide +kernel
theorem d_Mo_readLaw_66 : decode cX9_readLaw 66 = .ok (.getfield 221, 3) := by decide +kernel
theorem d_Mo_readLaw_69 : decode cX9_readLaw 69 = .ok (.iastore, 1) := by decide +kernel
theorem d_Mo_readLaw_70 : decode cX9_readLaw 70 = .ok (.aload_n 0, 1) := by decide +kernel
theorem d_Mo_readLaw_71 : decode cX9_readLaw 71 = .ok (.iconst 3, 1) := by decide +kernel
theorem d_Mo_readLaw_72 : decode cX9_readLaw 72 = .ok (.invokevirtual 256, 3) := by decide +kernel
theorem d_Mo_readLaw_75 : decode cX9_readLaw 75 = .ok (.ifCond .eq 17, 3) := by decide +kernel
theorem d_Mo_readLaw_78 : decode cX9_readLaw 78 = .ok (.aload_n 0, 1) := by decide +kernel
theorem d_Mo_readLaw_79 : decode cX9_readLaw 79 = .ok (.invokevirtual 234, 3) := by decide +kernel
theorem d_Mo_readLaw_82 : decode cX9_readLaw 82 = .ok (.aload_n 0, 1) := by decide +kernel
theorem d_Mo_readLaw_83 : decode cX9_readLaw 83 = .ok (.invokevirtual 272, 3) := by decide +kernel
theorem d_Mo_readLaw_86 : decode cX9_readLaw 86 = .ok (.iconst (-1), 1) := by decide +kernel
theorem d_Mo_readLaw_87 : decode cX9_readLaw 87 = .ok (.if_icmp .ne 5, 3) := by decide +kernel
theorem d_Mo_readLaw_90 : decode cX9_readLaw 90 = .ok (.iconst (-1), 1) := by decide +kernel
theorem d_Mo_readLaw_91 : decode cX9_readLaw 91 = .ok (.ireturn, 1) := by decide +kernel
theorem d_Mo_readLaw_92 : decode cX9_readLaw 92 = .ok (.aload_n 0, 1) := by decide +kernel
theorem d_Mo_readLaw_93 : decode cX9_readLaw 93 = .ok (.getfield 52, 3) := by decide +kernel
theorem d_Mo_readLaw_96 : decode cX9_readLaw 96 = .ok (.iload_n 2, 1) := by decide +kernel
theorem d_Mo_readLaw_97 : decode cX9_readLaw 97 = .ok (.aload_n 0, 1) := by decide +kernel
theorem d_Mo_readLaw_98 : decode cX9_readLaw 98 = .ok (.getfield 221, 3) := by decide +kernel
theorem d_Mo_readLaw_101 : decode cX9_readLaw 101 = .ok (.iastore, 1) := by decide +kernel
theorem d_Mo_readLaw_102 : decode cX9_readLaw 102 = .ok (.aload_n 0, 1) := by decide +kernel
theorem d_Mo_readLaw_103 : decode cX9_readLaw 103 = .ok (.bipush 59, 2) := by decide +kernel
theorem d_Mo_readLaw_105 : decode cX9_readLaw 105 = .ok (.invokevirtual 241, 3) := by decide +kernel
theorem d_Mo_readLaw_108 : decode cX9_readLaw 108 = .ok (.ifCond .ne 9, 3) := by decide +kernel
theorem d_Mo_readLaw_111 : decode cX9_readLaw 111 = .ok (.aload_n 0, 1) := by decide +kernel
theorem d_Mo_readLaw_112 : decode cX9_readLaw 112 = .ok (.iconst 1, 1) := by decide +kernel
theorem d_Mo_readLaw_113 : decode cX9_readLaw 113 = .ok (.invokevirtual 227, 3) := by decide +kernel
theorem d_Mo_readLaw_116 : decode cX9_readLaw 116 = .ok (.ireturn, 1) := by decide +kernel
theorem d_Mo_readLaw_117 : decode cX9_readLaw 117 = .ok (.aload_n 0, 1) := by decide +kernel
theorem d_Mo_readLaw_118 : decode cX9_readLaw 118 = .ok (.invokevirtual 234, 3) := by decide +kernel
theorem d_Mo_readLaw_121 : decode cX9_readLaw 121 = .ok (.iload_n 1, 1) := by decide +kernel
theorem d_Mo_readLaw_122 : decode cX9_readLaw 122 = .ok (.iconst 1, 1) := by decide +kernel
theorem d_Mo_readLaw_123 : decode cX9_readLaw 123 = .ok (.iadd, 1) := by decide +kernel
theorem d_Mo_readLaw_124 : decode cX9_readLaw 124 = .ok (.istore_n 1, 1) := by decide +kernel
theorem d_Mo_readLaw_125 : decode cX9_readLaw 125 = .ok (.goto (-123), 3) := by decide +kernel
theorem d_Mo_readLaw_128 : decode cX9_readLaw 128 = .ok (.aload_n 0, 1) := by decide +kernel
theorem d_Mo_readLaw_129 : decode cX9_readLaw 129 = .ok (.getfield 196, 3) := by decide +kernel
theorem d_Mo_readLaw_132 : decode cX9_readLaw 132 = .ok (.ifCond .ne 7, 3) := by decide +kernel
theorem d_Mo_readLaw_135 : decode cX9_readLaw 135 = .ok (.iload_n 1, 1) := by decide +kernel
theorem d_Mo_readLaw_136 : decode cX9_readLaw 136 = .ok (.goto 8, 3) := by decide +kernel
theorem d_Mo_readLaw_139 : decode cX9_readLaw 139 = .ok (.aload_n 0, 1) := by decide +kernel
theorem d_Mo_readLaw_140 : decode cX9_readLaw 140 = .ok (.iconst 1, 1) := by decide +kernel
theorem d_Mo_readLaw_141 : decode cX9_readLaw 141 = .ok (.invokevirtual 227, 3) := by decide +kernel
theorem d_Mo_readLaw_144 : decode cX9_readLaw 144 = .ok (.ireturn, 1) := by decide +kernel
theorem d_Mo_readsText_0 : decode cX9_readsText 0 = .ok (.aload_n 0, 1) := by decide +kernel
theorem d_Mo_readsText_1 : decode cX9_readsText 1 = .ok (.iconst 0, 1) := by decide +kernel
theorem d_Mo_readsText_2 : decode cX9_readsText 2 = .ok (.putfield 275, 3) := by decide +kernel
theorem d_Mo_readsText_5 : decode cX9_readsText 5 = .ok (.aload_n 0, 1) := by decide +kernel
theorem d_Mo_readsText_6 : decode cX9_readsText 6 = .ok (.invokevirtual 234, 3) := by decide +kernel
theorem d_Mo_readsText_9 : decode cX9_readsText 9 = .ok (.iload_n 1, 1) := by decide +kernel
theorem d_Mo_readsText_10 : decode cX9_readsText 10 = .ok (.iconst 1, 1) := by decide +kernel
theorem d_Mo_readsText_11 : decode cX9_readsText 11 = .ok (.if_icmp .ne 8, 3) := by decide +kernel
theorem d_Mo_readsText_14 : decode cX9_readsText 14 = .ok (.aload_n 0, 1) := by decide +kernel
theorem d_Mo_readsText_15 : decode cX9_readsText 15 = .ok (.invokevirtual 300, 3) := by decide +kernel
theorem d_Mo_readsText_18 : decode cX9_readsText 18 = .ok (.ireturn, 1) := by decide +kernel
theorem d_Mo_readsText_19 : decode cX9_readsText 19 = .ok (.iload_n 1, 1) := by decide +kernel
theorem d_Mo_readsText_20 : decode cX9_readsText 20 = .ok (.iconst 2, 1) := by decide +kernel
theorem d_Mo_readsText_21 : decode cX9_readsText 21 = .ok (.if_icmp .ne 8, 3) := by decide +kernel
theorem d_Mo_readsText_24 : decode cX9_readsText 24 = .ok (.aload_n 0, 1) := by decide +kernel
theorem d_Mo_readsText_25 : decode cX9_readsText 25 = .ok (.invokevirtual 303, 3) := by decide +kernel
theorem d_Mo_readsText_28 : decode cX9_readsText 28 = .ok (.ireturn, 1) := by decide +kernel
theorem d_Mo_readsText_29 : decode cX9_readsText 29 = .ok (.iload_n 1, 1) := by decide +kernel
theorem d_Mo_readsText_30 : decode cX9_readsText 30 = .ok (.iconst 3, 1) := by decide +kernel
theorem d_Mo_readsText_31 : decode cX9_readsText 31 = .ok (.if_icmp .ne 10, 3) := by decide +kernel
theorem d_Mo_readsText_34 : decode cX9_readsText 34 = .ok (.aload_n 0, 1) := by decide +kernel
theorem d_Mo_readsText_35 : decode cX9_readsText 35 = .ok (.invokevirtual 306, 3) := by decide +kernel
theorem d_Mo_readsText_38 : decode cX9_readsText 38 = .ok (.goto 7, 3) := by decide +kernel
theorem d_Mo_readsText_41 : decode cX9_readsText 41 = .ok (.aload_n 0, 1) := by decide +kernel
theorem d_Mo_readsText_42 : decode cX9_readsText 42 = .ok (.invokevirtual 309, 3) := by decide +kernel
theorem d_Mo_readsText_45 : decode cX9_readsText 45 = .ok (.ireturn, 1) := by decide +kernel
theorem d_Mo_takesLaw_0 : decode cX9_takesLaw 0 = .ok (.iconst 0, 1) := by decide +kernel
theorem d_Mo_takesLaw_1 : decode cX9_takesLaw 1 = .ok (.istore_n 2, 1) := by decide +kernel
theorem d_Mo_takesLaw_2 : decode cX9_takesLaw 2 = .ok (.iload_n 2, 1) := by decide +kernel
theorem d_Mo_takesLaw_3 : decode cX9_takesLaw 3 = .ok (.iload_n 1, 1) := by decide +kernel
theorem d_Mo_takesLaw_4 : decode cX9_takesLaw 4 = .ok (.if_icmp .ge 101, 3) := by decide +kernel
theorem d_Mo_takesLaw_7 : decode cX9_takesLaw 7 = .ok (.aload_n 0, 1) := by decide +kernel
theorem d_Mo_takesLaw_8 : decode cX9_takesLaw 8 = .ok (.getfield 43, 3) := by decide +kernel
theorem d_Mo_takesLaw_11 : decode cX9_takesLaw 11 = .ok (.bipush 16, 2) := by decide +kernel
theorem d_Mo_takesLaw_13 : decode cX9_takesLaw 13 = .ok (.aload_n 0, 1) := by decide +kernel
theorem d_Mo_takesLaw_14 : decode cX9_takesLaw 14 = .ok (.getfield 275, 3) := by decide +kernel
theorem d_Mo_takesLaw_17 : decode cX9_takesLaw 17 = .ok (.imul, 1) := by decide +kernel
theorem d_Mo_takesLaw_18 : decode cX9_takesLaw 18 = .ok (.iload_n 2, 1) := by decide +kernel
theorem d_Mo_takesLaw_19 : decode cX9_takesLaw 19 = .ok (.iadd, 1) := by decide +kernel
theorem d_Mo_takesLaw_20 : decode cX9_takesLaw 20 = .ok (.aload_n 0, 1) := by decide +kernel
theorem d_Mo_takesLaw_21 : decode cX9_takesLaw 21 = .ok (.getfield 43, 3) := by decide +kernel
theorem d_Mo_takesLaw_24 : decode cX9_takesLaw 24 = .ok (.bipush 32, 2) := by decide +kernel
theorem d_Mo_takesLaw_26 : decode cX9_takesLaw 26 = .ok (.iload_n 2, 1) := by decide +kernel
theorem d_Mo_takesLaw_27 : decode cX9_takesLaw 27 = .ok (.iadd, 1) := by decide +kernel
theorem d_Mo_takesLaw_28 : decode cX9_takesLaw 28 = .ok (.iaload, 1) := by decide +kernel
theorem d_Mo_takesLaw_29 : decode cX9_takesLaw 29 = .ok (.iastore, 1) := by decide +kernel
theorem d_Mo_takesLaw_30 : decode cX9_takesLaw 30 = .ok (.aload_n 0, 1) := by decide +kernel
theorem d_Mo_takesLaw_31 : decode cX9_takesLaw 31 = .ok (.getfield 46, 3) := by decide +kernel
theorem d_Mo_takesLaw_34 : decode cX9_takesLaw 34 = .ok (.bipush 16, 2) := by decide +kernel
theorem d_Mo_takesLaw_36 : decode cX9_takesLaw 36 = .ok (.aload_n 0, 1) := by decide +kernel
theorem d_Mo_takesLaw_37 : decode cX9_takesLaw 37 = .ok (.getfield 275, 3) := by decide +kernel
theorem d_Mo_takesLaw_40 : decode cX9_takesLaw 40 = .ok (.imul, 1) := by decide +kernel
theorem d_Mo_takesLaw_41 : decode cX9_takesLaw 41 = .ok (.iload_n 2, 1) := by decide +kernel
theorem d_Mo_takesLaw_42 : decode cX9_takesLaw 42 = .ok (.iadd, 1) := by decide +kernel
theorem d_Mo_takesLaw_43 : decode cX9_takesLaw 43 = .ok (.aload_n 0, 1) := by decide +kernel
theorem d_Mo_takesLaw_44 : decode cX9_takesLaw 44 = .ok (.getfield 46, 3) := by decide +kernel
theorem d_Mo_takesLaw_47 : decode cX9_takesLaw 47 = .ok (.bipush 32, 2) := by decide +kernel
theorem d_Mo_takesLaw_49 : decode cX9_takesLaw 49 = .ok (.iload_n 2, 1) := by decide +kernel
theorem d_Mo_takesLaw_50 : decode cX9_takesLaw 50 = .ok (.iadd, 1) := by decide +kernel
theorem d_Mo_takesLaw_51 : decode cX9_takesLaw 51 = .ok (.iaload, 1) := by decide +kernel
theorem d_Mo_takesLaw_52 : decode cX9_takesLaw 52 = .ok (.iastore, 1) := by decide +kernel
theorem d_Mo_takesLaw_53 : decode cX9_takesLaw 53 = .ok (.aload_n 0, 1) := by decide +kernel
theorem d_Mo_takesLaw_54 : decode cX9_takesLaw 54 = .ok (.getfield 49, 3) := by decide +kernel
theorem d_Mo_takesLaw_57 : decode cX9_takesLaw 57 = .ok (.bipush 16, 2) := by decide +kernel
theorem d_Mo_takesLaw_59 : decode cX9_takesLaw 59 = .ok (.aload_n 0, 1) := by decide +kernel
theorem d_Mo_takesLaw_60 : decode cX9_takesLaw 60 = .ok (.getfield 275, 3) := by decide +kernel
theorem d_Mo_takesLaw_63 : decode cX9_takesLaw 63 = .ok (.imul, 1) := by decide +kernel
theorem d_Mo_takesLaw_64 : decode cX9_takesLaw 64 = .ok (.iload_n 2, 1) := by decide +kernel
theorem d_Mo_takesLaw_65 : decode cX9_takesLaw 65 = .ok (.iadd, 1) := by decide +kernel
theorem d_Mo_takesLaw_66 : decode cX9_takesLaw 66 = .ok (.aload_n 0, 1) := by decide +kernel
theorem d_Mo_takesLaw_67 : decode cX9_takesLaw 67 = .ok (.getfield 49, 3) := by decide +kernel
theorem d_Mo_takesLaw_70 : decode cX9_takesLaw 70 = .ok (.bipush 32, 2) := by decide +kernel
theorem d_Mo_takesLaw_72 : decode cX9_takesLaw 72 = .ok (.iload_n 2, 1) := by decide +kernel
theorem d_Mo_takesLaw_73 : decode cX9_takesLaw 73 = .ok (.iadd, 1) := by decide +kernel
theorem d_Mo_takesLaw_74 : decode cX9_takesLaw 74 = .ok (.iaload, 1) := by decide +kernel
theorem d_Mo_takesLaw_75 : decode cX9_takesLaw 75 = .ok (.iastore, 1) := by decide +kernel
theorem d_Mo_takesLaw_76 : decode cX9_takesLaw 76 = .ok (.aload_n 0, 1) := by decide +kernel
theorem d_Mo_takesLaw_77 : decode cX9_takesLaw 77 = .ok (.getfield 52, 3) := by decide +kernel
theorem d_Mo_takesLaw_80 : decode cX9_takesLaw 80 = .ok (.bipush 16, 2) := by decide +kernel
theorem d_Mo_takesLaw_82 : decode cX9_takesLaw 82 = .ok (.aload_n 0, 1) := by decide +kernel
theorem d_Mo_takesLaw_83 : decode cX9_takesLaw 83 = .ok (.getfield 275, 3) := by decide +kernel
theorem d_Mo_takesLaw_86 : decode cX9_takesLaw 86 = .ok (.imul, 1) := by decide +kernel
theorem d_Mo_takesLaw_87 : decode cX9_takesLaw 87 = .ok (.iload_n 2, 1) := by decide +kernel
theorem d_Mo_takesLaw_88 : decode cX9_takesLaw 88 = .ok (.iadd, 1) := by decide +kernel
theorem d_Mo_takesLaw_89 : decode cX9_takesLaw 89 = .ok (.aload_n 0, 1) := by decide +kernel
theorem d_Mo_takesLaw_90 : decode cX9_takesLaw 90 = .ok (.getfield 52, 3) := by decide +kernel
theorem d_Mo_takesLaw_93 : decode cX9_takesLaw 93 = .ok (.bipush 32, 2) := by decide +kernel
theorem d_Mo_takesLaw_95 : decode cX9_takesLaw 95 = .ok (.iload_n 2, 1) := by decide +kernel
theorem d_Mo_takesLaw_96 : decode cX9_takesLaw 96 = .ok (.iadd, 1) := by decide +kernel
theorem d_Mo_takesLaw_97 : decode cX9_takesLaw 97 = .ok (.iaload, 1) := by decide +kernel
theorem d_Mo_takesLaw_98 : decode cX9_takesLaw 98 = .ok (.iastore, 1) := by decide +kernel
theorem d_Mo_takesLaw_99 : decode cX9_takesLaw 99 = .ok (.iinc 2 1, 3) := by decide +kernel
theorem d_Mo_takesLaw_102 : decode cX9_takesLaw 102 = .ok (.goto (-100), 3) := by decide +kernel
theorem d_Mo_takesLaw_105 : decode cX9_takesLaw 105 = .ok (.iconst 0, 1) := by decide +kernel
theorem d_Mo_takesLaw_106 : decode cX9_takesLaw 106 = .ok (.istore_n 2, 1) := by decide +kernel
theorem d_Mo_takesLaw_107 : decode cX9_takesLaw 107 = .ok (.iload_n 2, 1) := by decide +kernel
theorem d_Mo_takesLaw_108 : decode cX9_takesLaw 108 = .ok (.aload_n 0, 1) := by decide +kernel
theorem d_Mo_takesLaw_109 : decode cX9_takesLaw 109 = .ok (.getfield 221, 3) := by decide +kernel
theorem d_Mo_takesLaw_112 : decode cX9_takesLaw 112 = .ok (.if_icmp .ge 59, 3) := by decide +kernel
theorem d_Mo_takesLaw_115 : decode cX9_takesLaw 115 = .ok (.aload_n 0, 1) := by decide +kernel
theorem d_Mo_takesLaw_116 : decode cX9_takesLaw 116 = .ok (.getfield 55, 3) := by decide +kernel
theorem d_Mo_takesLaw_119 : decode cX9_takesLaw 119 = .ok (.sipush 400, 3) := by decide +kernel
theorem d_Mo_takesLaw_122 : decode cX9_takesLaw 122 = .ok (.aload_n 0, 1) := by decide +kernel
theorem d_Mo_takesLaw_123 : decode cX9_takesLaw 123 = .ok (.getfield 275, 3) := by decide +kernel
theorem d_Mo_takesLaw_126 : decode cX9_takesLaw 126 = .ok (.imul, 1) := by decide +kernel
theorem d_Mo_takesLaw_127 : decode cX9_takesLaw 127 = .ok (.iload_n 2, 1) := by decide +kernel
theorem d_Mo_takesLaw_128 : decode cX9_takesLaw 128 = .ok (.iadd, 1) := by decide +kernel
theorem d_Mo_takesLaw_129 : decode cX9_takesLaw 129 = .ok (.aload_n 0, 1) := by decide +kernel
theorem d_Mo_takesLaw_130 : decode cX9_takesLaw 130 = .ok (.getfield 55, 3) := by decide +kernel
theorem d_Mo_takesLaw_133 : decode cX9_takesLaw 133 = .ok (.sipush 800, 3) := by decide +kernel
theorem d_Mo_takesLaw_136 : decode cX9_takesLaw 136 = .ok (.iload_n 2, 1) := by decide +kernel
theorem d_Mo_takesLaw_137 : decode cX9_takesLaw 137 = .ok (.iadd, 1) := by decide +kernel
theorem d_Mo_takesLaw_138 : decode cX9_takesLaw 138 = .ok (.iaload, 1) := by decide +kernel
theorem d_Mo_takesLaw_139 : decode cX9_takesLaw 139 = .ok (.iastore, 1) := by decide +kernel
theorem d_Mo_takesLaw_140 : decode cX9_takesLaw 140 = .ok (.aload_n 0, 1) := by decide +kernel
theorem d_Mo_takesLaw_141 : decode cX9_takesLaw 141 = .ok (.getfield 58, 3) := by decide +kernel
theorem d_Mo_takesLaw_144 : decode cX9_takesLaw 144 = .ok (.sipush 400, 3) := by decide +kernel
theorem d_Mo_takesLaw_147 : decode cX9_takesLaw 147 = .ok (.aload_n 0, 1) := by decide +kernel
theorem d_Mo_takesLaw_148 : decode cX9_takesLaw 148 = .ok (.getfield 275, 3) := by decide +kernel
theorem d_Mo_takesLaw_151 : decode cX9_takesLaw 151 = .ok (.imul, 1) := by decide +kernel
theorem d_Mo_takesLaw_152 : decode cX9_takesLaw 152 = .ok (.iload_n 2, 1) := by decide +kernel
theorem d_Mo_takesLaw_153 : decode cX9_takesLaw 153 = .ok (.iadd, 1) := by decide +kernel
theorem d_Mo_takesLaw_154 : decode cX9_takesLaw 154 = .ok (.aload_n 0, 1) := by decide +kernel
theorem d_Mo_takesLaw_155 : decode cX9_takesLaw 155 = .ok (.getfield 58, 3) := by decide +kernel
theorem d_Mo_takesLaw_158 : decode cX9_takesLaw 158 = .ok (.sipush 800, 3) := by decide +kernel
theorem d_Mo_takesLaw_161 : decode cX9_takesLaw 161 = .ok (.iload_n 2, 1) := by decide +kernel
theorem d_Mo_takesLaw_162 : decode cX9_takesLaw 162 = .ok (.iadd, 1) := by decide +kernel
theorem d_Mo_takesLaw_163 : decode cX9_takesLaw 163 = .ok (.iaload, 1) := by decide +kernel
theorem d_Mo_takesLaw_164 : decode cX9_takesLaw 164 = .ok (.iastore, 1) := by decide +kernel
theorem d_Mo_takesLaw_165 : decode cX9_takesLaw 165 = .ok (.iinc 2 1, 3) := by decide +kernel
theorem d_Mo_takesLaw_168 : decode cX9_takesLaw 168 = .ok (.goto (-61), 3) := by decide +kernel
theorem d_Mo_takesLaw_171 : decode cX9_takesLaw 171 = .ok (.aload_n 0, 1) := by decide +kernel
theorem d_Mo_takesLaw_172 : decode cX9_takesLaw 172 = .ok (.getfield 40, 3) := by decide +kernel
theorem d_Mo_takesLaw_175 : decode cX9_takesLaw 175 = .ok (.aload_n 0, 1) := by decide +kernel
theorem d_Mo_takesLaw_176 : decode cX9_takesLaw 176 = .ok (.getfield 275, 3) := by decide +kernel
theorem d_Mo_takesLaw_179 : decode cX9_takesLaw 179 = .ok (.iload_n 1, 1) := by decide +kernel
theorem d_Mo_takesLaw_180 : decode cX9_takesLaw 180 = .ok (.iastore, 1) := by decide +kernel
theorem d_Mo_takesLaw_181 : decode cX9_takesLaw 181 = .ok (.return_, 1) := by decide +kernel
theorem d_Mo_takesOther_0 : decode cX9_takesOther 0 = .ok (.iload_n 1, 1) := by decide +kernel
theorem d_Mo_takesOther_1 : decode cX9_takesOther 1 = .ok (.iconst 1, 1) := by decide +kernel
theorem d_Mo_takesOther_2 : decode cX9_takesOther 2 = .ok (.if_icmp .ne 40, 3) := by decide +kernel
theorem d_Mo_takesOther_5 : decode cX9_takesOther 5 = .ok (.iconst 0, 1) := by decide +kernel
theorem d_Mo_takesOther_6 : decode cX9_takesOther 6 = .ok (.istore_n 3, 1) := by decide +kernel
theorem d_Mo_takesOther_7 : decode cX9_takesOther 7 = .ok (.iload_n 3, 1) := by decide +kernel
theorem d_Mo_takesOther_8 : decode cX9_takesOther 8 = .ok (.bipush 12, 2) := by decide +kernel
theorem d_Mo_takesOther_10 : decode cX9_takesOther 10 = .ok (.if_icmp .ge 24, 3) := by decide +kernel
theorem d_Mo_takesOther_13 : decode cX9_takesOther 13 = .ok (.aload_n 0, 1) := by decide +kernel
theorem d_Mo_takesOther_14 : decode cX9_takesOther 14 = .ok (.getfield 68, 3) := by decide +kernel
theorem d_Mo_takesOther_17 : decode cX9_takesOther 17 = .ok (.iload_n 3, 1) := by decide +kernel
theorem d_Mo_takesOther_18 : decode cX9_takesOther 18 = .ok (.aload_n 0, 1) := by decide +kernel
theorem d_Mo_takesOther_19 : decode cX9_takesOther 19 = .ok (.getfield 68, 3) := by decide +kernel
theorem d_Mo_takesOther_22 : decode cX9_takesOther 22 = .ok (.bipush 12, 2) := by decide +kernel
theorem d_Mo_takesOther_24 : decode cX9_takesOther 24 = .ok (.iload_n 3, 1) := by decide +kernel
theorem d_Mo_takesOther_25 : decode cX9_takesOther 25 = .ok (.iadd, 1) := by decide +kernel
theorem d_Mo_takesOther_26 : decode cX9_takesOther 26 = .ok (.iaload, 1) := by decide +kernel
theorem d_Mo_takesOther_27 : decode cX9_takesOther 27 = .ok (.iastore, 1) := by decide +kernel
theorem d_Mo_takesOther_28 : decode cX9_takesOther 28 = .ok (.iinc 3 1, 3) := by decide +kernel
theorem d_Mo_takesOther_31 : decode cX9_takesOther 31 = .ok (.goto (-24), 3) := by decide +kernel
theorem d_Mo_takesOther_34 : decode cX9_takesOther 34 = .ok (.aload_n 0, 1) := by decide +kernel
theorem d_Mo_takesOther_35 : decode cX9_takesOther 35 = .ok (.iload_n 2, 1) := by decide +kernel
theorem d_Mo_takesOther_36 : decode cX9_takesOther 36 = .ok (.putfield 312, 3) := by decide +kernel
theorem d_Mo_takesOther_39 : decode cX9_takesOther 39 = .ok (.goto 86, 3) := by decide +kernel
theorem d_Mo_takesOther_42 : decode cX9_takesOther 42 = .ok (.iload_n 1, 1) := by decide +kernel
theorem d_Mo_takesOther_43 : decode cX9_takesOther 43 = .ok (.iconst 2, 1) := by decide +kernel
theorem d_Mo_takesOther_44 : decode cX9_takesOther 44 = .ok (.if_icmp .ne 46, 3) := by decide +kernel
theorem d_Mo_takesOther_47 : decode cX9_takesOther 47 = .ok (.iconst 0, 1) := by decide +kernel
theorem d_Mo_takesOther_48 : decode cX9_takesOther 48 = .ok (.istore_n 3, 1) := by decide +kernel
theorem d_Mo_takesOther_49 : decode cX9_takesOther 49 = .ok (.iload_n 3, 1) := by decide +kernel
theorem d_Mo_takesOther_50 : decode cX9_takesOther 50 = .ok (.iconst 4, 1) := by decide +kernel
theorem d_Mo_takesOther_51 : decode cX9_takesOther 51 = .ok (.iload_n 2, 1) := by decide +kernel
theorem d_Mo_takesOther_52 : decode cX9_takesOther 52 = .ok (.imul, 1) := by decide +kernel
theorem d_Mo_takesOther_53 : decode cX9_takesOther 53 = .ok (.if_icmp .ge 24, 3) := by decide +kernel
theorem d_Mo_takesOther_56 : decode cX9_takesOther 56 = .ok (.aload_n 0, 1) := by decide +kernel
theorem d_Mo_takesOther_57 : decode cX9_takesOther 57 = .ok (.getfield 71, 3) := by decide +kernel
theorem d_Mo_takesOther_60 : decode cX9_takesOther 60 = .ok (.iload_n 3, 1) := by decide +kernel
theorem d_Mo_takesOther_61 : decode cX9_takesOther 61 = .ok (.aload_n 0, 1) := by decide +kernel
theorem d_Mo_takesOther_62 : decode cX9_takesOther 62 = .ok (.getfield 71, 3) := by decide +kernel
theorem d_Mo_takesOther_65 : decode cX9_takesOther 65 = .ok (.bipush 64, 2) := by decide +kernel
theorem d_Mo_takesOther_67 : decode cX9_takesOther 67 = .ok (.iload_n 3, 1) := by decide +kernel
theorem d_Mo_takesOther_68 : decode cX9_takesOther 68 = .ok (.iadd, 1) := by decide +kernel
theorem d_Mo_takesOther_69 : decode cX9_takesOther 69 = .ok (.iaload, 1) := by decide +kernel
theorem d_Mo_takesOther_70 : decode cX9_takesOther 70 = .ok (.iastore, 1) := by decide +kernel
theorem d_Mo_takesOther_71 : decode cX9_takesOther 71 = .ok (.iinc 3 1, 3) := by decide +kernel
theorem d_Mo_takesOther_74 : decode cX9_takesOther 74 = .ok (.goto (-25), 3) := by decide +kernel
theorem d_Mo_takesOther_77 : decode cX9_takesOther 77 = .ok (.aload_n 0, 1) := by decide +kernel
theorem d_Mo_takesOther_78 : decode cX9_takesOther 78 = .ok (.iload_n 2, 1) := by decide +kernel
theorem d_Mo_takesOther_79 : decode cX9_takesOther 79 = .ok (.putfield 315, 3) := by decide +kernel
theorem d_Mo_takesOther_82 : decode cX9_takesOther 82 = .ok (.aload_n 0, 1) := by decide +kernel
theorem d_Mo_takesOther_83 : decode cX9_takesOther 83 = .ok (.iconst 0, 1) := by decide +kernel
theorem d_Mo_takesOther_84 : decode cX9_takesOther 84 = .ok (.putfield 143, 3) := by decide +kernel
theorem d_Mo_takesOther_87 : decode cX9_takesOther 87 = .ok (.goto 38, 3) := by decide +kernel
theorem d_Mo_takesOther_90 : decode cX9_takesOther 90 = .ok (.iconst 0, 1) := by decide +kernel
theorem d_Mo_takesOther_91 : decode cX9_takesOther 91 = .ok (.istore_n 3, 1) := by decide +kernel
theorem d_Mo_takesOther_92 : decode cX9_takesOther 92 = .ok (.iload_n 3, 1) := by decide +kernel
theorem d_Mo_takesOther_93 : decode cX9_takesOther 93 = .ok (.iconst 4, 1) := by decide +kernel
theorem d_Mo_takesOther_94 : decode cX9_takesOther 94 = .ok (.iload_n 2, 1) := by decide +kernel
theorem d_Mo_takesOther_95 : decode cX9_takesOther 95 = .ok (.imul, 1) := by decide +kernel
theorem d_Mo_takesOther_96 : decode cX9_takesOther 96 = .ok (.if_icmp .ge 24, 3) := by decide +kernel
theorem d_Mo_takesOther_99 : decode cX9_takesOther 99 = .ok (.aload_n 0, 1) := by decide +kernel
theorem d_Mo_takesOther_100 : decode cX9_takesOther 100 = .ok (.getfield 74, 3) := by decide +kernel
theorem d_Mo_takesOther_103 : decode cX9_takesOther 103 = .ok (.iload_n 3, 1) := by decide +kernel
theorem d_Mo_takesOther_104 : decode cX9_takesOther 104 = .ok (.aload_n 0, 1) := by decide +kernel
theorem d_Mo_takesOther_105 : decode cX9_takesOther 105 = .ok (.getfield 74, 3) := by decide +kernel
theorem d_Mo_takesOther_108 : decode cX9_takesOther 108 = .ok (.bipush 64, 2) := by decide +kernel
theorem d_Mo_takesOther_110 : decode cX9_takesOther 110 = .ok (.iload_n 3, 1) := by decide +kernel
theorem d_Mo_takesOther_111 : decode cX9_takesOther 111 = .ok (.iadd, 1) := by decide +kernel
theorem d_Mo_takesOther_112 : decode cX9_takesOther 112 = .ok (.iaload, 1) := by decide +kernel
theorem d_Mo_takesOther_113 : decode cX9_takesOther 113 = .ok (.iastore, 1) := by decide +kernel
theorem d_Mo_takesOther_114 : decode cX9_takesOther 114 = .ok (.iinc 3 1, 3) := by decide +kernel
theorem d_Mo_takesOther_117 : decode cX9_takesOther 117 = .ok (.goto (-25), 3) := by decide +kernel
theorem d_Mo_takesOther_120 : decode cX9_takesOther 120 = .ok (.aload_n 0, 1) := by decide +kernel
theorem d_Mo_takesOther_121 : decode cX9_takesOther 121 = .ok (.iload_n 2, 1) := by decide +kernel
theorem d_Mo_takesOther_122 : decode cX9_takesOther 122 = .ok (.putfield 318, 3) := by decide +kernel
theorem d_Mo_takesOther_125 : decode cX9_takesOther 125 = .ok (.return_, 1) := by decide +kernel
theorem d_Mo_text_0 : decode cX9_text 0 = .ok (.aload_n 0, 1) := by decide +kernel
theorem d_Mo_text_1 : decode cX9_text 1 = .ok (.iconst 0, 1) := by decide +kernel
theorem d_Mo_text_2 : decode cX9_text 2 = .ok (.putfield 140, 3) := by decide +kernel
theorem d_Mo_text_5 : decode cX9_text 5 = .ok (.aload_n 0, 1) := by decide +kernel
theorem d_Mo_text_6 : decode cX9_text 6 = .ok (.iconst 0, 1) := by decide +kernel
theorem d_Mo_text_7 : decode cX9_text 7 = .ok (.putfield 321, 3) := by decide +kernel
theorem d_Mo_text_10 : decode cX9_text 10 = .ok (.aload_n 0, 1) := by decide +kernel
theorem d_Mo_text_11 : decode cX9_text 11 = .ok (.iconst (-1), 1) := by decide +kernel
theorem d_Mo_text_12 : decode cX9_text 12 = .ok (.putfield 64, 3) := by decide +kernel
theorem d_Mo_text_15 : decode cX9_text 15 = .ok (.aload_n 0, 1) := by decide +kernel
theorem d_Mo_text_16 : decode cX9_text 16 = .ok (.iconst 0, 1) := by decide +kernel
theorem d_Mo_text_17 : decode cX9_text 17 = .ok (.putfield 186, 3) := by decide +kernel
theorem d_Mo_text_20 : decode cX9_text 20 = .ok (.aload_n 0, 1) := by decide +kernel
theorem d_Mo_text_21 : decode cX9_text 21 = .ok (.iconst 0, 1) := by decide +kernel
theorem d_Mo_text_22 : decode cX9_text 22 = .ok (.putfield 221, 3) := by decide +kernel
theorem d_Mo_text_25 : decode cX9_text 25 = .ok (.aload_n 0, 1) := by decide +kernel
theorem d_Mo_text_26 : decode cX9_text 26 = .ok (.iconst 0, 1) := by decide +kernel
theorem d_Mo_text_27 : decode cX9_text 27 = .ok (.putfield 253, 3) := by decide +kernel
theorem d_Mo_text_30 : decode cX9_text 30 = .ok (.iconst (-1), 1) := by decide +kernel
theorem d_Mo_text_31 : decode cX9_text 31 = .ok (.istore_n 2, 1) := by decide +kernel
theorem d_Mo_text_32 : decode cX9_text 32 = .ok (.aload_n 0, 1) := by decide +kernel
theorem d_Mo_text_33 : decode cX9_text 33 = .ok (.iload_n 1, 1) := by decide +kernel
theorem d_Mo_text_34 : decode cX9_text 34 = .ok (.iconst 0, 1) := by decide +kernel
theorem d_Mo_text_35 : decode cX9_text 35 = .ok (.iconst 3, 1) := by decide +kernel
theorem d_Mo_text_36 : decode cX9_text 36 = .ok (.invokevirtual 162, 3) := by decide +kernel
theorem d_Mo_text_39 : decode cX9_text 39 = .ok (.ifCond .eq 30, 3) := by decide +kernel
theorem d_Mo_text_42 : decode cX9_text 42 = .ok (.aload_n 0, 1) := by decide +kernel
theorem d_Mo_text_43 : decode cX9_text 43 = .ok (.iload_n 1, 1) := by decide +kernel
theorem d_Mo_text_44 : decode cX9_text 44 = .ok (.invokevirtual 324, 3) := by decide +kernel
theorem d_Mo_text_47 : decode cX9_text 47 = .ok (.istore_n 2, 1) := by decide +kernel
theorem d_Mo_text_48 : decode cX9_text 48 = .ok (.iload_n 2, 1) := by decide +kernel
theorem d_Mo_text_49 : decode cX9_text 49 = .ok (.iconst (-1), 1) := by decide +kernel
theorem d_Mo_text_50 : decode cX9_text 50 = .ok (.if_icmp .ne 19, 3) := by decide +kernel
theorem d_Mo_text_53 : decode cX9_text 53 = .ok (.aload_n 0, 1) := by decide +kernel
theorem d_Mo_text_54 : decode cX9_text 54 = .ok (.aload_n 0, 1) := by decide +kernel
theorem d_Mo_text_55 : decode cX9_text 55 = .ok (.getfield 215, 3) := by decide +kernel
theorem d_Mo_text_58 : decode cX9_text 58 = .ok (.putfield 321, 3) := by decide +kernel
theorem d_Mo_text_61 : decode cX9_text 61 = .ok (.aload_n 0, 1) := by decide +kernel
theorem d_Mo_text_62 : decode cX9_text 62 = .ok (.aload_n 0, 1) := by decide +kernel
theorem d_Mo_text_63 : decode cX9_text 63 = .ok (.getfield 218, 3) := by decide +kernel
theorem d_Mo_text_66 : decode cX9_text 66 = .ok (.putfield 64, 3) := by decide +kernel
theorem d_Mo_text_69 : decode cX9_text 69 = .ok (.aload_n 0, 1) := by decide +kernel
theorem d_Mo_text_70 : decode cX9_text 70 = .ok (.iconst 0, 1) := by decide +kernel
theorem d_Mo_text_71 : decode cX9_text 71 = .ok (.putfield 179, 3) := by decide +kernel
theorem d_Mo_text_74 : decode cX9_text 74 = .ok (.iload_n 2, 1) := by decide +kernel
theorem d_Mo_text_75 : decode cX9_text 75 = .ok (.iconst (-1), 1) := by decide +kernel
theorem d_Mo_text_76 : decode cX9_text 76 = .ok (.if_icmp .ne 5, 3) := by decide +kernel
theorem d_Mo_text_79 : decode cX9_text 79 = .ok (.iconst (-1), 1) := by decide +kernel
theorem d_Mo_text_80 : decode cX9_text 80 = .ok (.ireturn, 1) := by decide +kernel
theorem d_Mo_text_81 : decode cX9_text 81 = .ok (.iload_n 1, 1) := by decide +kernel
theorem d_Mo_text_82 : decode cX9_text 82 = .ok (.ifCond .ne 11, 3) := by decide +kernel
theorem d_Mo_text_85 : decode cX9_text 85 = .ok (.aload_n 0, 1) := by decide +kernel
theorem d_Mo_text_86 : decode cX9_text 86 = .ok (.iload_n 2, 1) := by decide +kernel
theorem d_Mo_text_87 : decode cX9_text 87 = .ok (.invokevirtual 327, 3) := by decide +kernel
theorem d_Mo_text_90 : decode cX9_text 90 = .ok (.goto 9, 3) := by decide +kernel
theorem d_Mo_text_93 : decode cX9_text 93 = .ok (.aload_n 0, 1) := by decide +kernel
theorem d_Mo_text_94 : decode cX9_text 94 = .ok (.iload_n 1, 1) := by decide +kernel
theorem d_Mo_text_95 : decode cX9_text 95 = .ok (.iload_n 2, 1) := by decide +kernel
theorem d_Mo_text_96 : decode cX9_text 96 = .ok (.invokevirtual 330, 3) := by decide +kernel
theorem d_Mo_text_99 : decode cX9_text 99 = .ok (.iload_n 2, 1) := by decide +kernel
theorem d_Mo_text_100 : decode cX9_text 100 = .ok (.ireturn, 1) := by decide +kernel
theorem d_Mo_fault_0 : decode cX9_fault 0 = .ok (.aload_n 0, 1) := by decide +kernel
theorem d_Mo_fault_1 : decode cX9_fault 1 = .ok (.iconst 0, 1) := by decide +kernel
theorem d_Mo_fault_2 : decode cX9_fault 2 = .ok (.putfield 140, 3) := by decide +kernel
theorem d_Mo_fault_5 : decode cX9_fault 5 = .ok (.iload_n 1, 1) := by decide +kernel
theorem d_Mo_fault_6 : decode cX9_fault 6 = .ok (.ifCond .ne 10, 3) := by decide +kernel
theorem d_Mo_fault_9 : decode cX9_fault 9 = .ok (.aload_n 0, 1) := by decide +kernel
theorem d_Mo_fault_10 : decode cX9_fault 10 = .ok (.getfield 321, 3) := by decide +kernel
theorem d_Mo_fault_13 : decode cX9_fault 13 = .ok (.goto 16, 3) := by decide +kernel
theorem d_Mo_fault_16 : decode cX9_fault 16 = .ok (.iload_n 1, 1) := by decide +kernel
theorem d_Mo_fault_17 : decode cX9_fault 17 = .ok (.iconst 1, 1) := by decide +kernel
theorem d_Mo_fault_18 : decode cX9_fault 18 = .ok (.if_icmp .ne 10, 3) := by decide +kernel
theorem d_Mo_fault_21 : decode cX9_fault 21 = .ok (.aload_n 0, 1) := by decide +kernel
theorem d_Mo_fault_22 : decode cX9_fault 22 = .ok (.getfield 64, 3) := by decide +kernel
theorem d_Mo_fault_25 : decode cX9_fault 25 = .ok (.goto 4, 3) := by decide +kernel
theorem d_Mo_fault_28 : decode cX9_fault 28 = .ok (.iconst (-1), 1) := by decide +kernel
theorem d_Mo_fault_29 : decode cX9_fault 29 = .ok (.ireturn, 1) := by decide +kernel
theorem d_Mo_keepsAhead_0 : decode cX9_keepsAhead 0 = .ok (.aload_n 0, 1) := by decide +kernel
theorem d_Mo_keepsAhead_1 : decode cX9_keepsAhead 1 = .ok (.getfield 143, 3) := by decide +kernel
theorem d_Mo_keepsAhead_4 : decode cX9_keepsAhead 4 = .ok (.bipush 6, 2) := by decide +kernel
theorem d_Mo_keepsAhead_6 : decode cX9_keepsAhead 6 = .ok (.if_icmp .ne 47, 3) := by decide +kernel
theorem d_Mo_keepsAhead_9 : decode cX9_keepsAhead 9 = .ok (.aload_n 0, 1) := by decide +kernel
theorem d_Mo_keepsAhead_10 : decode cX9_keepsAhead 10 = .ok (.aload_n 0, 1) := by decide +kernel
theorem d_Mo_keepsAhead_11 : decode cX9_keepsAhead 11 = .ok (.getfield 143, 3) := by decide +kernel
theorem d_Mo_keepsAhead_14 : decode cX9_keepsAhead 14 = .ok (.iconst 1, 1) := by decide +kernel
theorem d_Mo_keepsAhead_15 : decode cX9_keepsAhead 15 = .ok (.isub, 1) := by decide +kernel
theorem d_Mo_keepsAhead_16 : decode cX9_keepsAhead 16 = .ok (.putfield 143, 3) := by decide +kernel
theorem d_Mo_keepsAhead_19 : decode cX9_keepsAhead 19 = .ok (.iconst 0, 1) := by decide +kernel
theorem d_Mo_keepsAhead_20 : decode cX9_keepsAhead 20 = .ok (.istore_n 1, 1) := by decide +kernel
theorem d_Mo_keepsAhead_21 : decode cX9_keepsAhead 21 = .ok (.iload_n 1, 1) := by decide +kernel
theorem d_Mo_keepsAhead_22 : decode cX9_keepsAhead 22 = .ok (.bipush 79, 2) := by decide +kernel
theorem d_Mo_keepsAhead_24 : decode cX9_keepsAhead 24 = .ok (.aload_n 0, 1) := by decide +kernel
theorem d_Mo_keepsAhead_25 : decode cX9_keepsAhead 25 = .ok (.getfield 143, 3) := by decide +kernel
theorem d_Mo_keepsAhead_28 : decode cX9_keepsAhead 28 = .ok (.imul, 1) := by decide +kernel
theorem d_Mo_keepsAhead_29 : decode cX9_keepsAhead 29 = .ok (.if_icmp .ge 24, 3) := by decide +kernel
theorem d_Mo_keepsAhead_32 : decode cX9_keepsAhead 32 = .ok (.aload_n 0, 1) := by decide +kernel
theorem d_Mo_keepsAhead_33 : decode cX9_keepsAhead 33 = .ok (.getfield 13, 3) := by decide +kernel
theorem d_Mo_keepsAhead_36 : decode cX9_keepsAhead 36 = .ok (.iload_n 1, 1) := by decide +kernel
theorem d_Mo_keepsAhead_37 : decode cX9_keepsAhead 37 = .ok (.aload_n 0, 1) := by decide +kernel
theorem d_Mo_keepsAhead_38 : decode cX9_keepsAhead 38 = .ok (.getfield 13, 3) := by decide +kernel
theorem d_Mo_keepsAhead_41 : decode cX9_keepsAhead 41 = .ok (.iload_n 1, 1) := by decide +kernel
theorem d_Mo_keepsAhead_42 : decode cX9_keepsAhead 42 = .ok (.bipush 79, 2) := by decide +kernel
theorem d_Mo_keepsAhead_44 : decode cX9_keepsAhead 44 = .ok (.iadd, 1) := by decide +kernel
theorem d_Mo_keepsAhead_45 : decode cX9_keepsAhead 45 = .ok (.iaload, 1) := by decide +kernel
theorem d_Mo_keepsAhead_46 : decode cX9_keepsAhead 46 = .ok (.iastore, 1) := by decide +kernel
theorem d_Mo_keepsAhead_47 : decode cX9_keepsAhead 47 = .ok (.iinc 1 1, 3) := by decide +kernel
theorem d_Mo_keepsAhead_50 : decode cX9_keepsAhead 50 = .ok (.goto (-29), 3) := by decide +kernel
theorem d_Mo_keepsAhead_53 : decode cX9_keepsAhead 53 = .ok (.iconst 0, 1) := by decide +kernel
theorem d_Mo_keepsAhead_54 : decode cX9_keepsAhead 54 = .ok (.istore_n 1, 1) := by decide +kernel
theorem d_Mo_keepsAhead_55 : decode cX9_keepsAhead 55 = .ok (.iload_n 1, 1) := by decide +kernel
theorem d_Mo_keepsAhead_56 : decode cX9_keepsAhead 56 = .ok (.bipush 79, 2) := by decide +kernel
theorem d_Mo_keepsAhead_58 : decode cX9_keepsAhead 58 = .ok (.if_icmp .ge 29, 3) := by decide +kernel
theorem d_Mo_keepsAhead_61 : decode cX9_keepsAhead 61 = .ok (.aload_n 0, 1) := by decide +kernel
theorem d_Mo_keepsAhead_62 : decode cX9_keepsAhead 62 = .ok (.getfield 13, 3) := by decide +kernel
theorem d_Mo_keepsAhead_65 : decode cX9_keepsAhead 65 = .ok (.bipush 79, 2) := by decide +kernel
theorem d_Mo_keepsAhead_67 : decode cX9_keepsAhead 67 = .ok (.aload_n 0, 1) := by decide +kernel
theorem d_Mo_keepsAhead_68 : decode cX9_keepsAhead 68 = .ok (.getfield 143, 3) := by decide +kernel
theorem d_Mo_keepsAhead_71 : decode cX9_keepsAhead 71 = .ok (.imul, 1) := by decide +kernel
theorem d_Mo_keepsAhead_72 : decode cX9_keepsAhead 72 = .ok (.iload_n 1, 1) := by decide +kernel
theorem d_Mo_keepsAhead_73 : decode cX9_keepsAhead 73 = .ok (.iadd, 1) := by decide +kernel
theorem d_Mo_keepsAhead_74 : decode cX9_keepsAhead 74 = .ok (.aload_n 0, 1) := by decide +kernel
theorem d_Mo_keepsAhead_75 : decode cX9_keepsAhead 75 = .ok (.getfield 7, 3) := by decide +kernel
theorem d_Mo_keepsAhead_78 : decode cX9_keepsAhead 78 = .ok (.iload_n 1, 1) := by decide +kernel
theorem d_Mo_keepsAhead_79 : decode cX9_keepsAhead 79 = .ok (.iaload, 1) := by decide +kernel
theorem d_Mo_keepsAhead_80 : decode cX9_keepsAhead 80 = .ok (.iastore, 1) := by decide +kernel
theorem d_Mo_keepsAhead_81 : decode cX9_keepsAhead 81 = .ok (.iinc 1 1, 3) := by decide +kernel
theorem d_Mo_keepsAhead_84 : decode cX9_keepsAhead 84 = .ok (.goto (-29), 3) := by decide +kernel
theorem d_Mo_keepsAhead_87 : decode cX9_keepsAhead 87 = .ok (.aload_n 0, 1) := by decide +kernel
theorem d_Mo_keepsAhead_88 : decode cX9_keepsAhead 88 = .ok (.aload_n 0, 1) := by decide +kernel
theorem d_Mo_keepsAhead_89 : decode cX9_keepsAhead 89 = .ok (.getfield 143, 3) := by decide +kernel
theorem d_Mo_keepsAhead_92 : decode cX9_keepsAhead 92 = .ok (.iconst 1, 1) := by decide +kernel
theorem d_Mo_keepsAhead_93 : decode cX9_keepsAhead 93 = .ok (.iadd, 1) := by decide +kernel
theorem d_Mo_keepsAhead_94 : decode cX9_keepsAhead 94 = .ok (.putfield 143, 3) := by decide +kernel
theorem d_Mo_keepsAhead_97 : decode cX9_keepsAhead 97 = .ok (.return_, 1) := by decide +kernel
theorem d_Mo_greater_0 : decode cX9_greater 0 = .ok (.iload_n 1, 1) := by decide +kernel
theorem d_Mo_greater_1 : decode cX9_greater 1 = .ok (.iload_n 2, 1) := by decide +kernel
theorem d_Mo_greater_2 : decode cX9_greater 2 = .ok (.if_icmp .le 7, 3) := by decide +kernel
theorem d_Mo_greater_5 : decode cX9_greater 5 = .ok (.iload_n 1, 1) := by decide +kernel
theorem d_Mo_greater_6 : decode cX9_greater 6 = .ok (.goto 4, 3) := by decide +kernel
theorem d_Mo_greater_9 : decode cX9_greater 9 = .ok (.iload_n 2, 1) := by decide +kernel
theorem d_Mo_greater_10 : decode cX9_greater 10 = .ok (.ireturn, 1) := by decide +kernel
theorem d_Mo_outSet_0 : decode cX9_outSet 0 = .ok (.iconst 0, 1) := by decide +kernel
theorem d_Mo_outSet_1 : decode cX9_outSet 1 = .ok (.istore_n 1, 1) := by decide +kernel
theorem d_Mo_outSet_2 : decode cX9_outSet 2 = .ok (.iconst 0, 1) := by decide +kernel
theorem d_Mo_outSet_3 : decode cX9_outSet 3 = .ok (.istore_n 2, 1) := by decide +kernel
theorem d_Mo_outSet_4 : decode cX9_outSet 4 = .ok (.iload_n 2, 1) := by decide +kernel
theorem d_Mo_outSet_5 : decode cX9_outSet 5 = .ok (.aload_n 0, 1) := by decide +kernel
theorem d_Mo_outSet_6 : decode cX9_outSet 6 = .ok (.getfield 152, 3) := by decide +kernel
theorem d_Mo_outSet_9 : decode cX9_outSet 9 = .ok (.if_icmp .ge 28, 3) := by decide +kernel
theorem d_Mo_outSet_12 : decode cX9_outSet 12 = .ok (.aload_n 0, 1) := by decide +kernel
theorem d_Mo_outSet_13 : decode cX9_outSet 13 = .ok (.getfield 7, 3) := by decide +kernel
theorem d_Mo_outSet_16 : decode cX9_outSet 16 = .ok (.bipush 43, 2) := by decide +kernel
theorem d_Mo_outSet_18 : decode cX9_outSet 18 = .ok (.iload_n 2, 1) := by decide +kernel
theorem d_Mo_outSet_19 : decode cX9_outSet 19 = .ok (.iadd, 1) := by decide +kernel
theorem d_Mo_outSet_20 : decode cX9_outSet 20 = .ok (.iaload, 1) := by decide +kernel
theorem d_Mo_outSet_21 : decode cX9_outSet 21 = .ok (.iconst 1, 1) := by decide +kernel
theorem d_Mo_outSet_22 : decode cX9_outSet 22 = .ok (.if_icmp .ne 9, 3) := by decide +kernel
theorem d_Mo_outSet_25 : decode cX9_outSet 25 = .ok (.iload_n 1, 1) := by decide +kernel
theorem d_Mo_outSet_26 : decode cX9_outSet 26 = .ok (.iconst 1, 1) := by decide +kernel
theorem d_Mo_outSet_27 : decode cX9_outSet 27 = .ok (.iload_n 2, 1) := by decide +kernel
theorem d_Mo_outSet_28 : decode cX9_outSet 28 = .ok (.ishl, 1) := by decide +kernel
theorem d_Mo_outSet_29 : decode cX9_outSet 29 = .ok (.ior, 1) := by decide +kernel
theorem d_Mo_outSet_30 : decode cX9_outSet 30 = .ok (.istore_n 1, 1) := by decide +kernel
theorem d_Mo_outSet_31 : decode cX9_outSet 31 = .ok (.iinc 2 1, 3) := by decide +kernel
theorem d_Mo_outSet_34 : decode cX9_outSet 34 = .ok (.goto (-30), 3) := by decide +kernel
theorem d_Mo_outSet_37 : decode cX9_outSet 37 = .ok (.iload_n 1, 1) := by decide +kernel
theorem d_Mo_outSet_38 : decode cX9_outSet 38 = .ok (.ireturn, 1) := by decide +kernel
theorem d_Mo_onesOf_0 : decode cX9_onesOf 0 = .ok (.iconst 0, 1) := by decide +kernel
theorem d_Mo_onesOf_1 : decode cX9_onesOf 1 = .ok (.istore_n 2, 1) := by decide +kernel
theorem d_Mo_onesOf_2 : decode cX9_onesOf 2 = .ok (.iload_n 1, 1) := by decide +kernel
theorem d_Mo_onesOf_3 : decode cX9_onesOf 3 = .ok (.istore_n 3, 1) := by decide +kernel
theorem d_Mo_onesOf_4 : decode cX9_onesOf 4 = .ok (.iload_n 3, 1) := by decide +kernel
theorem d_Mo_onesOf_5 : decode cX9_onesOf 5 = .ok (.ifCond .eq 16, 3) := by decide +kernel
theorem d_Mo_onesOf_8 : decode cX9_onesOf 8 = .ok (.iload_n 2, 1) := by decide +kernel
theorem d_Mo_onesOf_9 : decode cX9_onesOf 9 = .ok (.iconst 1, 1) := by decide +kernel
theorem d_Mo_onesOf_10 : decode cX9_onesOf 10 = .ok (.iadd, 1) := by decide +kernel
theorem d_Mo_onesOf_11 : decode cX9_onesOf 11 = .ok (.istore_n 2, 1) := by decide +kernel
theorem d_Mo_onesOf_12 : decode cX9_onesOf 12 = .ok (.iload_n 3, 1) := by decide +kernel
theorem d_Mo_onesOf_13 : decode cX9_onesOf 13 = .ok (.iload_n 3, 1) := by decide +kernel
theorem d_Mo_onesOf_14 : decode cX9_onesOf 14 = .ok (.iconst 1, 1) := by decide +kernel
theorem d_Mo_onesOf_15 : decode cX9_onesOf 15 = .ok (.isub, 1) := by decide +kernel
theorem d_Mo_onesOf_16 : decode cX9_onesOf 16 = .ok (.iand, 1) := by decide +kernel
theorem d_Mo_onesOf_17 : decode cX9_onesOf 17 = .ok (.istore_n 3, 1) := by decide +kernel
theorem d_Mo_onesOf_18 : decode cX9_onesOf 18 = .ok (.goto (-14), 3) := by decide +kernel
theorem d_Mo_onesOf_21 : decode cX9_onesOf 21 = .ok (.iload_n 2, 1) := by decide +kernel
theorem d_Mo_onesOf_22 : decode cX9_onesOf 22 = .ok (.ireturn, 1) := by decide +kernel
theorem d_Mo_asks_0 : decode cX9_asks 0 = .ok (.aload_n 0, 1) := by decide +kernel
theorem d_Mo_asks_1 : decode cX9_asks 1 = .ok (.getfield 77, 3) := by decide +kernel
theorem d_Mo_asks_4 : decode cX9_asks 4 = .ok (.iconst 0, 1) := by decide +kernel
theorem d_Mo_asks_5 : decode cX9_asks 5 = .ok (.aload_n 0, 1) := by decide +kernel
theorem d_Mo_asks_6 : decode cX9_asks 6 = .ok (.getfield 19, 3) := by decide +kernel
theorem d_Mo_asks_9 : decode cX9_asks 9 = .ok (.iload_n 1, 1) := by decide +kernel
theorem d_Mo_asks_10 : decode cX9_asks 10 = .ok (.iaload, 1) := by decide +kernel
theorem d_Mo_asks_11 : decode cX9_asks 11 = .ok (.iastore, 1) := by decide +kernel
theorem d_Mo_asks_12 : decode cX9_asks 12 = .ok (.aload_n 0, 1) := by decide +kernel
theorem d_Mo_asks_13 : decode cX9_asks 13 = .ok (.getfield 77, 3) := by decide +kernel
theorem d_Mo_asks_16 : decode cX9_asks 16 = .ok (.iconst 1, 1) := by decide +kernel
theorem d_Mo_asks_17 : decode cX9_asks 17 = .ok (.aload_n 0, 1) := by decide +kernel
theorem d_Mo_asks_18 : decode cX9_asks 18 = .ok (.getfield 22, 3) := by decide +kernel
theorem d_Mo_asks_21 : decode cX9_asks 21 = .ok (.iload_n 1, 1) := by decide +kernel
theorem d_Mo_asks_22 : decode cX9_asks 22 = .ok (.iaload, 1) := by decide +kernel
theorem d_Mo_asks_23 : decode cX9_asks 23 = .ok (.iastore, 1) := by decide +kernel
theorem d_Mo_asks_24 : decode cX9_asks 24 = .ok (.aload_n 0, 1) := by decide +kernel
theorem d_Mo_asks_25 : decode cX9_asks 25 = .ok (.getfield 77, 3) := by decide +kernel
theorem d_Mo_asks_28 : decode cX9_asks 28 = .ok (.iconst 2, 1) := by decide +kernel
theorem d_Mo_asks_29 : decode cX9_asks 29 = .ok (.aload_n 0, 1) := by decide +kernel
theorem d_Mo_asks_30 : decode cX9_asks 30 = .ok (.getfield 7, 3) := by decide +kernel
theorem d_Mo_asks_33 : decode cX9_asks 33 = .ok (.bipush 19, 2) := by decide +kernel
theorem d_Mo_asks_35 : decode cX9_asks 35 = .ok (.iload_n 1, 1) := by decide +kernel
theorem d_Mo_asks_36 : decode cX9_asks 36 = .ok (.iadd, 1) := by decide +kernel
theorem d_Mo_asks_37 : decode cX9_asks 37 = .ok (.iaload, 1) := by decide +kernel
theorem d_Mo_asks_38 : decode cX9_asks 38 = .ok (.iastore, 1) := by decide +kernel
theorem d_Mo_asks_39 : decode cX9_asks 39 = .ok (.aload_n 0, 1) := by decide +kernel
theorem d_Mo_asks_40 : decode cX9_asks 40 = .ok (.getfield 77, 3) := by decide +kernel
theorem d_Mo_asks_43 : decode cX9_asks 43 = .ok (.iconst 3, 1) := by decide +kernel
theorem d_Mo_asks_44 : decode cX9_asks 44 = .ok (.aload_n 0, 1) := by decide +kernel
theorem d_Mo_asks_45 : decode cX9_asks 45 = .ok (.getfield 7, 3) := by decide +kernel
theorem d_Mo_asks_48 : decode cX9_asks 48 = .ok (.bipush 7, 2) := by decide +kernel
theorem d_Mo_asks_50 : decode cX9_asks 50 = .ok (.iload_n 1, 1) := by decide +kernel
theorem d_Mo_asks_51 : decode cX9_asks 51 = .ok (.iadd, 1) := by decide +kernel
theorem d_Mo_asks_52 : decode cX9_asks 52 = .ok (.iaload, 1) := by decide +kernel
theorem d_Mo_asks_53 : decode cX9_asks 53 = .ok (.iastore, 1) := by decide +kernel
theorem d_Mo_asks_54 : decode cX9_asks 54 = .ok (.aload_n 0, 1) := by decide +kernel
theorem d_Mo_asks_55 : decode cX9_asks 55 = .ok (.getfield 77, 3) := by decide +kernel
theorem d_Mo_asks_58 : decode cX9_asks 58 = .ok (.iconst 4, 1) := by decide +kernel
theorem d_Mo_asks_59 : decode cX9_asks 59 = .ok (.aload_n 0, 1) := by decide +kernel
theorem d_Mo_asks_60 : decode cX9_asks 60 = .ok (.getfield 7, 3) := by decide +kernel
theorem d_Mo_asks_63 : decode cX9_asks 63 = .ok (.iconst 0, 1) := by decide +kernel
theorem d_Mo_asks_64 : decode cX9_asks 64 = .ok (.iaload, 1) := by decide +kernel
theorem d_Mo_asks_65 : decode cX9_asks 65 = .ok (.bipush 24, 2) := by decide +kernel
theorem d_Mo_asks_67 : decode cX9_asks 67 = .ok (.irem, 1) := by decide +kernel
theorem d_Mo_asks_68 : decode cX9_asks 68 = .ok (.iastore, 1) := by decide +kernel
theorem d_Mo_asks_69 : decode cX9_asks 69 = .ok (.aload_n 0, 1) := by decide +kernel
theorem d_Mo_asks_70 : decode cX9_asks 70 = .ok (.getfield 77, 3) := by decide +kernel
theorem d_Mo_asks_73 : decode cX9_asks 73 = .ok (.iconst 5, 1) := by decide +kernel
theorem d_Mo_asks_74 : decode cX9_asks 74 = .ok (.aload_n 0, 1) := by decide +kernel
theorem d_Mo_asks_75 : decode cX9_asks 75 = .ok (.iconst 0, 1) := by decide +kernel
theorem d_Mo_asks_76 : decode cX9_asks 76 = .ok (.aload_n 0, 1) := by decide +kernel
theorem d_Mo_asks_77 : decode cX9_asks 77 = .ok (.getfield 7, 3) := by decide +kernel
theorem d_Mo_asks_80 : decode cX9_asks 80 = .ok (.bipush 31, 2) := by decide +kernel
theorem d_Mo_asks_82 : decode cX9_asks 82 = .ok (.iload_n 1, 1) := by decide +kernel
theorem d_Mo_asks_83 : decode cX9_asks 83 = .ok (.iadd, 1) := by decide +kernel
theorem d_Mo_asks_84 : decode cX9_asks 84 = .ok (.iaload, 1) := by decide +kernel
theorem d_Mo_asks_85 : decode cX9_asks 85 = .ok (.iconst 1, 1) := by decide +kernel
theorem d_Mo_asks_86 : decode cX9_asks 86 = .ok (.isub, 1) := by decide +kernel
theorem d_Mo_asks_87 : decode cX9_asks 87 = .ok (.invokevirtual 339, 3) := by decide +kernel
theorem d_Mo_asks_90 : decode cX9_asks 90 = .ok (.iastore, 1) := by decide +kernel
theorem d_Mo_asks_91 : decode cX9_asks 91 = .ok (.aload_n 0, 1) := by decide +kernel
theorem d_Mo_asks_92 : decode cX9_asks 92 = .ok (.getfield 77, 3) := by decide +kernel
theorem d_Mo_asks_95 : decode cX9_asks 95 = .ok (.bipush 6, 2) := by decide +kernel
theorem d_Mo_asks_97 : decode cX9_asks 97 = .ok (.iload_n 2, 1) := by decide +kernel
theorem d_Mo_asks_98 : decode cX9_asks 98 = .ok (.iconst (-1), 1) := by decide +kernel
theorem d_Mo_asks_99 : decode cX9_asks 99 = .ok (.if_icmp .ne 7, 3) := by decide +kernel
theorem d_Mo_asks_102 : decode cX9_asks 102 = .ok (.iconst 0, 1) := by decide +kernel
theorem d_Mo_asks_103 : decode cX9_asks 103 = .ok (.goto 9, 3) := by decide +kernel
theorem d_Mo_asks_106 : decode cX9_asks 106 = .ok (.aload_n 0, 1) := by decide +kernel
theorem d_Mo_asks_107 : decode cX9_asks 107 = .ok (.getfield 25, 3) := by decide +kernel
theorem d_Mo_asks_110 : decode cX9_asks 110 = .ok (.iload_n 2, 1) := by decide +kernel
theorem d_Mo_asks_111 : decode cX9_asks 111 = .ok (.iaload, 1) := by decide +kernel
theorem d_Mo_asks_112 : decode cX9_asks 112 = .ok (.iastore, 1) := by decide +kernel
theorem d_Mo_asks_113 : decode cX9_asks 113 = .ok (.aload_n 0, 1) := by decide +kernel
theorem d_Mo_asks_114 : decode cX9_asks 114 = .ok (.getfield 77, 3) := by decide +kernel
theorem d_Mo_asks_117 : decode cX9_asks 117 = .ok (.bipush 7, 2) := by decide +kernel
theorem d_Mo_asks_119 : decode cX9_asks 119 = .ok (.iload_n 2, 1) := by decide +kernel
theorem d_Mo_asks_120 : decode cX9_asks 120 = .ok (.iconst (-1), 1) := by decide +kernel
theorem d_Mo_asks_121 : decode cX9_asks 121 = .ok (.if_icmp .ne 7, 3) := by decide +kernel
theorem d_Mo_asks_124 : decode cX9_asks 124 = .ok (.iconst 0, 1) := by decide +kernel
theorem d_Mo_asks_125 : decode cX9_asks 125 = .ok (.goto 9, 3) := by decide +kernel
theorem d_Mo_asks_128 : decode cX9_asks 128 = .ok (.aload_n 0, 1) := by decide +kernel
theorem d_Mo_asks_129 : decode cX9_asks 129 = .ok (.getfield 28, 3) := by decide +kernel
theorem d_Mo_asks_132 : decode cX9_asks 132 = .ok (.iload_n 2, 1) := by decide +kernel
theorem d_Mo_asks_133 : decode cX9_asks 133 = .ok (.iaload, 1) := by decide +kernel
theorem d_Mo_asks_134 : decode cX9_asks 134 = .ok (.iastore, 1) := by decide +kernel
theorem d_Mo_asks_135 : decode cX9_asks 135 = .ok (.aload_n 0, 1) := by decide +kernel
theorem d_Mo_asks_136 : decode cX9_asks 136 = .ok (.getfield 77, 3) := by decide +kernel
theorem d_Mo_asks_139 : decode cX9_asks 139 = .ok (.bipush 8, 2) := by decide +kernel
theorem d_Mo_asks_141 : decode cX9_asks 141 = .ok (.iload_n 2, 1) := by decide +kernel
theorem d_Mo_asks_142 : decode cX9_asks 142 = .ok (.iconst (-1), 1) := by decide +kernel
theorem d_Mo_asks_143 : decode cX9_asks 143 = .ok (.if_icmp .ne 7, 3) := by decide +kernel
theorem d_Mo_asks_146 : decode cX9_asks 146 = .ok (.iconst 0, 1) := by decide +kernel
theorem d_Mo_asks_147 : decode cX9_asks 147 = .ok (.goto 12, 3) := by decide +kernel
theorem d_Mo_asks_150 : decode cX9_asks 150 = .ok (.aload_n 0, 1) := by decide +kernel
theorem d_Mo_asks_151 : decode cX9_asks 151 = .ok (.getfield 7, 3) := by decide +kernel
theorem d_Mo_asks_154 : decode cX9_asks 154 = .ok (.bipush 73, 2) := by decide +kernel
theorem d_Mo_asks_156 : decode cX9_asks 156 = .ok (.iload_n 2, 1) := by decide +kernel
theorem d_Mo_asks_157 : decode cX9_asks 157 = .ok (.iadd, 1) := by decide +kernel
theorem d_Mo_asks_158 : decode cX9_asks 158 = .ok (.iaload, 1) := by decide +kernel
theorem d_Mo_asks_159 : decode cX9_asks 159 = .ok (.iastore, 1) := by decide +kernel
theorem d_Mo_asks_160 : decode cX9_asks 160 = .ok (.aload_n 0, 1) := by decide +kernel
theorem d_Mo_asks_161 : decode cX9_asks 161 = .ok (.getfield 77, 3) := by decide +kernel
theorem d_Mo_asks_164 : decode cX9_asks 164 = .ok (.bipush 9, 2) := by decide +kernel
theorem d_Mo_asks_166 : decode cX9_asks 166 = .ok (.aload_n 0, 1) := by decide +kernel
theorem d_Mo_asks_167 : decode cX9_asks 167 = .ok (.aload_n 0, 1) := by decide +kernel
theorem d_Mo_asks_168 : decode cX9_asks 168 = .ok (.getfield 68, 3) := by decide +kernel
theorem d_Mo_asks_171 : decode cX9_asks 171 = .ok (.iload_n 1, 1) := by decide +kernel
theorem d_Mo_asks_172 : decode cX9_asks 172 = .ok (.iaload, 1) := by decide +kernel
theorem d_Mo_asks_173 : decode cX9_asks 173 = .ok (.aload_n 0, 1) := by decide +kernel
theorem d_Mo_asks_174 : decode cX9_asks 174 = .ok (.invokevirtual 342, 3) := by decide +kernel
theorem d_Mo_asks_177 : decode cX9_asks 177 = .ok (.iand, 1) := by decide +kernel
theorem d_Mo_asks_178 : decode cX9_asks 178 = .ok (.invokevirtual 345, 3) := by decide +kernel
theorem d_Mo_asks_181 : decode cX9_asks 181 = .ok (.iastore, 1) := by decide +kernel
theorem d_Mo_asks_182 : decode cX9_asks 182 = .ok (.return_, 1) := by decide +kernel
theorem d_Mo_twoOf_0 : decode cX9_twoOf 0 = .ok (.iload_n 1, 1) := by decide +kernel
theorem d_Mo_twoOf_1 : decode cX9_twoOf 1 = .ok (.iconst 2, 1) := by decide +kernel
theorem d_Mo_twoOf_2 : decode cX9_twoOf 2 = .ok (.if_icmp .ne 7, 3) := by decide +kernel
theorem d_Mo_twoOf_5 : decode cX9_twoOf 5 = .ok (.iload_n 2, 1) := by decide +kernel
theorem d_Mo_twoOf_6 : decode cX9_twoOf 6 = .ok (.iload_n 3, 1) := by decide +kernel
theorem d_Mo_twoOf_7 : decode cX9_twoOf 7 = .ok (.iadd, 1) := by decide +kernel
theorem d_Mo_twoOf_8 : decode cX9_twoOf 8 = .ok (.ireturn, 1) := by decide +kernel
theorem d_Mo_twoOf_9 : decode cX9_twoOf 9 = .ok (.iload_n 1, 1) := by decide +kernel
theorem d_Mo_twoOf_10 : decode cX9_twoOf 10 = .ok (.iconst 3, 1) := by decide +kernel
theorem d_Mo_twoOf_11 : decode cX9_twoOf 11 = .ok (.if_icmp .ne 7, 3) := by decide +kernel
theorem d_Mo_twoOf_14 : decode cX9_twoOf 14 = .ok (.iload_n 2, 1) := by decide +kernel
theorem d_Mo_twoOf_15 : decode cX9_twoOf 15 = .ok (.iload_n 3, 1) := by decide +kernel
theorem d_Mo_twoOf_16 : decode cX9_twoOf 16 = .ok (.isub, 1) := by decide +kernel
theorem d_Mo_twoOf_17 : decode cX9_twoOf 17 = .ok (.ireturn, 1) := by decide +kernel
theorem d_Mo_twoOf_18 : decode cX9_twoOf 18 = .ok (.iload_n 1, 1) := by decide +kernel
theorem d_Mo_twoOf_19 : decode cX9_twoOf 19 = .ok (.iconst 4, 1) := by decide +kernel
theorem d_Mo_twoOf_20 : decode cX9_twoOf 20 = .ok (.if_icmp .ne 7, 3) := by decide +kernel
theorem d_Mo_twoOf_23 : decode cX9_twoOf 23 = .ok (.iload_n 2, 1) := by decide +kernel
theorem d_Mo_twoOf_24 : decode cX9_twoOf 24 = .ok (.iload_n 3, 1) := by decide +kernel
theorem d_Mo_twoOf_25 : decode cX9_twoOf 25 = .ok (.imul, 1) := by decide +kernel
theorem d_Mo_twoOf_26 : decode cX9_twoOf 26 = .ok (.ireturn, 1) := by decide +kernel
theorem d_Mo_twoOf_27 : decode cX9_twoOf 27 = .ok (.iload_n 1, 1) := by decide +kernel
theorem d_Mo_twoOf_28 : decode cX9_twoOf 28 = .ok (.iconst 5, 1) := by decide +kernel
theorem d_Mo_twoOf_29 : decode cX9_twoOf 29 = .ok (.if_icmp .ne 7, 3) := by decide +kernel
theorem d_Mo_twoOf_32 : decode cX9_twoOf 32 = .ok (.iload_n 2, 1) := by decide +kernel
theorem d_Mo_twoOf_33 : decode cX9_twoOf 33 = .ok (.iload_n 3, 1) := by decide +kernel
theorem d_Mo_twoOf_34 : decode cX9_twoOf 34 = .ok (.idiv, 1) := by decide +kernel
theorem d_Mo_twoOf_35 : decode cX9_twoOf 35 = .ok (.ireturn, 1) := by decide +kernel
theorem d_Mo_twoOf_36 : decode cX9_twoOf 36 = .ok (.iload_n 1, 1) := by decide +kernel
theorem d_Mo_twoOf_37 : decode cX9_twoOf 37 = .ok (.bipush 6, 2) := by decide +kernel
theorem d_Mo_twoOf_39 : decode cX9_twoOf 39 = .ok (.if_icmp .ne 14, 3) := by decide +kernel
theorem d_Mo_twoOf_42 : decode cX9_twoOf 42 = .ok (.iload_n 2, 1) := by decide +kernel
theorem d_Mo_twoOf_43 : decode cX9_twoOf 43 = .ok (.iload_n 3, 1) := by decide +kernel
theorem d_Mo_twoOf_44 : decode cX9_twoOf 44 = .ok (.if_icmp .ge 7, 3) := by decide +kernel
theorem d_Mo_twoOf_47 : decode cX9_twoOf 47 = .ok (.iconst 1, 1) := by decide +kernel
theorem d_Mo_twoOf_48 : decode cX9_twoOf 48 = .ok (.goto 4, 3) := by decide +kernel
theorem d_Mo_twoOf_51 : decode cX9_twoOf 51 = .ok (.iconst 0, 1) := by decide +kernel
theorem d_Mo_twoOf_52 : decode cX9_twoOf 52 = .ok (.ireturn, 1) := by decide +kernel
theorem d_Mo_twoOf_53 : decode cX9_twoOf 53 = .ok (.iload_n 1, 1) := by decide +kernel
theorem d_Mo_twoOf_54 : decode cX9_twoOf 54 = .ok (.bipush 7, 2) := by decide +kernel
theorem d_Mo_twoOf_56 : decode cX9_twoOf 56 = .ok (.if_icmp .ne 14, 3) := by decide +kernel
theorem d_Mo_twoOf_59 : decode cX9_twoOf 59 = .ok (.iload_n 2, 1) := by decide +kernel
theorem d_Mo_twoOf_60 : decode cX9_twoOf 60 = .ok (.iload_n 3, 1) := by decide +kernel
theorem d_Mo_twoOf_61 : decode cX9_twoOf 61 = .ok (.if_icmp .ne 7, 3) := by decide +kernel
theorem d_Mo_twoOf_64 : decode cX9_twoOf 64 = .ok (.iconst 1, 1) := by decide +kernel
theorem d_Mo_twoOf_65 : decode cX9_twoOf 65 = .ok (.goto 4, 3) := by decide +kernel
theorem d_Mo_twoOf_68 : decode cX9_twoOf 68 = .ok (.iconst 0, 1) := by decide +kernel
theorem d_Mo_twoOf_69 : decode cX9_twoOf 69 = .ok (.ireturn, 1) := by decide +kernel
theorem d_Mo_twoOf_70 : decode cX9_twoOf 70 = .ok (.iload_n 1, 1) := by decide +kernel
theorem d_Mo_twoOf_71 : decode cX9_twoOf 71 = .ok (.bipush 8, 2) := by decide +kernel
theorem d_Mo_twoOf_73 : decode cX9_twoOf 73 = .ok (.if_icmp .ne 14, 3) := by decide +kernel
theorem d_Mo_twoOf_76 : decode cX9_twoOf 76 = .ok (.iload_n 2, 1) := by decide +kernel
theorem d_Mo_twoOf_77 : decode cX9_twoOf 77 = .ok (.iload_n 3, 1) := by decide +kernel
theorem d_Mo_twoOf_78 : decode cX9_twoOf 78 = .ok (.if_icmp .le 7, 3) := by decide +kernel
theorem d_Mo_twoOf_81 : decode cX9_twoOf 81 = .ok (.iconst 1, 1) := by decide +kernel
theorem d_Mo_twoOf_82 : decode cX9_twoOf 82 = .ok (.goto 4, 3) := by decide +kernel
theorem d_Mo_twoOf_85 : decode cX9_twoOf 85 = .ok (.iconst 0, 1) := by decide +kernel
theorem d_Mo_twoOf_86 : decode cX9_twoOf 86 = .ok (.ireturn, 1) := by decide +kernel
theorem d_Mo_twoOf_87 : decode cX9_twoOf 87 = .ok (.iload_n 1, 1) := by decide +kernel
theorem d_Mo_twoOf_88 : decode cX9_twoOf 88 = .ok (.bipush 10, 2) := by decide +kernel
theorem d_Mo_twoOf_90 : decode cX9_twoOf 90 = .ok (.if_icmp .ne 9, 3) := by decide +kernel
theorem d_Mo_twoOf_93 : decode cX9_twoOf 93 = .ok (.iload_n 2, 1) := by decide +kernel
theorem d_Mo_twoOf_94 : decode cX9_twoOf 94 = .ok (.iload_n 3, 1) := by decide +kernel
theorem d_Mo_twoOf_95 : decode cX9_twoOf 95 = .ok (.imul, 1) := by decide +kernel
theorem d_Mo_twoOf_96 : decode cX9_twoOf 96 = .ok (.goto 14, 3) := by decide +kernel
theorem d_Mo_twoOf_99 : decode cX9_twoOf 99 = .ok (.iload_n 2, 1) := by decide +kernel
theorem d_Mo_twoOf_100 : decode cX9_twoOf 100 = .ok (.iload_n 3, 1) := by decide +kernel
theorem d_Mo_twoOf_101 : decode cX9_twoOf 101 = .ok (.iadd, 1) := by decide +kernel
theorem d_Mo_twoOf_102 : decode cX9_twoOf 102 = .ok (.ifCond .le 7, 3) := by decide +kernel
theorem d_Mo_twoOf_105 : decode cX9_twoOf 105 = .ok (.iconst 1, 1) := by decide +kernel
theorem d_Mo_twoOf_106 : decode cX9_twoOf 106 = .ok (.goto 4, 3) := by decide +kernel
theorem d_Mo_twoOf_109 : decode cX9_twoOf 109 = .ok (.iconst 0, 1) := by decide +kernel
theorem d_Mo_twoOf_110 : decode cX9_twoOf 110 = .ok (.ireturn, 1) := by decide +kernel
theorem d_Mo_runs_0 : decode cX9_runs 0 = .ok (.iconst 0, 1) := by decide +kernel
theorem d_Mo_runs_1 : decode cX9_runs 1 = .ok (.istore 4, 2) := by decide +kernel
theorem d_Mo_runs_3 : decode cX9_runs 3 = .ok (.sipush 400, 3) := by decide +kernel
theorem d_Mo_runs_6 : decode cX9_runs 6 = .ok (.iload_n 1, 1) := by decide +kernel
theorem d_Mo_runs_7 : decode cX9_runs 7 = .ok (.imul, 1) := by decide +kernel
theorem d_Mo_runs_8 : decode cX9_runs 8 = .ok (.iload_n 2, 1) := by decide +kernel
theorem d_Mo_runs_9 : decode cX9_runs 9 = .ok (.iadd, 1) := by decide +kernel
theorem d_Mo_runs_10 : decode cX9_runs 10 = .ok (.istore 5, 2) := by decide +kernel
theorem d_Mo_runs_12 : decode cX9_runs 12 = .ok (.iload 5, 2) := by decide +kernel
theorem d_Mo_runs_14 : decode cX9_runs 14 = .ok (.sipush 400, 3) := by decide +kernel
theorem d_Mo_runs_17 : decode cX9_runs 17 = .ok (.iload_n 1, 1) := by decide +kernel
theorem d_Mo_runs_18 : decode cX9_runs 18 = .ok (.imul, 1) := by decide +kernel
theorem d_Mo_runs_19 : decode cX9_runs 19 = .ok (.iload_n 3, 1) := by decide +kernel
theorem d_Mo_runs_20 : decode cX9_runs 20 = .ok (.iadd, 1) := by decide +kernel
theorem d_Mo_runs_21 : decode cX9_runs 21 = .ok (.if_icmp .ge 155, 3) := by decide +kernel
theorem d_Mo_runs_24 : decode cX9_runs 24 = .ok (.aload_n 0, 1) := by decide +kernel
theorem d_Mo_runs_25 : decode cX9_runs 25 = .ok (.getfield 55, 3) := by decide +kernel
theorem d_Mo_runs_28 : decode cX9_runs 28 = .ok (.iload 5, 2) := by decide +kernel
theorem d_Mo_runs_30 : decode cX9_runs 30 = .ok (.iaload, 1) := by decide +kernel
theorem d_Mo_runs_31 : decode cX9_runs 31 = .ok (.ifCond .eq 14, 3) := by decide +kernel
theorem d_Mo_runs_34 : decode cX9_runs 34 = .ok (.aload_n 0, 1) := by decide +kernel
theorem d_Mo_runs_35 : decode cX9_runs 35 = .ok (.getfield 55, 3) := by decide +kernel
theorem d_Mo_runs_38 : decode cX9_runs 38 = .ok (.iload 5, 2) := by decide +kernel
theorem d_Mo_runs_40 : decode cX9_runs 40 = .ok (.iaload, 1) := by decide +kernel
theorem d_Mo_runs_41 : decode cX9_runs 41 = .ok (.iconst 1, 1) := by decide +kernel
theorem d_Mo_runs_42 : decode cX9_runs 42 = .ok (.if_icmp .ne 51, 3) := by decide +kernel
theorem d_Mo_runs_45 : decode cX9_runs 45 = .ok (.aload_n 0, 1) := by decide +kernel
theorem d_Mo_runs_46 : decode cX9_runs 46 = .ok (.getfield 80, 3) := by decide +kernel
theorem d_Mo_runs_49 : decode cX9_runs 49 = .ok (.iload 4, 2) := by decide +kernel
theorem d_Mo_runs_51 : decode cX9_runs 51 = .ok (.aload_n 0, 1) := by decide +kernel
theorem d_Mo_runs_52 : decode cX9_runs 52 = .ok (.getfield 55, 3) := by decide +kernel
theorem d_Mo_runs_55 : decode cX9_runs 55 = .ok (.iload 5, 2) := by decide +kernel
theorem d_Mo_runs_57 : decode cX9_runs 57 = .ok (.iaload, 1) := by decide +kernel
theorem d_Mo_runs_58 : decode cX9_runs 58 = .ok (.ifCond .ne 13, 3) := by decide +kernel
theorem d_Mo_runs_61 : decode cX9_runs 61 = .ok (.aload_n 0, 1) := by decide +kernel
theorem d_Mo_runs_62 : decode cX9_runs 62 = .ok (.getfield 58, 3) := by decide +kernel
theorem d_Mo_runs_65 : decode cX9_runs 65 = .ok (.iload 5, 2) := by decide +kernel
theorem d_Mo_runs_67 : decode cX9_runs 67 = .ok (.iaload, 1) := by decide +kernel
theorem d_Mo_runs_68 : decode cX9_runs 68 = .ok (.goto 15, 3) := by decide +kernel
theorem d_Mo_runs_71 : decode cX9_runs 71 = .ok (.aload_n 0, 1) := by decide +kernel
theorem d_Mo_runs_72 : decode cX9_runs 72 = .ok (.getfield 77, 3) := by decide +kernel
theorem d_Mo_runs_75 : decode cX9_runs 75 = .ok (.aload_n 0, 1) := by decide +kernel
theorem d_Mo_runs_76 : decode cX9_runs 76 = .ok (.getfield 58, 3) := by decide +kernel
theorem d_Mo_runs_79 : decode cX9_runs 79 = .ok (.iload 5, 2) := by decide +kernel
theorem d_Mo_runs_81 : decode cX9_runs 81 = .ok (.iaload, 1) := by decide +kernel
theorem d_Mo_runs_82 : decode cX9_runs 82 = .ok (.iaload, 1) := by decide +kernel
theorem d_Mo_runs_83 : decode cX9_runs 83 = .ok (.iastore, 1) := by decide +kernel
theorem d_Mo_runs_84 : decode cX9_runs 84 = .ok (.iload 4, 2) := by decide +kernel
theorem d_Mo_runs_86 : decode cX9_runs 86 = .ok (.iconst 1, 1) := by decide +kernel
theorem d_Mo_runs_87 : decode cX9_runs 87 = .ok (.iadd, 1) := by decide +kernel
theorem d_Mo_runs_88 : decode cX9_runs 88 = .ok (.istore 4, 2) := by decide +kernel
theorem d_Mo_runs_90 : decode cX9_runs 90 = .ok (.goto 80, 3) := by decide +kernel
theorem d_Mo_runs_93 : decode cX9_runs 93 = .ok (.aload_n 0, 1) := by decide +kernel
theorem d_Mo_runs_94 : decode cX9_runs 94 = .ok (.getfield 55, 3) := by decide +kernel
theorem d_Mo_runs_97 : decode cX9_runs 97 = .ok (.iload 5, 2) := by decide +kernel
theorem d_Mo_runs_99 : decode cX9_runs 99 = .ok (.iaload, 1) := by decide +kernel
theorem d_Mo_runs_100 : decode cX9_runs 100 = .ok (.bipush 9, 2) := by decide +kernel
theorem d_Mo_runs_102 : decode cX9_runs 102 = .ok (.if_icmp .ne 26, 3) := by decide +kernel
theorem d_Mo_runs_105 : decode cX9_runs 105 = .ok (.aload_n 0, 1) := by decide +kernel
theorem d_Mo_runs_106 : decode cX9_runs 106 = .ok (.getfield 80, 3) := by decide +kernel
theorem d_Mo_runs_109 : decode cX9_runs 109 = .ok (.iload 4, 2) := by decide +kernel
theorem d_Mo_runs_111 : decode cX9_runs 111 = .ok (.iconst 1, 1) := by decide +kernel
theorem d_Mo_runs_112 : decode cX9_runs 112 = .ok (.isub, 1) := by decide +kernel
theorem d_Mo_runs_113 : decode cX9_runs 113 = .ok (.iconst 1, 1) := by decide +kernel
theorem d_Mo_runs_114 : decode cX9_runs 114 = .ok (.aload_n 0, 1) := by decide +kernel
theorem d_Mo_runs_115 : decode cX9_runs 115 = .ok (.getfield 80, 3) := by decide +kernel
theorem d_Mo_runs_118 : decode cX9_runs 118 = .ok (.iload 4, 2) := by decide +kernel
theorem d_Mo_runs_120 : decode cX9_runs 120 = .ok (.iconst 1, 1) := by decide +kernel
theorem d_Mo_runs_121 : decode cX9_runs 121 = .ok (.isub, 1) := by decide +kernel
theorem d_Mo_runs_122 : decode cX9_runs 122 = .ok (.iaload, 1) := by decide +kernel
theorem d_Mo_runs_123 : decode cX9_runs 123 = .ok (.isub, 1) := by decide +kernel
theorem d_Mo_runs_124 : decode cX9_runs 124 = .ok (.iastore, 1) := by decide +kernel
theorem d_Mo_runs_125 : decode cX9_runs 125 = .ok (.goto 45, 3) := by decide +kernel
theorem d_Mo_runs_128 : decode cX9_runs 128 = .ok (.iload 4, 2) := by decide +kernel
theorem d_Mo_runs_130 : decode cX9_runs 130 = .ok (.iconst 1, 1) := by decide +kernel
theorem d_Mo_runs_131 : decode cX9_runs 131 = .ok (.isub, 1) := by decide +kernel
theorem d_Mo_runs_132 : decode cX9_runs 132 = .ok (.istore 4, 2) := by decide +kernel
theorem d_Mo_runs_134 : decode cX9_runs 134 = .ok (.aload_n 0, 1) := by decide +kernel
theorem d_Mo_runs_135 : decode cX9_runs 135 = .ok (.getfield 80, 3) := by decide +kernel
theorem d_Mo_runs_138 : decode cX9_runs 138 = .ok (.iload 4, 2) := by decide +kernel
theorem d_Mo_runs_140 : decode cX9_runs 140 = .ok (.iconst 1, 1) := by decide +kernel
theorem d_Mo_runs_141 : decode cX9_runs 141 = .ok (.isub, 1) := by decide +kernel
theorem d_Mo_runs_142 : decode cX9_runs 142 = .ok (.aload_n 0, 1) := by decide +kernel
theorem d_Mo_runs_143 : decode cX9_runs 143 = .ok (.aload_n 0, 1) := by decide +kernel
theorem d_Mo_runs_144 : decode cX9_runs 144 = .ok (.getfield 55, 3) := by decide +kernel
theorem d_Mo_runs_147 : decode cX9_runs 147 = .ok (.iload 5, 2) := by decide +kernel
theorem d_Mo_runs_149 : decode cX9_runs 149 = .ok (.iaload, 1) := by decide +kernel
theorem d_Mo_runs_150 : decode cX9_runs 150 = .ok (.aload_n 0, 1) := by decide +kernel
theorem d_Mo_runs_151 : decode cX9_runs 151 = .ok (.getfield 80, 3) := by decide +kernel
theorem d_Mo_runs_154 : decode cX9_runs 154 = .ok (.iload 4, 2) := by decide +kernel
theorem d_Mo_runs_156 : decode cX9_runs 156 = .ok (.iconst 1, 1) := by decide +kernel
theorem d_Mo_runs_157 : decode cX9_runs 157 = .ok (.isub, 1) := by decide +kernel
theorem d_Mo_runs_158 : decode cX9_runs 158 = .ok (.iaload, 1) := by decide +kernel
theorem d_Mo_runs_159 : decode cX9_runs 159 = .ok (.aload_n 0, 1) := by decide +kernel
theorem d_Mo_runs_160 : decode cX9_runs 160 = .ok (.getfield 80, 3) := by decide +kernel
theorem d_Mo_runs_163 : decode cX9_runs 163 = .ok (.iload 4, 2) := by decide +kernel
theorem d_Mo_runs_165 : decode cX9_runs 165 = .ok (.iaload, 1) := by decide +kernel
theorem d_Mo_runs_166 : decode cX9_runs 166 = .ok (.invokevirtual 333, 3) := by decide +kernel
theorem d_Mo_runs_169 : decode cX9_runs 169 = .ok (.iastore, 1) := by decide +kernel
theorem d_Mo_runs_170 : decode cX9_runs 170 = .ok (.iinc 5 1, 3) := by decide +kernel
theorem d_Mo_runs_173 : decode cX9_runs 173 = .ok (.goto (-161), 3) := by decide +kernel
theorem d_Mo_runs_176 : decode cX9_runs 176 = .ok (.aload_n 0, 1) := by decide +kernel
theorem d_Mo_runs_177 : decode cX9_runs 177 = .ok (.getfield 80, 3) := by decide +kernel
theorem d_Mo_runs_180 : decode cX9_runs 180 = .ok (.iconst 0, 1) := by decide +kernel
theorem d_Mo_runs_181 : decode cX9_runs 181 = .ok (.iaload, 1) := by decide +kernel
theorem d_Mo_runs_182 : decode cX9_runs 182 = .ok (.ireturn, 1) := by decide +kernel
theorem d_Mo_lineOf_0 : decode cX9_lineOf 0 = .ok (.iconst 0, 1) := by decide +kernel
theorem d_Mo_lineOf_1 : decode cX9_lineOf 1 = .ok (.istore_n 2, 1) := by decide +kernel
theorem d_Mo_lineOf_2 : decode cX9_lineOf 2 = .ok (.iload_n 2, 1) := by decide +kernel
theorem d_Mo_lineOf_3 : decode cX9_lineOf 3 = .ok (.aload_n 0, 1) := by decide +kernel
theorem d_Mo_lineOf_4 : decode cX9_lineOf 4 = .ok (.getfield 40, 3) := by decide +kernel
theorem d_Mo_lineOf_7 : decode cX9_lineOf 7 = .ok (.iconst 0, 1) := by decide +kernel
theorem d_Mo_lineOf_8 : decode cX9_lineOf 8 = .ok (.iaload, 1) := by decide +kernel
theorem d_Mo_lineOf_9 : decode cX9_lineOf 9 = .ok (.if_icmp .ge 56, 3) := by decide +kernel
theorem d_Mo_lineOf_12 : decode cX9_lineOf 12 = .ok (.aload_n 0, 1) := by decide +kernel
theorem d_Mo_lineOf_13 : decode cX9_lineOf 13 = .ok (.getfield 43, 3) := by decide +kernel
theorem d_Mo_lineOf_16 : decode cX9_lineOf 16 = .ok (.iload_n 2, 1) := by decide +kernel
theorem d_Mo_lineOf_17 : decode cX9_lineOf 17 = .ok (.iaload, 1) := by decide +kernel
theorem d_Mo_lineOf_18 : decode cX9_lineOf 18 = .ok (.iload_n 1, 1) := by decide +kernel
theorem d_Mo_lineOf_19 : decode cX9_lineOf 19 = .ok (.if_icmp .ne 40, 3) := by decide +kernel
theorem d_Mo_lineOf_22 : decode cX9_lineOf 22 = .ok (.aload_n 0, 1) := by decide +kernel
theorem d_Mo_lineOf_23 : decode cX9_lineOf 23 = .ok (.getfield 49, 3) := by decide +kernel
theorem d_Mo_lineOf_26 : decode cX9_lineOf 26 = .ok (.iload_n 2, 1) := by decide +kernel
theorem d_Mo_lineOf_27 : decode cX9_lineOf 27 = .ok (.iaload, 1) := by decide +kernel
theorem d_Mo_lineOf_28 : decode cX9_lineOf 28 = .ok (.aload_n 0, 1) := by decide +kernel
theorem d_Mo_lineOf_29 : decode cX9_lineOf 29 = .ok (.getfield 52, 3) := by decide +kernel
theorem d_Mo_lineOf_32 : decode cX9_lineOf 32 = .ok (.iload_n 2, 1) := by decide +kernel
theorem d_Mo_lineOf_33 : decode cX9_lineOf 33 = .ok (.iaload, 1) := by decide +kernel
theorem d_Mo_lineOf_34 : decode cX9_lineOf 34 = .ok (.if_icmp .eq 23, 3) := by decide +kernel
theorem d_Mo_lineOf_37 : decode cX9_lineOf 37 = .ok (.aload_n 0, 1) := by decide +kernel
theorem d_Mo_lineOf_38 : decode cX9_lineOf 38 = .ok (.iconst 0, 1) := by decide +kernel
theorem d_Mo_lineOf_39 : decode cX9_lineOf 39 = .ok (.aload_n 0, 1) := by decide +kernel
theorem d_Mo_lineOf_40 : decode cX9_lineOf 40 = .ok (.getfield 49, 3) := by decide +kernel
theorem d_Mo_lineOf_43 : decode cX9_lineOf 43 = .ok (.iload_n 2, 1) := by decide +kernel
theorem d_Mo_lineOf_44 : decode cX9_lineOf 44 = .ok (.iaload, 1) := by decide +kernel
theorem d_Mo_lineOf_45 : decode cX9_lineOf 45 = .ok (.aload_n 0, 1) := by decide +kernel
theorem d_Mo_lineOf_46 : decode cX9_lineOf 46 = .ok (.getfield 52, 3) := by decide +kernel
theorem d_Mo_lineOf_49 : decode cX9_lineOf 49 = .ok (.iload_n 2, 1) := by decide +kernel
theorem d_Mo_lineOf_50 : decode cX9_lineOf 50 = .ok (.iaload, 1) := by decide +kernel
theorem d_Mo_lineOf_51 : decode cX9_lineOf 51 = .ok (.invokevirtual 336, 3) := by decide +kernel
theorem d_Mo_lineOf_54 : decode cX9_lineOf 54 = .ok (.ifCond .eq 5, 3) := by decide +kernel
theorem d_Mo_lineOf_57 : decode cX9_lineOf 57 = .ok (.iload_n 2, 1) := by decide +kernel
theorem d_Mo_lineOf_58 : decode cX9_lineOf 58 = .ok (.ireturn, 1) := by decide +kernel
theorem d_Mo_lineOf_59 : decode cX9_lineOf 59 = .ok (.iinc 2 1, 3) := by decide +kernel
theorem d_Mo_lineOf_62 : decode cX9_lineOf 62 = .ok (.goto (-60), 3) := by decide +kernel
theorem d_Mo_lineOf_65 : decode cX9_lineOf 65 = .ok (.iconst (-1), 1) := by decide +kernel
theorem d_Mo_lineOf_66 : decode cX9_lineOf 66 = .ok (.ireturn, 1) := by decide +kernel
theorem d_Mo_held_0 : decode cX9_held 0 = .ok (.iload_n 1, 1) := by decide +kernel
theorem d_Mo_held_1 : decode cX9_held 1 = .ok (.iload_n 2, 1) := by decide +kernel
theorem d_Mo_held_2 : decode cX9_held 2 = .ok (.if_icmp .ge 7, 3) := by decide +kernel
theorem d_Mo_held_5 : decode cX9_held 5 = .ok (.iload_n 2, 1) := by decide +kernel
theorem d_Mo_held_6 : decode cX9_held 6 = .ok (.goto 13, 3) := by decide +kernel
theorem d_Mo_held_9 : decode cX9_held 9 = .ok (.iload_n 1, 1) := by decide +kernel
theorem d_Mo_held_10 : decode cX9_held 10 = .ok (.iload_n 3, 1) := by decide +kernel
theorem d_Mo_held_11 : decode cX9_held 11 = .ok (.if_icmp .le 7, 3) := by decide +kernel
theorem d_Mo_held_14 : decode cX9_held 14 = .ok (.iload_n 3, 1) := by decide +kernel
theorem d_Mo_held_15 : decode cX9_held 15 = .ok (.goto 4, 3) := by decide +kernel
theorem d_Mo_held_18 : decode cX9_held 18 = .ok (.iload_n 1, 1) := by decide +kernel
theorem d_Mo_held_19 : decode cX9_held 19 = .ok (.ireturn, 1) := by decide +kernel
theorem d_Mo_lawTells_0 : decode cX9_lawTells 0 = .ok (.aload_n 0, 1) := by decide +kernel
theorem d_Mo_lawTells_1 : decode cX9_lawTells 1 = .ok (.iload_n 1, 1) := by decide +kernel
theorem d_Mo_lawTells_2 : decode cX9_lawTells 2 = .ok (.invokevirtual 348, 3) := by decide +kernel
theorem d_Mo_lawTells_5 : decode cX9_lawTells 5 = .ok (.istore 4, 2) := by decide +kernel
theorem d_Mo_lawTells_7 : decode cX9_lawTells 7 = .ok (.aload_n 0, 1) := by decide +kernel
theorem d_Mo_lawTells_8 : decode cX9_lawTells 8 = .ok (.iload 4, 2) := by decide +kernel
theorem d_Mo_lawTells_10 : decode cX9_lawTells 10 = .ok (.iconst (-1), 1) := by decide +kernel
theorem d_Mo_lawTells_11 : decode cX9_lawTells 11 = .ok (.if_icmp .ne 7, 3) := by decide +kernel
theorem d_Mo_lawTells_14 : decode cX9_lawTells 14 = .ok (.iload_n 2, 1) := by decide +kernel
theorem d_Mo_lawTells_15 : decode cX9_lawTells 15 = .ok (.goto 22, 3) := by decide +kernel
theorem d_Mo_lawTells_18 : decode cX9_lawTells 18 = .ok (.aload_n 0, 1) := by decide +kernel
theorem d_Mo_lawTells_19 : decode cX9_lawTells 19 = .ok (.iconst 0, 1) := by decide +kernel
theorem d_Mo_lawTells_20 : decode cX9_lawTells 20 = .ok (.aload_n 0, 1) := by decide +kernel
theorem d_Mo_lawTells_21 : decode cX9_lawTells 21 = .ok (.getfield 46, 3) := by decide +kernel
theorem d_Mo_lawTells_24 : decode cX9_lawTells 24 = .ok (.iload 4, 2) := by decide +kernel
theorem d_Mo_lawTells_26 : decode cX9_lawTells 26 = .ok (.iaload, 1) := by decide +kernel
theorem d_Mo_lawTells_27 : decode cX9_lawTells 27 = .ok (.aload_n 0, 1) := by decide +kernel
theorem d_Mo_lawTells_28 : decode cX9_lawTells 28 = .ok (.getfield 49, 3) := by decide +kernel
theorem d_Mo_lawTells_31 : decode cX9_lawTells 31 = .ok (.iload 4, 2) := by decide +kernel
theorem d_Mo_lawTells_33 : decode cX9_lawTells 33 = .ok (.iaload, 1) := by decide +kernel
theorem d_Mo_lawTells_34 : decode cX9_lawTells 34 = .ok (.invokevirtual 336, 3) := by decide +kernel
theorem d_Mo_lawTells_37 : decode cX9_lawTells 37 = .ok (.iconst 0, 1) := by decide +kernel
theorem d_Mo_lawTells_38 : decode cX9_lawTells 38 = .ok (.iload_n 3, 1) := by decide +kernel
theorem d_Mo_lawTells_39 : decode cX9_lawTells 39 = .ok (.invokevirtual 351, 3) := by decide +kernel
theorem d_Mo_lawTells_42 : decode cX9_lawTells 42 = .ok (.ireturn, 1) := by decide +kernel
theorem d_Mo_rateOf_0 : decode cX9_rateOf 0 = .ok (.aload_n 0, 1) := by decide +kernel
theorem d_Mo_rateOf_1 : decode cX9_rateOf 1 = .ok (.iload_n 1, 1) := by decide +kernel
theorem d_Mo_rateOf_2 : decode cX9_rateOf 2 = .ok (.iload_n 2, 1) := by decide +kernel
theorem d_Mo_rateOf_3 : decode cX9_rateOf 3 = .ok (.invokevirtual 354, 3) := by decide +kernel
theorem d_Mo_rateOf_6 : decode cX9_rateOf 6 = .ok (.aload_n 0, 1) := by decide +kernel
theorem d_Mo_rateOf_7 : decode cX9_rateOf 7 = .ok (.iconst 1, 1) := by decide +kernel
theorem d_Mo_rateOf_8 : decode cX9_rateOf 8 = .ok (.aload_n 0, 1) := by decide +kernel
theorem d_Mo_rateOf_9 : decode cX9_rateOf 9 = .ok (.getfield 19, 3) := by decide +kernel
theorem d_Mo_rateOf_12 : decode cX9_rateOf 12 = .ok (.iload_n 1, 1) := by decide +kernel
theorem d_Mo_rateOf_13 : decode cX9_rateOf 13 = .ok (.iaload, 1) := by decide +kernel
theorem d_Mo_rateOf_14 : decode cX9_rateOf 14 = .ok (.iconst 1, 1) := by decide +kernel
theorem d_Mo_rateOf_15 : decode cX9_rateOf 15 = .ok (.iadd, 1) := by decide +kernel
theorem d_Mo_rateOf_16 : decode cX9_rateOf 16 = .ok (.bipush 99, 2) := by decide +kernel
theorem d_Mo_rateOf_18 : decode cX9_rateOf 18 = .ok (.invokevirtual 357, 3) := by decide +kernel
theorem d_Mo_rateOf_21 : decode cX9_rateOf 21 = .ok (.ireturn, 1) := by decide +kernel
theorem d_Mo_findOf_0 : decode cX9_findOf 0 = .ok (.aload_n 0, 1) := by decide +kernel
theorem d_Mo_findOf_1 : decode cX9_findOf 1 = .ok (.iload_n 1, 1) := by decide +kernel
theorem d_Mo_findOf_2 : decode cX9_findOf 2 = .ok (.iload_n 2, 1) := by decide +kernel
theorem d_Mo_findOf_3 : decode cX9_findOf 3 = .ok (.invokevirtual 354, 3) := by decide +kernel
theorem d_Mo_findOf_6 : decode cX9_findOf 6 = .ok (.aload_n 0, 1) := by decide +kernel
theorem d_Mo_findOf_7 : decode cX9_findOf 7 = .ok (.iconst 2, 1) := by decide +kernel
theorem d_Mo_findOf_8 : decode cX9_findOf 8 = .ok (.sipush 500, 3) := by decide +kernel
theorem d_Mo_findOf_11 : decode cX9_findOf 11 = .ok (.bipush 50, 2) := by decide +kernel
theorem d_Mo_findOf_13 : decode cX9_findOf 13 = .ok (.aload_n 0, 1) := by decide +kernel
theorem d_Mo_findOf_14 : decode cX9_findOf 14 = .ok (.getfield 25, 3) := by decide +kernel
theorem d_Mo_findOf_17 : decode cX9_findOf 17 = .ok (.iload_n 2, 1) := by decide +kernel
theorem d_Mo_findOf_18 : decode cX9_findOf 18 = .ok (.iaload, 1) := by decide +kernel
theorem d_Mo_findOf_19 : decode cX9_findOf 19 = .ok (.imul, 1) := by decide +kernel
theorem d_Mo_findOf_20 : decode cX9_findOf 20 = .ok (.iadd, 1) := by decide +kernel
theorem d_Mo_findOf_21 : decode cX9_findOf 21 = .ok (.sipush 1000, 3) := by decide +kernel
theorem d_Mo_findOf_24 : decode cX9_findOf 24 = .ok (.invokevirtual 357, 3) := by decide +kernel
theorem d_Mo_findOf_27 : decode cX9_findOf 27 = .ok (.ireturn, 1) := by decide +kernel
theorem d_Mo_draw_0 : decode cX9_draw 0 = .ok (.aload_n 0, 1) := by decide +kernel
theorem d_Mo_draw_1 : decode cX9_draw 1 = .ok (.getfield 7, 3) := by decide +kernel
theorem d_Mo_draw_4 : decode cX9_draw 4 = .ok (.iconst 1, 1) := by decide +kernel
theorem d_Mo_draw_5 : decode cX9_draw 5 = .ok (.ldc 150, 2) := by decide +kernel
theorem d_Mo_draw_7 : decode cX9_draw 7 = .ok (.aload_n 0, 1) := by decide +kernel
theorem d_Mo_draw_8 : decode cX9_draw 8 = .ok (.getfield 7, 3) := by decide +kernel
theorem d_Mo_draw_11 : decode cX9_draw 11 = .ok (.iconst 1, 1) := by decide +kernel
theorem d_Mo_draw_12 : decode cX9_draw 12 = .ok (.iaload, 1) := by decide +kernel
theorem d_Mo_draw_13 : decode cX9_draw 13 = .ok (.imul, 1) := by decide +kernel
theorem d_Mo_draw_14 : decode cX9_draw 14 = .ok (.ldc 151, 2) := by decide +kernel
theorem d_Mo_draw_16 : decode cX9_draw 16 = .ok (.iadd, 1) := by decide +kernel
theorem d_Mo_draw_17 : decode cX9_draw 17 = .ok (.iastore, 1) := by decide +kernel
theorem d_Mo_draw_18 : decode cX9_draw 18 = .ok (.aload_n 0, 1) := by decide +kernel
theorem d_Mo_draw_19 : decode cX9_draw 19 = .ok (.getfield 7, 3) := by decide +kernel
theorem d_Mo_draw_22 : decode cX9_draw 22 = .ok (.iconst 1, 1) := by decide +kernel
theorem d_Mo_draw_23 : decode cX9_draw 23 = .ok (.iaload, 1) := by decide +kernel
theorem d_Mo_draw_24 : decode cX9_draw 24 = .ok (.bipush 8, 2) := by decide +kernel
theorem d_Mo_draw_26 : decode cX9_draw 26 = .ok (.iushr, 1) := by decide +kernel
theorem d_Mo_draw_27 : decode cX9_draw 27 = .ok (.iload_n 1, 1) := by decide +kernel
theorem d_Mo_draw_28 : decode cX9_draw 28 = .ok (.irem, 1) := by decide +kernel
theorem d_Mo_draw_29 : decode cX9_draw 29 = .ok (.ireturn, 1) := by decide +kernel
theorem d_Mo_lesser_0 : decode cX9_lesser 0 = .ok (.iload_n 1, 1) := by decide +kernel
theorem d_Mo_lesser_1 : decode cX9_lesser 1 = .ok (.iload_n 2, 1) := by decide +kernel
theorem d_Mo_lesser_2 : decode cX9_lesser 2 = .ok (.if_icmp .ge 7, 3) := by decide +kernel
theorem d_Mo_lesser_5 : decode cX9_lesser 5 = .ok (.iload_n 1, 1) := by decide +kernel
theorem d_Mo_lesser_6 : decode cX9_lesser 6 = .ok (.goto 4, 3) := by decide +kernel
theorem d_Mo_lesser_9 : decode cX9_lesser 9 = .ok (.iload_n 2, 1) := by decide +kernel
theorem d_Mo_lesser_10 : decode cX9_lesser 10 = .ok (.ireturn, 1) := by decide +kernel
theorem d_Mo_notes_0 : decode cX9_notes 0 = .ok (.aload_n 0, 1) := by decide +kernel
theorem d_Mo_notes_1 : decode cX9_notes 1 = .ok (.getfield 146, 3) := by decide +kernel
theorem d_Mo_notes_4 : decode cX9_notes 4 = .ok (.ifCond .ne 15, 3) := by decide +kernel
theorem d_Mo_notes_7 : decode cX9_notes 7 = .ok (.aload_n 0, 1) := by decide +kernel
theorem d_Mo_notes_8 : decode cX9_notes 8 = .ok (.getfield 7, 3) := by decide +kernel
theorem d_Mo_notes_11 : decode cX9_notes 11 = .ok (.iconst 2, 1) := by decide +kernel
theorem d_Mo_notes_12 : decode cX9_notes 12 = .ok (.iaload, 1) := by decide +kernel
theorem d_Mo_notes_13 : decode cX9_notes 13 = .ok (.sipush 150, 3) := by decide +kernel
theorem d_Mo_notes_16 : decode cX9_notes 16 = .ok (.if_icmp .ne 4, 3) := by decide +kernel
theorem d_Mo_notes_19 : decode cX9_notes 19 = .ok (.return_, 1) := by decide +kernel
theorem d_Mo_notes_20 : decode cX9_notes 20 = .ok (.iconst 4, 1) := by decide +kernel
theorem d_Mo_notes_21 : decode cX9_notes 21 = .ok (.aload_n 0, 1) := by decide +kernel
theorem d_Mo_notes_22 : decode cX9_notes 22 = .ok (.getfield 7, 3) := by decide +kernel
theorem d_Mo_notes_25 : decode cX9_notes 25 = .ok (.iconst 2, 1) := by decide +kernel
theorem d_Mo_notes_26 : decode cX9_notes 26 = .ok (.iaload, 1) := by decide +kernel
theorem d_Mo_notes_27 : decode cX9_notes 27 = .ok (.imul, 1) := by decide +kernel
theorem d_Mo_notes_28 : decode cX9_notes 28 = .ok (.istore 4, 2) := by decide +kernel
theorem d_Mo_notes_30 : decode cX9_notes 30 = .ok (.aload_n 0, 1) := by decide +kernel
theorem d_Mo_notes_31 : decode cX9_notes 31 = .ok (.getfield 31, 3) := by decide +kernel
theorem d_Mo_notes_34 : decode cX9_notes 34 = .ok (.iload 4, 2) := by decide +kernel
theorem d_Mo_notes_36 : decode cX9_notes 36 = .ok (.aload_n 0, 1) := by decide +kernel
theorem d_Mo_notes_37 : decode cX9_notes 37 = .ok (.getfield 7, 3) := by decide +kernel
theorem d_Mo_notes_40 : decode cX9_notes 40 = .ok (.iconst 0, 1) := by decide +kernel
theorem d_Mo_notes_41 : decode cX9_notes 41 = .ok (.iaload, 1) := by decide +kernel
theorem d_Mo_notes_42 : decode cX9_notes 42 = .ok (.iastore, 1) := by decide +kernel
theorem d_Mo_notes_43 : decode cX9_notes 43 = .ok (.aload_n 0, 1) := by decide +kernel
theorem d_Mo_notes_44 : decode cX9_notes 44 = .ok (.getfield 31, 3) := by decide +kernel
theorem d_Mo_notes_47 : decode cX9_notes 47 = .ok (.iload 4, 2) := by decide +kernel
theorem d_Mo_notes_49 : decode cX9_notes 49 = .ok (.iconst 1, 1) := by decide +kernel
theorem d_Mo_notes_50 : decode cX9_notes 50 = .ok (.iadd, 1) := by decide +kernel
theorem d_Mo_notes_51 : decode cX9_notes 51 = .ok (.iload_n 1, 1) := by decide +kernel
theorem d_Mo_notes_52 : decode cX9_notes 52 = .ok (.iastore, 1) := by decide +kernel
theorem d_Mo_notes_53 : decode cX9_notes 53 = .ok (.aload_n 0, 1) := by decide +kernel
theorem d_Mo_notes_54 : decode cX9_notes 54 = .ok (.getfield 31, 3) := by decide +kernel
theorem d_Mo_notes_57 : decode cX9_notes 57 = .ok (.iload 4, 2) := by decide +kernel
theorem d_Mo_notes_59 : decode cX9_notes 59 = .ok (.iconst 2, 1) := by decide +kernel
theorem d_Mo_notes_60 : decode cX9_notes 60 = .ok (.iadd, 1) := by decide +kernel
theorem d_Mo_notes_61 : decode cX9_notes 61 = .ok (.iload_n 2, 1) := by decide +kernel
theorem d_Mo_notes_62 : decode cX9_notes 62 = .ok (.iastore, 1) := by decide +kernel
theorem d_Mo_notes_63 : decode cX9_notes 63 = .ok (.aload_n 0, 1) := by decide +kernel
theorem d_Mo_notes_64 : decode cX9_notes 64 = .ok (.getfield 31, 3) := by decide +kernel
theorem d_Mo_notes_67 : decode cX9_notes 67 = .ok (.iload 4, 2) := by decide +kernel
theorem d_Mo_notes_69 : decode cX9_notes 69 = .ok (.iconst 3, 1) := by decide +kernel
theorem d_Mo_notes_70 : decode cX9_notes 70 = .ok (.iadd, 1) := by decide +kernel
theorem d_Mo_notes_71 : decode cX9_notes 71 = .ok (.iload_n 3, 1) := by decide +kernel
theorem d_Mo_notes_72 : decode cX9_notes 72 = .ok (.iastore, 1) := by decide +kernel
theorem d_Mo_notes_73 : decode cX9_notes 73 = .ok (.aload_n 0, 1) := by decide +kernel
theorem d_Mo_notes_74 : decode cX9_notes 74 = .ok (.getfield 7, 3) := by decide +kernel
theorem d_Mo_notes_77 : decode cX9_notes 77 = .ok (.iconst 2, 1) := by decide +kernel
theorem d_Mo_notes_78 : decode cX9_notes 78 = .ok (.aload_n 0, 1) := by decide +kernel
theorem d_Mo_notes_79 : decode cX9_notes 79 = .ok (.getfield 7, 3) := by decide +kernel
theorem d_Mo_notes_82 : decode cX9_notes 82 = .ok (.iconst 2, 1) := by decide +kernel
theorem d_Mo_notes_83 : decode cX9_notes 83 = .ok (.iaload, 1) := by decide +kernel
theorem d_Mo_notes_84 : decode cX9_notes 84 = .ok (.iconst 1, 1) := by decide +kernel
theorem d_Mo_notes_85 : decode cX9_notes 85 = .ok (.iadd, 1) := by decide +kernel
theorem d_Mo_notes_86 : decode cX9_notes 86 = .ok (.iastore, 1) := by decide +kernel
theorem d_Mo_notes_87 : decode cX9_notes 87 = .ok (.return_, 1) := by decide +kernel
theorem d_Mo_weighs_0 : decode cX9_weighs 0 = .ok (.aload_n 0, 1) := by decide +kernel
theorem d_Mo_weighs_1 : decode cX9_weighs 1 = .ok (.getfield 7, 3) := by decide +kernel
theorem d_Mo_weighs_4 : decode cX9_weighs 4 = .ok (.bipush 19, 2) := by decide +kernel
theorem d_Mo_weighs_6 : decode cX9_weighs 6 = .ok (.iload_n 1, 1) := by decide +kernel
theorem d_Mo_weighs_7 : decode cX9_weighs 7 = .ok (.iadd, 1) := by decide +kernel
theorem d_Mo_weighs_8 : decode cX9_weighs 8 = .ok (.iaload, 1) := by decide +kernel
theorem d_Mo_weighs_9 : decode cX9_weighs 9 = .ok (.istore_n 3, 1) := by decide +kernel
theorem d_Mo_weighs_10 : decode cX9_weighs 10 = .ok (.aload_n 0, 1) := by decide +kernel
theorem d_Mo_weighs_11 : decode cX9_weighs 11 = .ok (.iload_n 1, 1) := by decide +kernel
theorem d_Mo_weighs_12 : decode cX9_weighs 12 = .ok (.iload_n 2, 1) := by decide +kernel
theorem d_Mo_weighs_13 : decode cX9_weighs 13 = .ok (.invokevirtual 360, 3) := by decide +kernel
theorem d_Mo_weighs_16 : decode cX9_weighs 16 = .ok (.istore 4, 2) := by decide +kernel
theorem d_Mo_weighs_18 : decode cX9_weighs 18 = .ok (.aload_n 0, 1) := by decide +kernel
theorem d_Mo_weighs_19 : decode cX9_weighs 19 = .ok (.iload_n 1, 1) := by decide +kernel
theorem d_Mo_weighs_20 : decode cX9_weighs 20 = .ok (.iload_n 2, 1) := by decide +kernel
theorem d_Mo_weighs_21 : decode cX9_weighs 21 = .ok (.invokevirtual 363, 3) := by decide +kernel
theorem d_Mo_weighs_24 : decode cX9_weighs 24 = .ok (.istore 5, 2) := by decide +kernel
theorem d_Mo_weighs_26 : decode cX9_weighs 26 = .ok (.aload_n 0, 1) := by decide +kernel
theorem d_Mo_weighs_27 : decode cX9_weighs 27 = .ok (.getfield 146, 3) := by decide +kernel
theorem d_Mo_weighs_30 : decode cX9_weighs 30 = .ok (.ifCond .eq 21, 3) := by decide +kernel
theorem d_Mo_weighs_33 : decode cX9_weighs 33 = .ok (.iconst 2, 1) := by decide +kernel
theorem d_Mo_weighs_34 : decode cX9_weighs 34 = .ok (.iload 5, 2) := by decide +kernel
theorem d_Mo_weighs_36 : decode cX9_weighs 36 = .ok (.imul, 1) := by decide +kernel
theorem d_Mo_weighs_37 : decode cX9_weighs 37 = .ok (.sipush 1000, 3) := by decide +kernel
theorem d_Mo_weighs_40 : decode cX9_weighs 40 = .ok (.if_icmp .lt 7, 3) := by decide +kernel
theorem d_Mo_weighs_43 : decode cX9_weighs 43 = .ok (.iconst 1, 1) := by decide +kernel
theorem d_Mo_weighs_44 : decode cX9_weighs 44 = .ok (.goto 24, 3) := by decide +kernel
theorem d_Mo_weighs_47 : decode cX9_weighs 47 = .ok (.iconst 0, 1) := by decide +kernel
theorem d_Mo_weighs_48 : decode cX9_weighs 48 = .ok (.goto 20, 3) := by decide +kernel
theorem d_Mo_weighs_51 : decode cX9_weighs 51 = .ok (.aload_n 0, 1) := by decide +kernel
theorem d_Mo_weighs_52 : decode cX9_weighs 52 = .ok (.sipush 1000, 3) := by decide +kernel
theorem d_Mo_weighs_55 : decode cX9_weighs 55 = .ok (.invokevirtual 366, 3) := by decide +kernel
theorem d_Mo_weighs_58 : decode cX9_weighs 58 = .ok (.iload 5, 2) := by decide +kernel
theorem d_Mo_weighs_60 : decode cX9_weighs 60 = .ok (.if_icmp .ge 7, 3) := by decide +kernel
theorem d_Mo_weighs_63 : decode cX9_weighs 63 = .ok (.iconst 1, 1) := by decide +kernel
theorem d_Mo_weighs_64 : decode cX9_weighs 64 = .ok (.goto 4, 3) := by decide +kernel
theorem d_Mo_weighs_67 : decode cX9_weighs 67 = .ok (.iconst 0, 1) := by decide +kernel
theorem d_Mo_weighs_68 : decode cX9_weighs 68 = .ok (.istore 6, 2) := by decide +kernel
theorem d_Mo_weighs_70 : decode cX9_weighs 70 = .ok (.iload 6, 2) := by decide +kernel
theorem d_Mo_weighs_72 : decode cX9_weighs 72 = .ok (.ifCond .eq 10, 3) := by decide +kernel
theorem d_Mo_weighs_75 : decode cX9_weighs 75 = .ok (.iload 4, 2) := by decide +kernel
theorem d_Mo_weighs_77 : decode cX9_weighs 77 = .ok (.iload_n 3, 1) := by decide +kernel
theorem d_Mo_weighs_78 : decode cX9_weighs 78 = .ok (.imul, 1) := by decide +kernel
theorem d_Mo_weighs_79 : decode cX9_weighs 79 = .ok (.goto 4, 3) := by decide +kernel
theorem d_Mo_weighs_82 : decode cX9_weighs 82 = .ok (.iconst 0, 1) := by decide +kernel
theorem d_Mo_weighs_83 : decode cX9_weighs 83 = .ok (.istore 7, 2) := by decide +kernel
theorem d_Mo_weighs_85 : decode cX9_weighs 85 = .ok (.iload 6, 2) := by decide +kernel
theorem d_Mo_weighs_87 : decode cX9_weighs 87 = .ok (.ifCond .eq 7, 3) := by decide +kernel
theorem d_Mo_weighs_90 : decode cX9_weighs 90 = .ok (.iconst 4, 1) := by decide +kernel
theorem d_Mo_weighs_91 : decode cX9_weighs 91 = .ok (.goto 4, 3) := by decide +kernel
theorem d_Mo_weighs_94 : decode cX9_weighs 94 = .ok (.iconst 5, 1) := by decide +kernel
theorem d_Mo_weighs_95 : decode cX9_weighs 95 = .ok (.istore 8, 2) := by decide +kernel
theorem d_Mo_weighs_97 : decode cX9_weighs 97 = .ok (.aload_n 0, 1) := by decide +kernel
theorem d_Mo_weighs_98 : decode cX9_weighs 98 = .ok (.getfield 7, 3) := by decide +kernel
theorem d_Mo_weighs_101 : decode cX9_weighs 101 = .ok (.iload 8, 2) := by decide +kernel
theorem d_Mo_weighs_103 : decode cX9_weighs 103 = .ok (.aload_n 0, 1) := by decide +kernel
theorem d_Mo_weighs_104 : decode cX9_weighs 104 = .ok (.getfield 7, 3) := by decide +kernel
theorem d_Mo_weighs_107 : decode cX9_weighs 107 = .ok (.iload 8, 2) := by decide +kernel
theorem d_Mo_weighs_109 : decode cX9_weighs 109 = .ok (.iaload, 1) := by decide +kernel
theorem d_Mo_weighs_110 : decode cX9_weighs 110 = .ok (.iload_n 3, 1) := by decide +kernel
theorem d_Mo_weighs_111 : decode cX9_weighs 111 = .ok (.iadd, 1) := by decide +kernel
theorem d_Mo_weighs_112 : decode cX9_weighs 112 = .ok (.iastore, 1) := by decide +kernel
theorem d_Mo_weighs_113 : decode cX9_weighs 113 = .ok (.aload_n 0, 1) := by decide +kernel
theorem d_Mo_weighs_114 : decode cX9_weighs 114 = .ok (.getfield 7, 3) := by decide +kernel
theorem d_Mo_weighs_117 : decode cX9_weighs 117 = .ok (.bipush 7, 2) := by decide +kernel
theorem d_Mo_weighs_119 : decode cX9_weighs 119 = .ok (.iload_n 1, 1) := by decide +kernel
theorem d_Mo_weighs_120 : decode cX9_weighs 120 = .ok (.iadd, 1) := by decide +kernel
theorem d_Mo_weighs_121 : decode cX9_weighs 121 = .ok (.iaload, 1) := by decide +kernel
theorem d_Mo_weighs_122 : decode cX9_weighs 122 = .ok (.istore 9, 2) := by decide +kernel
theorem d_Mo_weighs_124 : decode cX9_weighs 124 = .ok (.aload_n 0, 1) := by decide +kernel
theorem d_Mo_weighs_125 : decode cX9_weighs 125 = .ok (.iload 7, 2) := by decide +kernel
theorem d_Mo_weighs_127 : decode cX9_weighs 127 = .ok (.iload 9, 2) := by decide +kernel
theorem d_Mo_weighs_129 : decode cX9_weighs 129 = .ok (.invokevirtual 369, 3) := by decide +kernel
theorem d_Mo_weighs_132 : decode cX9_weighs 132 = .ok (.istore 10, 2) := by decide +kernel
theorem d_Mo_weighs_134 : decode cX9_weighs 134 = .ok (.aload_n 0, 1) := by decide +kernel
theorem d_Mo_weighs_135 : decode cX9_weighs 135 = .ok (.getfield 7, 3) := by decide +kernel
theorem d_Mo_weighs_138 : decode cX9_weighs 138 = .ok (.bipush 7, 2) := by decide +kernel
theorem d_Mo_weighs_140 : decode cX9_weighs 140 = .ok (.iload_n 1, 1) := by decide +kernel
theorem d_Mo_weighs_141 : decode cX9_weighs 141 = .ok (.iadd, 1) := by decide +kernel
theorem d_Mo_weighs_142 : decode cX9_weighs 142 = .ok (.iload 9, 2) := by decide +kernel
theorem d_Mo_weighs_144 : decode cX9_weighs 144 = .ok (.iload 10, 2) := by decide +kernel
theorem d_Mo_weighs_146 : decode cX9_weighs 146 = .ok (.isub, 1) := by decide +kernel
theorem d_Mo_weighs_147 : decode cX9_weighs 147 = .ok (.iastore, 1) := by decide +kernel
theorem d_Mo_weighs_148 : decode cX9_weighs 148 = .ok (.aload_n 0, 1) := by decide +kernel
theorem d_Mo_weighs_149 : decode cX9_weighs 149 = .ok (.getfield 7, 3) := by decide +kernel
theorem d_Mo_weighs_152 : decode cX9_weighs 152 = .ok (.iconst 3, 1) := by decide +kernel
theorem d_Mo_weighs_153 : decode cX9_weighs 153 = .ok (.aload_n 0, 1) := by decide +kernel
theorem d_Mo_weighs_154 : decode cX9_weighs 154 = .ok (.getfield 7, 3) := by decide +kernel
theorem d_Mo_weighs_157 : decode cX9_weighs 157 = .ok (.iconst 3, 1) := by decide +kernel
theorem d_Mo_weighs_158 : decode cX9_weighs 158 = .ok (.iaload, 1) := by decide +kernel
theorem d_Mo_weighs_159 : decode cX9_weighs 159 = .ok (.iload 10, 2) := by decide +kernel
theorem d_Mo_weighs_161 : decode cX9_weighs 161 = .ok (.iadd, 1) := by decide +kernel
theorem d_Mo_weighs_162 : decode cX9_weighs 162 = .ok (.iastore, 1) := by decide +kernel
theorem d_Mo_weighs_163 : decode cX9_weighs 163 = .ok (.aload_n 0, 1) := by decide +kernel
theorem d_Mo_weighs_164 : decode cX9_weighs 164 = .ok (.getfield 7, 3) := by decide +kernel
theorem d_Mo_weighs_167 : decode cX9_weighs 167 = .ok (.bipush 19, 2) := by decide +kernel
theorem d_Mo_weighs_169 : decode cX9_weighs 169 = .ok (.iload_n 1, 1) := by decide +kernel
theorem d_Mo_weighs_170 : decode cX9_weighs 170 = .ok (.iadd, 1) := by decide +kernel
theorem d_Mo_weighs_171 : decode cX9_weighs 171 = .ok (.iconst 0, 1) := by decide +kernel
theorem d_Mo_weighs_172 : decode cX9_weighs 172 = .ok (.iastore, 1) := by decide +kernel
theorem d_Mo_weighs_173 : decode cX9_weighs 173 = .ok (.aload_n 0, 1) := by decide +kernel
theorem d_Mo_weighs_174 : decode cX9_weighs 174 = .ok (.getfield 7, 3) := by decide +kernel
theorem d_Mo_weighs_177 : decode cX9_weighs 177 = .ok (.bipush 73, 2) := by decide +kernel
theorem d_Mo_weighs_179 : decode cX9_weighs 179 = .ok (.iload_n 2, 1) := by decide +kernel
theorem d_Mo_weighs_180 : decode cX9_weighs 180 = .ok (.iadd, 1) := by decide +kernel
theorem d_Mo_weighs_181 : decode cX9_weighs 181 = .ok (.aload_n 0, 1) := by decide +kernel
theorem d_Mo_weighs_182 : decode cX9_weighs 182 = .ok (.bipush 9, 2) := by decide +kernel
theorem d_Mo_weighs_184 : decode cX9_weighs 184 = .ok (.aload_n 0, 1) := by decide +kernel
theorem d_Mo_weighs_185 : decode cX9_weighs 185 = .ok (.getfield 7, 3) := by decide +kernel
theorem d_Mo_weighs_188 : decode cX9_weighs 188 = .ok (.bipush 73, 2) := by decide +kernel
theorem d_Mo_weighs_190 : decode cX9_weighs 190 = .ok (.iload_n 2, 1) := by decide +kernel
theorem d_Mo_weighs_191 : decode cX9_weighs 191 = .ok (.iadd, 1) := by decide +kernel
theorem d_Mo_weighs_192 : decode cX9_weighs 192 = .ok (.iaload, 1) := by decide +kernel
theorem d_Mo_weighs_193 : decode cX9_weighs 193 = .ok (.iconst 1, 1) := by decide +kernel
theorem d_Mo_weighs_194 : decode cX9_weighs 194 = .ok (.iadd, 1) := by decide +kernel
theorem d_Mo_weighs_195 : decode cX9_weighs 195 = .ok (.invokevirtual 369, 3) := by decide +kernel
theorem d_Mo_weighs_198 : decode cX9_weighs 198 = .ok (.iastore, 1) := by decide +kernel
theorem d_Mo_weighs_199 : decode cX9_weighs 199 = .ok (.iload 7, 2) := by decide +kernel
theorem d_Mo_weighs_201 : decode cX9_weighs 201 = .ok (.iload 9, 2) := by decide +kernel
theorem d_Mo_weighs_203 : decode cX9_weighs 203 = .ok (.if_icmp .le 24, 3) := by decide +kernel
theorem d_Mo_weighs_206 : decode cX9_weighs 206 = .ok (.aload_n 0, 1) := by decide +kernel
theorem d_Mo_weighs_207 : decode cX9_weighs 207 = .ok (.getfield 7, 3) := by decide +kernel
theorem d_Mo_weighs_210 : decode cX9_weighs 210 = .ok (.bipush 55, 2) := by decide +kernel
theorem d_Mo_weighs_212 : decode cX9_weighs 212 = .ok (.iload_n 1, 1) := by decide +kernel
theorem d_Mo_weighs_213 : decode cX9_weighs 213 = .ok (.iadd, 1) := by decide +kernel
theorem d_Mo_weighs_214 : decode cX9_weighs 214 = .ok (.iconst 1, 1) := by decide +kernel
theorem d_Mo_weighs_215 : decode cX9_weighs 215 = .ok (.iastore, 1) := by decide +kernel
theorem d_Mo_weighs_216 : decode cX9_weighs 216 = .ok (.aload_n 0, 1) := by decide +kernel
theorem d_Mo_weighs_217 : decode cX9_weighs 217 = .ok (.iconst 1, 1) := by decide +kernel
theorem d_Mo_weighs_218 : decode cX9_weighs 218 = .ok (.iload_n 1, 1) := by decide +kernel
theorem d_Mo_weighs_219 : decode cX9_weighs 219 = .ok (.iload 10, 2) := by decide +kernel
theorem d_Mo_weighs_221 : decode cX9_weighs 221 = .ok (.invokevirtual 372, 3) := by decide +kernel
theorem d_Mo_weighs_224 : decode cX9_weighs 224 = .ok (.iload 10, 2) := by decide +kernel
theorem d_Mo_weighs_226 : decode cX9_weighs 226 = .ok (.ireturn, 1) := by decide +kernel
theorem d_Mo_weighs_227 : decode cX9_weighs 227 = .ok (.aload_n 0, 1) := by decide +kernel
theorem d_Mo_weighs_228 : decode cX9_weighs 228 = .ok (.getfield 7, 3) := by decide +kernel
theorem d_Mo_weighs_231 : decode cX9_weighs 231 = .ok (.bipush 55, 2) := by decide +kernel
theorem d_Mo_weighs_233 : decode cX9_weighs 233 = .ok (.iload_n 1, 1) := by decide +kernel
theorem d_Mo_weighs_234 : decode cX9_weighs 234 = .ok (.iadd, 1) := by decide +kernel
theorem d_Mo_weighs_235 : decode cX9_weighs 235 = .ok (.iconst 0, 1) := by decide +kernel
theorem d_Mo_weighs_236 : decode cX9_weighs 236 = .ok (.iastore, 1) := by decide +kernel
theorem d_Mo_weighs_237 : decode cX9_weighs 237 = .ok (.aload_n 0, 1) := by decide +kernel
theorem d_Mo_weighs_238 : decode cX9_weighs 238 = .ok (.getfield 7, 3) := by decide +kernel
theorem d_Mo_weighs_241 : decode cX9_weighs 241 = .ok (.bipush 43, 2) := by decide +kernel
theorem d_Mo_weighs_243 : decode cX9_weighs 243 = .ok (.iload_n 1, 1) := by decide +kernel
theorem d_Mo_weighs_244 : decode cX9_weighs 244 = .ok (.iadd, 1) := by decide +kernel
theorem d_Mo_weighs_245 : decode cX9_weighs 245 = .ok (.iconst 1, 1) := by decide +kernel
theorem d_Mo_weighs_246 : decode cX9_weighs 246 = .ok (.iastore, 1) := by decide +kernel
theorem d_Mo_weighs_247 : decode cX9_weighs 247 = .ok (.aload_n 0, 1) := by decide +kernel
theorem d_Mo_weighs_248 : decode cX9_weighs 248 = .ok (.getfield 7, 3) := by decide +kernel
theorem d_Mo_weighs_251 : decode cX9_weighs 251 = .ok (.bipush 31, 2) := by decide +kernel
theorem d_Mo_weighs_253 : decode cX9_weighs 253 = .ok (.iload_n 1, 1) := by decide +kernel
theorem d_Mo_weighs_254 : decode cX9_weighs 254 = .ok (.iadd, 1) := by decide +kernel
theorem d_Mo_weighs_255 : decode cX9_weighs 255 = .ok (.iconst 0, 1) := by decide +kernel
theorem d_Mo_weighs_256 : decode cX9_weighs 256 = .ok (.iastore, 1) := by decide +kernel
theorem d_Mo_weighs_257 : decode cX9_weighs 257 = .ok (.iload 7, 2) := by decide +kernel
theorem d_Mo_weighs_259 : decode cX9_weighs 259 = .ok (.ifCond .ne 11, 3) := by decide +kernel
theorem d_Mo_weighs_262 : decode cX9_weighs 262 = .ok (.iload_n 3, 1) := by decide +kernel
theorem d_Mo_weighs_263 : decode cX9_weighs 263 = .ok (.ifCond .le 7, 3) := by decide +kernel
theorem d_Mo_weighs_266 : decode cX9_weighs 266 = .ok (.iconst 1, 1) := by decide +kernel
theorem d_Mo_weighs_267 : decode cX9_weighs 267 = .ok (.goto 4, 3) := by decide +kernel
theorem d_Mo_weighs_270 : decode cX9_weighs 270 = .ok (.iconst 0, 1) := by decide +kernel
theorem d_Mo_weighs_271 : decode cX9_weighs 271 = .ok (.istore 11, 2) := by decide +kernel
theorem d_Mo_weighs_273 : decode cX9_weighs 273 = .ok (.aload_n 0, 1) := by decide +kernel
theorem d_Mo_weighs_274 : decode cX9_weighs 274 = .ok (.iload 11, 2) := by decide +kernel
theorem d_Mo_weighs_276 : decode cX9_weighs 276 = .ok (.ifCond .eq 7, 3) := by decide +kernel
theorem d_Mo_weighs_279 : decode cX9_weighs 279 = .ok (.iconst 2, 1) := by decide +kernel
theorem d_Mo_weighs_280 : decode cX9_weighs 280 = .ok (.goto 4, 3) := by decide +kernel
theorem d_Mo_weighs_283 : decode cX9_weighs 283 = .ok (.iconst 0, 1) := by decide +kernel
theorem d_Mo_weighs_284 : decode cX9_weighs 284 = .ok (.iload_n 1, 1) := by decide +kernel
theorem d_Mo_weighs_285 : decode cX9_weighs 285 = .ok (.iload 11, 2) := by decide +kernel
theorem d_Mo_weighs_287 : decode cX9_weighs 287 = .ok (.ifCond .eq 7, 3) := by decide +kernel
theorem d_Mo_weighs_290 : decode cX9_weighs 290 = .ok (.iload_n 3, 1) := by decide +kernel
theorem d_Mo_weighs_291 : decode cX9_weighs 291 = .ok (.goto 5, 3) := by decide +kernel
theorem d_Mo_weighs_294 : decode cX9_weighs 294 = .ok (.iload 10, 2) := by decide +kernel
theorem d_Mo_weighs_296 : decode cX9_weighs 296 = .ok (.invokevirtual 372, 3) := by decide +kernel
theorem d_Mo_weighs_299 : decode cX9_weighs 299 = .ok (.iload 10, 2) := by decide +kernel
theorem d_Mo_weighs_301 : decode cX9_weighs 301 = .ok (.ireturn, 1) := by decide +kernel
theorem d_Mo_weigh_0 : decode cX9_weigh 0 = .ok (.aload_n 0, 1) := by decide +kernel
theorem d_Mo_weigh_1 : decode cX9_weigh 1 = .ok (.iconst 0, 1) := by decide +kernel
theorem d_Mo_weigh_2 : decode cX9_weigh 2 = .ok (.putfield 140, 3) := by decide +kernel
theorem d_Mo_weigh_5 : decode cX9_weigh 5 = .ok (.aload_n 0, 1) := by decide +kernel
theorem d_Mo_weigh_6 : decode cX9_weigh 6 = .ok (.iload_n 1, 1) := by decide +kernel
theorem d_Mo_weigh_7 : decode cX9_weigh 7 = .ok (.invokevirtual 170, 3) := by decide +kernel
theorem d_Mo_weigh_10 : decode cX9_weigh 10 = .ok (.ifCond .eq 24, 3) := by decide +kernel
theorem d_Mo_weigh_13 : decode cX9_weigh 13 = .ok (.aload_n 0, 1) := by decide +kernel
theorem d_Mo_weigh_14 : decode cX9_weigh 14 = .ok (.iload_n 2, 1) := by decide +kernel
theorem d_Mo_weigh_15 : decode cX9_weigh 15 = .ok (.invokevirtual 173, 3) := by decide +kernel
theorem d_Mo_weigh_18 : decode cX9_weigh 18 = .ok (.ifCond .eq 16, 3) := by decide +kernel
theorem d_Mo_weigh_21 : decode cX9_weigh 21 = .ok (.aload_n 0, 1) := by decide +kernel
theorem d_Mo_weigh_22 : decode cX9_weigh 22 = .ok (.getfield 7, 3) := by decide +kernel
theorem d_Mo_weigh_25 : decode cX9_weigh 25 = .ok (.bipush 43, 2) := by decide +kernel
theorem d_Mo_weigh_27 : decode cX9_weigh 27 = .ok (.iload_n 1, 1) := by decide +kernel
theorem d_Mo_weigh_28 : decode cX9_weigh 28 = .ok (.iadd, 1) := by decide +kernel
theorem d_Mo_weigh_29 : decode cX9_weigh 29 = .ok (.iaload, 1) := by decide +kernel
theorem d_Mo_weigh_30 : decode cX9_weigh 30 = .ok (.iconst 1, 1) := by decide +kernel
theorem d_Mo_weigh_31 : decode cX9_weigh 31 = .ok (.if_icmp .ne 5, 3) := by decide +kernel
theorem d_Mo_weigh_34 : decode cX9_weigh 34 = .ok (.iconst (-1), 1) := by decide +kernel
theorem d_Mo_weigh_35 : decode cX9_weigh 35 = .ok (.ireturn, 1) := by decide +kernel
theorem d_Mo_weigh_36 : decode cX9_weigh 36 = .ok (.aload_n 0, 1) := by decide +kernel
theorem d_Mo_weigh_37 : decode cX9_weigh 37 = .ok (.invokevirtual 376, 3) := by decide +kernel
theorem d_Mo_weigh_40 : decode cX9_weigh 40 = .ok (.aload_n 0, 1) := by decide +kernel
theorem d_Mo_weigh_41 : decode cX9_weigh 41 = .ok (.iload_n 1, 1) := by decide +kernel
theorem d_Mo_weigh_42 : decode cX9_weigh 42 = .ok (.iload_n 2, 1) := by decide +kernel
theorem d_Mo_weigh_43 : decode cX9_weigh 43 = .ok (.invokevirtual 379, 3) := by decide +kernel
theorem d_Mo_weigh_46 : decode cX9_weigh 46 = .ok (.ireturn, 1) := by decide +kernel
theorem d_Mo_has_0 : decode cX9_has 0 = .ok (.iload_n 1, 1) := by decide +kernel
theorem d_Mo_has_1 : decode cX9_has 1 = .ok (.iload_n 2, 1) := by decide +kernel
theorem d_Mo_has_2 : decode cX9_has 2 = .ok (.ishr, 1) := by decide +kernel
theorem d_Mo_has_3 : decode cX9_has 3 = .ok (.iconst 1, 1) := by decide +kernel
theorem d_Mo_has_4 : decode cX9_has 4 = .ok (.iand, 1) := by decide +kernel
theorem d_Mo_has_5 : decode cX9_has 5 = .ok (.iconst 1, 1) := by decide +kernel
theorem d_Mo_has_6 : decode cX9_has 6 = .ok (.if_icmp .ne 7, 3) := by decide +kernel
theorem d_Mo_has_9 : decode cX9_has 9 = .ok (.iconst 1, 1) := by decide +kernel
theorem d_Mo_has_10 : decode cX9_has 10 = .ok (.goto 4, 3) := by decide +kernel
theorem d_Mo_has_13 : decode cX9_has 13 = .ok (.iconst 0, 1) := by decide +kernel
theorem d_Mo_has_14 : decode cX9_has 14 = .ok (.ireturn, 1) := by decide +kernel
theorem d_Mo_isOpen_0 : decode cX9_isOpen 0 = .ok (.aload_n 0, 1) := by decide +kernel
theorem d_Mo_isOpen_1 : decode cX9_isOpen 1 = .ok (.aload_n 0, 1) := by decide +kernel
theorem d_Mo_isOpen_2 : decode cX9_isOpen 2 = .ok (.getfield 7, 3) := by decide +kernel
theorem d_Mo_isOpen_5 : decode cX9_isOpen 5 = .ok (.bipush 6, 2) := by decide +kernel
theorem d_Mo_isOpen_7 : decode cX9_isOpen 7 = .ok (.iaload, 1) := by decide +kernel
theorem d_Mo_isOpen_8 : decode cX9_isOpen 8 = .ok (.iload_n 1, 1) := by decide +kernel
theorem d_Mo_isOpen_9 : decode cX9_isOpen 9 = .ok (.invokevirtual 158, 3) := by decide +kernel
theorem d_Mo_isOpen_12 : decode cX9_isOpen 12 = .ok (.ifCond .ne 7, 3) := by decide +kernel
theorem d_Mo_isOpen_15 : decode cX9_isOpen 15 = .ok (.iconst 1, 1) := by decide +kernel
theorem d_Mo_isOpen_16 : decode cX9_isOpen 16 = .ok (.goto 4, 3) := by decide +kernel
theorem d_Mo_isOpen_19 : decode cX9_isOpen 19 = .ok (.iconst 0, 1) := by decide +kernel
theorem d_Mo_isOpen_20 : decode cX9_isOpen 20 = .ok (.ireturn, 1) := by decide +kernel
theorem d_Mo_canAct_0 : decode cX9_canAct 0 = .ok (.iload_n 1, 1) := by decide +kernel
theorem d_Mo_canAct_1 : decode cX9_canAct 1 = .ok (.iconst 3, 1) := by decide +kernel
theorem d_Mo_canAct_2 : decode cX9_canAct 2 = .ok (.if_icmp .ge 21, 3) := by decide +kernel
theorem d_Mo_canAct_5 : decode cX9_canAct 5 = .ok (.aload_n 0, 1) := by decide +kernel
theorem d_Mo_canAct_6 : decode cX9_canAct 6 = .ok (.getfield 7, 3) := by decide +kernel
theorem d_Mo_canAct_9 : decode cX9_canAct 9 = .ok (.bipush 43, 2) := by decide +kernel
theorem d_Mo_canAct_11 : decode cX9_canAct 11 = .ok (.iload_n 2, 1) := by decide +kernel
theorem d_Mo_canAct_12 : decode cX9_canAct 12 = .ok (.iadd, 1) := by decide +kernel
theorem d_Mo_canAct_13 : decode cX9_canAct 13 = .ok (.iaload, 1) := by decide +kernel
theorem d_Mo_canAct_14 : decode cX9_canAct 14 = .ok (.ifCond .ne 7, 3) := by decide +kernel
theorem d_Mo_canAct_17 : decode cX9_canAct 17 = .ok (.iconst 1, 1) := by decide +kernel
theorem d_Mo_canAct_18 : decode cX9_canAct 18 = .ok (.goto 4, 3) := by decide +kernel
theorem d_Mo_canAct_21 : decode cX9_canAct 21 = .ok (.iconst 0, 1) := by decide +kernel
theorem d_Mo_canAct_22 : decode cX9_canAct 22 = .ok (.ireturn, 1) := by decide +kernel
theorem d_Mo_canAct_23 : decode cX9_canAct 23 = .ok (.iload_n 1, 1) := by decide +kernel
theorem d_Mo_canAct_24 : decode cX9_canAct 24 = .ok (.iconst 3, 1) := by decide +kernel
theorem d_Mo_canAct_25 : decode cX9_canAct 25 = .ok (.if_icmp .eq 21, 3) := by decide +kernel
theorem d_Mo_canAct_28 : decode cX9_canAct 28 = .ok (.aload_n 0, 1) := by decide +kernel
theorem d_Mo_canAct_29 : decode cX9_canAct 29 = .ok (.iload_n 2, 1) := by decide +kernel
theorem d_Mo_canAct_30 : decode cX9_canAct 30 = .ok (.invokevirtual 382, 3) := by decide +kernel
theorem d_Mo_canAct_33 : decode cX9_canAct 33 = .ok (.iload_n 1, 1) := by decide +kernel
theorem d_Mo_canAct_34 : decode cX9_canAct 34 = .ok (.iconst 5, 1) := by decide +kernel
theorem d_Mo_canAct_35 : decode cX9_canAct 35 = .ok (.if_icmp .ne 7, 3) := by decide +kernel
theorem d_Mo_canAct_38 : decode cX9_canAct 38 = .ok (.iconst 1, 1) := by decide +kernel
theorem d_Mo_canAct_39 : decode cX9_canAct 39 = .ok (.goto 4, 3) := by decide +kernel
theorem d_Mo_canAct_42 : decode cX9_canAct 42 = .ok (.iconst 0, 1) := by decide +kernel
theorem d_Mo_canAct_43 : decode cX9_canAct 43 = .ok (.if_icmp .ne 7, 3) := by decide +kernel
theorem d_Mo_canAct_46 : decode cX9_canAct 46 = .ok (.iconst 1, 1) := by decide +kernel
theorem d_Mo_canAct_47 : decode cX9_canAct 47 = .ok (.goto 4, 3) := by decide +kernel
theorem d_Mo_canAct_50 : decode cX9_canAct 50 = .ok (.iconst 0, 1) := by decide +kernel
theorem d_Mo_canAct_51 : decode cX9_canAct 51 = .ok (.ireturn, 1) := by decide +kernel
theorem d_Mo_acts_0 : decode cX9_acts 0 = .ok (.iload_n 1, 1) := by decide +kernel
theorem d_Mo_acts_1 : decode cX9_acts 1 = .ok (.ifCond .ne 15, 3) := by decide +kernel
theorem d_Mo_acts_4 : decode cX9_acts 4 = .ok (.aload_n 0, 1) := by decide +kernel
theorem d_Mo_acts_5 : decode cX9_acts 5 = .ok (.getfield 7, 3) := by decide +kernel
theorem d_Mo_acts_8 : decode cX9_acts 8 = .ok (.bipush 31, 2) := by decide +kernel
theorem d_Mo_acts_10 : decode cX9_acts 10 = .ok (.iload_n 2, 1) := by decide +kernel
theorem d_Mo_acts_11 : decode cX9_acts 11 = .ok (.iadd, 1) := by decide +kernel
theorem d_Mo_acts_12 : decode cX9_acts 12 = .ok (.iload_n 3, 1) := by decide +kernel
theorem d_Mo_acts_13 : decode cX9_acts 13 = .ok (.iconst 1, 1) := by decide +kernel
theorem d_Mo_acts_14 : decode cX9_acts 14 = .ok (.iadd, 1) := by decide +kernel
theorem d_Mo_acts_15 : decode cX9_acts 15 = .ok (.iastore, 1) := by decide +kernel
theorem d_Mo_acts_16 : decode cX9_acts 16 = .ok (.iload_n 1, 1) := by decide +kernel
theorem d_Mo_acts_17 : decode cX9_acts 17 = .ok (.iconst 1, 1) := by decide +kernel
theorem d_Mo_acts_18 : decode cX9_acts 18 = .ok (.if_icmp .ne 23, 3) := by decide +kernel
theorem d_Mo_acts_21 : decode cX9_acts 21 = .ok (.aload_n 0, 1) := by decide +kernel
theorem d_Mo_acts_22 : decode cX9_acts 22 = .ok (.getfield 7, 3) := by decide +kernel
theorem d_Mo_acts_25 : decode cX9_acts 25 = .ok (.bipush 19, 2) := by decide +kernel
theorem d_Mo_acts_27 : decode cX9_acts 27 = .ok (.iload_n 2, 1) := by decide +kernel
theorem d_Mo_acts_28 : decode cX9_acts 28 = .ok (.iadd, 1) := by decide +kernel
theorem d_Mo_acts_29 : decode cX9_acts 29 = .ok (.aload_n 0, 1) := by decide +kernel
theorem d_Mo_acts_30 : decode cX9_acts 30 = .ok (.getfield 7, 3) := by decide +kernel
theorem d_Mo_acts_33 : decode cX9_acts 33 = .ok (.bipush 19, 2) := by decide +kernel
theorem d_Mo_acts_35 : decode cX9_acts 35 = .ok (.iload_n 2, 1) := by decide +kernel
theorem d_Mo_acts_36 : decode cX9_acts 36 = .ok (.iadd, 1) := by decide +kernel
theorem d_Mo_acts_37 : decode cX9_acts 37 = .ok (.iaload, 1) := by decide +kernel
theorem d_Mo_acts_38 : decode cX9_acts 38 = .ok (.iconst 2, 1) := by decide +kernel
theorem d_Mo_acts_39 : decode cX9_acts 39 = .ok (.idiv, 1) := by decide +kernel
theorem d_Mo_acts_40 : decode cX9_acts 40 = .ok (.iastore, 1) := by decide +kernel
theorem d_Mo_acts_41 : decode cX9_acts 41 = .ok (.iload_n 1, 1) := by decide +kernel
theorem d_Mo_acts_42 : decode cX9_acts 42 = .ok (.iconst 2, 1) := by decide +kernel
theorem d_Mo_acts_43 : decode cX9_acts 43 = .ok (.if_icmp .ne 30, 3) := by decide +kernel
theorem d_Mo_acts_46 : decode cX9_acts 46 = .ok (.aload_n 0, 1) := by decide +kernel
theorem d_Mo_acts_47 : decode cX9_acts 47 = .ok (.getfield 7, 3) := by decide +kernel
theorem d_Mo_acts_50 : decode cX9_acts 50 = .ok (.bipush 19, 2) := by decide +kernel
theorem d_Mo_acts_52 : decode cX9_acts 52 = .ok (.iload_n 2, 1) := by decide +kernel
theorem d_Mo_acts_53 : decode cX9_acts 53 = .ok (.iadd, 1) := by decide +kernel
theorem d_Mo_acts_54 : decode cX9_acts 54 = .ok (.aload_n 0, 1) := by decide +kernel
theorem d_Mo_acts_55 : decode cX9_acts 55 = .ok (.bipush 99, 2) := by decide +kernel
theorem d_Mo_acts_57 : decode cX9_acts 57 = .ok (.aload_n 0, 1) := by decide +kernel
theorem d_Mo_acts_58 : decode cX9_acts 58 = .ok (.getfield 7, 3) := by decide +kernel
theorem d_Mo_acts_61 : decode cX9_acts 61 = .ok (.bipush 19, 2) := by decide +kernel
theorem d_Mo_acts_63 : decode cX9_acts 63 = .ok (.iload_n 2, 1) := by decide +kernel
theorem d_Mo_acts_64 : decode cX9_acts 64 = .ok (.iadd, 1) := by decide +kernel
theorem d_Mo_acts_65 : decode cX9_acts 65 = .ok (.iaload, 1) := by decide +kernel
theorem d_Mo_acts_66 : decode cX9_acts 66 = .ok (.bipush 20, 2) := by decide +kernel
theorem d_Mo_acts_68 : decode cX9_acts 68 = .ok (.iadd, 1) := by decide +kernel
theorem d_Mo_acts_69 : decode cX9_acts 69 = .ok (.invokevirtual 369, 3) := by decide +kernel
theorem d_Mo_acts_72 : decode cX9_acts 72 = .ok (.iastore, 1) := by decide +kernel
theorem d_Mo_acts_73 : decode cX9_acts 73 = .ok (.iload_n 1, 1) := by decide +kernel
theorem d_Mo_acts_74 : decode cX9_acts 74 = .ok (.iconst 3, 1) := by decide +kernel
theorem d_Mo_acts_75 : decode cX9_acts 75 = .ok (.if_icmp .ne 13, 3) := by decide +kernel
theorem d_Mo_acts_78 : decode cX9_acts 78 = .ok (.aload_n 0, 1) := by decide +kernel
theorem d_Mo_acts_79 : decode cX9_acts 79 = .ok (.getfield 7, 3) := by decide +kernel
theorem d_Mo_acts_82 : decode cX9_acts 82 = .ok (.bipush 67, 2) := by decide +kernel
theorem d_Mo_acts_84 : decode cX9_acts 84 = .ok (.iload_n 2, 1) := by decide +kernel
theorem d_Mo_acts_85 : decode cX9_acts 85 = .ok (.iadd, 1) := by decide +kernel
theorem d_Mo_acts_86 : decode cX9_acts 86 = .ok (.iload_n 3, 1) := by decide +kernel
theorem d_Mo_acts_87 : decode cX9_acts 87 = .ok (.iastore, 1) := by decide +kernel
theorem d_Mo_acts_88 : decode cX9_acts 88 = .ok (.iload_n 1, 1) := by decide +kernel
theorem d_Mo_acts_89 : decode cX9_acts 89 = .ok (.iconst 4, 1) := by decide +kernel
theorem d_Mo_acts_90 : decode cX9_acts 90 = .ok (.if_icmp .ne 23, 3) := by decide +kernel
theorem d_Mo_acts_93 : decode cX9_acts 93 = .ok (.aload_n 0, 1) := by decide +kernel
theorem d_Mo_acts_94 : decode cX9_acts 94 = .ok (.getfield 7, 3) := by decide +kernel
theorem d_Mo_acts_97 : decode cX9_acts 97 = .ok (.bipush 6, 2) := by decide +kernel
theorem d_Mo_acts_99 : decode cX9_acts 99 = .ok (.aload_n 0, 1) := by decide +kernel
theorem d_Mo_acts_100 : decode cX9_acts 100 = .ok (.getfield 7, 3) := by decide +kernel
theorem d_Mo_acts_103 : decode cX9_acts 103 = .ok (.bipush 6, 2) := by decide +kernel
theorem d_Mo_acts_105 : decode cX9_acts 105 = .ok (.iaload, 1) := by decide +kernel
theorem d_Mo_acts_106 : decode cX9_acts 106 = .ok (.iconst 1, 1) := by decide +kernel
theorem d_Mo_acts_107 : decode cX9_acts 107 = .ok (.iload_n 2, 1) := by decide +kernel
theorem d_Mo_acts_108 : decode cX9_acts 108 = .ok (.ishl, 1) := by decide +kernel
theorem d_Mo_acts_109 : decode cX9_acts 109 = .ok (.iconst (-1), 1) := by decide +kernel
theorem d_Mo_acts_110 : decode cX9_acts 110 = .ok (.ixor, 1) := by decide +kernel
theorem d_Mo_acts_111 : decode cX9_acts 111 = .ok (.iand, 1) := by decide +kernel
theorem d_Mo_acts_112 : decode cX9_acts 112 = .ok (.iastore, 1) := by decide +kernel
theorem d_Mo_acts_113 : decode cX9_acts 113 = .ok (.iload_n 1, 1) := by decide +kernel
theorem d_Mo_acts_114 : decode cX9_acts 114 = .ok (.iconst 5, 1) := by decide +kernel
theorem d_Mo_acts_115 : decode cX9_acts 115 = .ok (.if_icmp .ne 21, 3) := by decide +kernel
theorem d_Mo_acts_118 : decode cX9_acts 118 = .ok (.aload_n 0, 1) := by decide +kernel
theorem d_Mo_acts_119 : decode cX9_acts 119 = .ok (.getfield 7, 3) := by decide +kernel
theorem d_Mo_acts_122 : decode cX9_acts 122 = .ok (.bipush 6, 2) := by decide +kernel
theorem d_Mo_acts_124 : decode cX9_acts 124 = .ok (.aload_n 0, 1) := by decide +kernel
theorem d_Mo_acts_125 : decode cX9_acts 125 = .ok (.getfield 7, 3) := by decide +kernel
theorem d_Mo_acts_128 : decode cX9_acts 128 = .ok (.bipush 6, 2) := by decide +kernel
theorem d_Mo_acts_130 : decode cX9_acts 130 = .ok (.iaload, 1) := by decide +kernel
theorem d_Mo_acts_131 : decode cX9_acts 131 = .ok (.iconst 1, 1) := by decide +kernel
theorem d_Mo_acts_132 : decode cX9_acts 132 = .ok (.iload_n 2, 1) := by decide +kernel
theorem d_Mo_acts_133 : decode cX9_acts 133 = .ok (.ishl, 1) := by decide +kernel
theorem d_Mo_acts_134 : decode cX9_acts 134 = .ok (.ior, 1) := by decide +kernel
theorem d_Mo_acts_135 : decode cX9_acts 135 = .ok (.iastore, 1) := by decide +kernel
theorem d_Mo_acts_136 : decode cX9_acts 136 = .ok (.return_, 1) := by decide +kernel
theorem d_Mo_act_0 : decode cX9_act 0 = .ok (.aload_n 0, 1) := by decide +kernel
theorem d_Mo_act_1 : decode cX9_act 1 = .ok (.iconst 0, 1) := by decide +kernel
theorem d_Mo_act_2 : decode cX9_act 2 = .ok (.putfield 140, 3) := by decide +kernel
theorem d_Mo_act_5 : decode cX9_act 5 = .ok (.aload_n 0, 1) := by decide +kernel
theorem d_Mo_act_6 : decode cX9_act 6 = .ok (.iload_n 1, 1) := by decide +kernel
theorem d_Mo_act_7 : decode cX9_act 7 = .ok (.iconst 0, 1) := by decide +kernel
theorem d_Mo_act_8 : decode cX9_act 8 = .ok (.iconst 5, 1) := by decide +kernel
theorem d_Mo_act_9 : decode cX9_act 9 = .ok (.invokevirtual 162, 3) := by decide +kernel
theorem d_Mo_act_12 : decode cX9_act 12 = .ok (.ifCond .eq 43, 3) := by decide +kernel
theorem d_Mo_act_15 : decode cX9_act 15 = .ok (.iload_n 1, 1) := by decide +kernel
theorem d_Mo_act_16 : decode cX9_act 16 = .ok (.iconst 3, 1) := by decide +kernel
theorem d_Mo_act_17 : decode cX9_act 17 = .ok (.if_icmp .ge 14, 3) := by decide +kernel
theorem d_Mo_act_20 : decode cX9_act 20 = .ok (.aload_n 0, 1) := by decide +kernel
theorem d_Mo_act_21 : decode cX9_act 21 = .ok (.iload_n 2, 1) := by decide +kernel
theorem d_Mo_act_22 : decode cX9_act 22 = .ok (.invokevirtual 170, 3) := by decide +kernel
theorem d_Mo_act_25 : decode cX9_act 25 = .ok (.ifCond .eq 30, 3) := by decide +kernel
theorem d_Mo_act_28 : decode cX9_act 28 = .ok (.goto 29, 3) := by decide +kernel
theorem d_Mo_act_31 : decode cX9_act 31 = .ok (.iload_n 1, 1) := by decide +kernel
theorem d_Mo_act_32 : decode cX9_act 32 = .ok (.iconst 3, 1) := by decide +kernel
theorem d_Mo_act_33 : decode cX9_act 33 = .ok (.if_icmp .ne 14, 3) := by decide +kernel
theorem d_Mo_act_36 : decode cX9_act 36 = .ok (.aload_n 0, 1) := by decide +kernel
theorem d_Mo_act_37 : decode cX9_act 37 = .ok (.iload_n 2, 1) := by decide +kernel
theorem d_Mo_act_38 : decode cX9_act 38 = .ok (.invokevirtual 173, 3) := by decide +kernel
theorem d_Mo_act_41 : decode cX9_act 41 = .ok (.ifCond .eq 14, 3) := by decide +kernel
theorem d_Mo_act_44 : decode cX9_act 44 = .ok (.goto 13, 3) := by decide +kernel
theorem d_Mo_act_47 : decode cX9_act 47 = .ok (.aload_n 0, 1) := by decide +kernel
theorem d_Mo_act_48 : decode cX9_act 48 = .ok (.iload_n 2, 1) := by decide +kernel
theorem d_Mo_act_49 : decode cX9_act 49 = .ok (.invokevirtual 166, 3) := by decide +kernel
theorem d_Mo_act_52 : decode cX9_act 52 = .ok (.ifCond .ne 5, 3) := by decide +kernel
theorem d_Mo_act_55 : decode cX9_act 55 = .ok (.iconst 0, 1) := by decide +kernel
theorem d_Mo_act_56 : decode cX9_act 56 = .ok (.ireturn, 1) := by decide +kernel
theorem d_Mo_act_57 : decode cX9_act 57 = .ok (.iload_n 1, 1) := by decide +kernel
theorem d_Mo_act_58 : decode cX9_act 58 = .ok (.ifCond .eq 8, 3) := by decide +kernel
theorem d_Mo_act_61 : decode cX9_act 61 = .ok (.iload_n 1, 1) := by decide +kernel
theorem d_Mo_act_62 : decode cX9_act 62 = .ok (.iconst 3, 1) := by decide +kernel
theorem d_Mo_act_63 : decode cX9_act 63 = .ok (.if_icmp .ne 11, 3) := by decide +kernel
theorem d_Mo_act_66 : decode cX9_act 66 = .ok (.aload_n 0, 1) := by decide +kernel
theorem d_Mo_act_67 : decode cX9_act 67 = .ok (.iload_n 3, 1) := by decide +kernel
theorem d_Mo_act_68 : decode cX9_act 68 = .ok (.invokevirtual 166, 3) := by decide +kernel
theorem d_Mo_act_71 : decode cX9_act 71 = .ok (.ifCond .eq 12, 3) := by decide +kernel
theorem d_Mo_act_74 : decode cX9_act 74 = .ok (.aload_n 0, 1) := by decide +kernel
theorem d_Mo_act_75 : decode cX9_act 75 = .ok (.iload_n 1, 1) := by decide +kernel
theorem d_Mo_act_76 : decode cX9_act 76 = .ok (.iload_n 2, 1) := by decide +kernel
theorem d_Mo_act_77 : decode cX9_act 77 = .ok (.invokevirtual 385, 3) := by decide +kernel
theorem d_Mo_act_80 : decode cX9_act 80 = .ok (.ifCond .ne 5, 3) := by decide +kernel
theorem d_Mo_act_83 : decode cX9_act 83 = .ok (.iconst 0, 1) := by decide +kernel
theorem d_Mo_act_84 : decode cX9_act 84 = .ok (.ireturn, 1) := by decide +kernel
theorem d_Mo_act_85 : decode cX9_act 85 = .ok (.aload_n 0, 1) := by decide +kernel
theorem d_Mo_act_86 : decode cX9_act 86 = .ok (.invokevirtual 376, 3) := by decide +kernel
theorem d_Mo_act_89 : decode cX9_act 89 = .ok (.aload_n 0, 1) := by decide +kernel
theorem d_Mo_act_90 : decode cX9_act 90 = .ok (.iload_n 1, 1) := by decide +kernel
theorem d_Mo_act_91 : decode cX9_act 91 = .ok (.iload_n 2, 1) := by decide +kernel
theorem d_Mo_act_92 : decode cX9_act 92 = .ok (.iload_n 3, 1) := by decide +kernel
theorem d_Mo_act_93 : decode cX9_act 93 = .ok (.invokevirtual 388, 3) := by decide +kernel
theorem d_Mo_act_96 : decode cX9_act 96 = .ok (.iconst 1, 1) := by decide +kernel
theorem d_Mo_act_97 : decode cX9_act 97 = .ok (.ireturn, 1) := by decide +kernel
theorem d_Mo_actOf_0 : decode cX9_actOf 0 = .ok (.iload_n 1, 1) := by decide +kernel
theorem d_Mo_actOf_1 : decode cX9_actOf 1 = .ok (.ifCond .ne 7, 3) := by decide +kernel
theorem d_Mo_actOf_4 : decode cX9_actOf 4 = .ok (.iconst 0, 1) := by decide +kernel
theorem d_Mo_actOf_5 : decode cX9_actOf 5 = .ok (.goto 41, 3) := by decide +kernel
theorem d_Mo_actOf_8 : decode cX9_actOf 8 = .ok (.iload_n 1, 1) := by decide +kernel
theorem d_Mo_actOf_9 : decode cX9_actOf 9 = .ok (.iconst 5, 1) := by decide +kernel
theorem d_Mo_actOf_10 : decode cX9_actOf 10 = .ok (.if_icmp .ne 7, 3) := by decide +kernel
theorem d_Mo_actOf_13 : decode cX9_actOf 13 = .ok (.iconst 1, 1) := by decide +kernel
theorem d_Mo_actOf_14 : decode cX9_actOf 14 = .ok (.goto 32, 3) := by decide +kernel
theorem d_Mo_actOf_17 : decode cX9_actOf 17 = .ok (.iload_n 1, 1) := by decide +kernel
theorem d_Mo_actOf_18 : decode cX9_actOf 18 = .ok (.bipush 6, 2) := by decide +kernel
theorem d_Mo_actOf_20 : decode cX9_actOf 20 = .ok (.if_icmp .ne 7, 3) := by decide +kernel
theorem d_Mo_actOf_23 : decode cX9_actOf 23 = .ok (.iconst 2, 1) := by decide +kernel
theorem d_Mo_actOf_24 : decode cX9_actOf 24 = .ok (.goto 22, 3) := by decide +kernel
theorem d_Mo_actOf_27 : decode cX9_actOf 27 = .ok (.iload_n 1, 1) := by decide +kernel
theorem d_Mo_actOf_28 : decode cX9_actOf 28 = .ok (.iconst 4, 1) := by decide +kernel
theorem d_Mo_actOf_29 : decode cX9_actOf 29 = .ok (.if_icmp .ne 7, 3) := by decide +kernel
theorem d_Mo_actOf_32 : decode cX9_actOf 32 = .ok (.iconst 3, 1) := by decide +kernel
theorem d_Mo_actOf_33 : decode cX9_actOf 33 = .ok (.goto 13, 3) := by decide +kernel
theorem d_Mo_actOf_36 : decode cX9_actOf 36 = .ok (.iload_n 1, 1) := by decide +kernel
theorem d_Mo_actOf_37 : decode cX9_actOf 37 = .ok (.iconst 2, 1) := by decide +kernel
theorem d_Mo_actOf_38 : decode cX9_actOf 38 = .ok (.if_icmp .ne 7, 3) := by decide +kernel
theorem d_Mo_actOf_41 : decode cX9_actOf 41 = .ok (.iconst 4, 1) := by decide +kernel
theorem d_Mo_actOf_42 : decode cX9_actOf 42 = .ok (.goto 4, 3) := by decide +kernel
theorem d_Mo_actOf_45 : decode cX9_actOf 45 = .ok (.iconst 5, 1) := by decide +kernel
theorem d_Mo_actOf_46 : decode cX9_actOf 46 = .ok (.ireturn, 1) := by decide +kernel
theorem d_Mo_does_0 : decode cX9_does 0 = .ok (.aload_n 0, 1) := by decide +kernel
theorem d_Mo_does_1 : decode cX9_does 1 = .ok (.aload_n 0, 1) := by decide +kernel
theorem d_Mo_does_2 : decode cX9_does 2 = .ok (.getfield 71, 3) := by decide +kernel
theorem d_Mo_does_5 : decode cX9_does 5 = .ok (.iload_n 1, 1) := by decide +kernel
theorem d_Mo_does_6 : decode cX9_does 6 = .ok (.iconst 1, 1) := by decide +kernel
theorem d_Mo_does_7 : decode cX9_does 7 = .ok (.iadd, 1) := by decide +kernel
theorem d_Mo_does_8 : decode cX9_does 8 = .ok (.iaload, 1) := by decide +kernel
theorem d_Mo_does_9 : decode cX9_does 9 = .ok (.invokevirtual 391, 3) := by decide +kernel
theorem d_Mo_does_12 : decode cX9_does 12 = .ok (.istore_n 2, 1) := by decide +kernel
theorem d_Mo_does_13 : decode cX9_does 13 = .ok (.aload_n 0, 1) := by decide +kernel
theorem d_Mo_does_14 : decode cX9_does 14 = .ok (.iload_n 2, 1) := by decide +kernel
theorem d_Mo_does_15 : decode cX9_does 15 = .ok (.aload_n 0, 1) := by decide +kernel
theorem d_Mo_does_16 : decode cX9_does 16 = .ok (.getfield 71, 3) := by decide +kernel
theorem d_Mo_does_19 : decode cX9_does 19 = .ok (.iload_n 1, 1) := by decide +kernel
theorem d_Mo_does_20 : decode cX9_does 20 = .ok (.iconst 2, 1) := by decide +kernel
theorem d_Mo_does_21 : decode cX9_does 21 = .ok (.iadd, 1) := by decide +kernel
theorem d_Mo_does_22 : decode cX9_does 22 = .ok (.iaload, 1) := by decide +kernel
theorem d_Mo_does_23 : decode cX9_does 23 = .ok (.invokevirtual 385, 3) := by decide +kernel
theorem d_Mo_does_26 : decode cX9_does 26 = .ok (.ifCond .eq 24, 3) := by decide +kernel
theorem d_Mo_does_29 : decode cX9_does 29 = .ok (.aload_n 0, 1) := by decide +kernel
theorem d_Mo_does_30 : decode cX9_does 30 = .ok (.iload_n 2, 1) := by decide +kernel
theorem d_Mo_does_31 : decode cX9_does 31 = .ok (.aload_n 0, 1) := by decide +kernel
theorem d_Mo_does_32 : decode cX9_does 32 = .ok (.getfield 71, 3) := by decide +kernel
theorem d_Mo_does_35 : decode cX9_does 35 = .ok (.iload_n 1, 1) := by decide +kernel
theorem d_Mo_does_36 : decode cX9_does 36 = .ok (.iconst 2, 1) := by decide +kernel
theorem d_Mo_does_37 : decode cX9_does 37 = .ok (.iadd, 1) := by decide +kernel
theorem d_Mo_does_38 : decode cX9_does 38 = .ok (.iaload, 1) := by decide +kernel
theorem d_Mo_does_39 : decode cX9_does 39 = .ok (.aload_n 0, 1) := by decide +kernel
theorem d_Mo_does_40 : decode cX9_does 40 = .ok (.getfield 71, 3) := by decide +kernel
theorem d_Mo_does_43 : decode cX9_does 43 = .ok (.iload_n 1, 1) := by decide +kernel
theorem d_Mo_does_44 : decode cX9_does 44 = .ok (.iconst 3, 1) := by decide +kernel
theorem d_Mo_does_45 : decode cX9_does 45 = .ok (.iadd, 1) := by decide +kernel
theorem d_Mo_does_46 : decode cX9_does 46 = .ok (.iaload, 1) := by decide +kernel
theorem d_Mo_does_47 : decode cX9_does 47 = .ok (.invokevirtual 388, 3) := by decide +kernel
theorem d_Mo_does_50 : decode cX9_does 50 = .ok (.return_, 1) := by decide +kernel
theorem d_Mo_nextAt_0 : decode cX9_nextAt 0 = .ok (.iconst 0, 1) := by decide +kernel
theorem d_Mo_nextAt_1 : decode cX9_nextAt 1 = .ok (.istore_n 3, 1) := by decide +kernel
theorem d_Mo_nextAt_2 : decode cX9_nextAt 2 = .ok (.iload_n 3, 1) := by decide +kernel
theorem d_Mo_nextAt_3 : decode cX9_nextAt 3 = .ok (.aload_n 0, 1) := by decide +kernel
theorem d_Mo_nextAt_4 : decode cX9_nextAt 4 = .ok (.getfield 152, 3) := by decide +kernel
theorem d_Mo_nextAt_7 : decode cX9_nextAt 7 = .ok (.if_icmp .ge 47, 3) := by decide +kernel
theorem d_Mo_nextAt_10 : decode cX9_nextAt 10 = .ok (.aload_n 0, 1) := by decide +kernel
theorem d_Mo_nextAt_11 : decode cX9_nextAt 11 = .ok (.getfield 7, 3) := by decide +kernel
theorem d_Mo_nextAt_14 : decode cX9_nextAt 14 = .ok (.bipush 31, 2) := by decide +kernel
theorem d_Mo_nextAt_16 : decode cX9_nextAt 16 = .ok (.iload_n 3, 1) := by decide +kernel
theorem d_Mo_nextAt_17 : decode cX9_nextAt 17 = .ok (.iadd, 1) := by decide +kernel
theorem d_Mo_nextAt_18 : decode cX9_nextAt 18 = .ok (.iaload, 1) := by decide +kernel
theorem d_Mo_nextAt_19 : decode cX9_nextAt 19 = .ok (.iload_n 1, 1) := by decide +kernel
theorem d_Mo_nextAt_20 : decode cX9_nextAt 20 = .ok (.iconst 1, 1) := by decide +kernel
theorem d_Mo_nextAt_21 : decode cX9_nextAt 21 = .ok (.iadd, 1) := by decide +kernel
theorem d_Mo_nextAt_22 : decode cX9_nextAt 22 = .ok (.if_icmp .ne 26, 3) := by decide +kernel
theorem d_Mo_nextAt_25 : decode cX9_nextAt 25 = .ok (.aload_n 0, 1) := by decide +kernel
theorem d_Mo_nextAt_26 : decode cX9_nextAt 26 = .ok (.getfield 7, 3) := by decide +kernel
theorem d_Mo_nextAt_29 : decode cX9_nextAt 29 = .ok (.bipush 43, 2) := by decide +kernel
theorem d_Mo_nextAt_31 : decode cX9_nextAt 31 = .ok (.iload_n 3, 1) := by decide +kernel
theorem d_Mo_nextAt_32 : decode cX9_nextAt 32 = .ok (.iadd, 1) := by decide +kernel
theorem d_Mo_nextAt_33 : decode cX9_nextAt 33 = .ok (.iaload, 1) := by decide +kernel
theorem d_Mo_nextAt_34 : decode cX9_nextAt 34 = .ok (.ifCond .ne 14, 3) := by decide +kernel
theorem d_Mo_nextAt_37 : decode cX9_nextAt 37 = .ok (.aload_n 0, 1) := by decide +kernel
theorem d_Mo_nextAt_38 : decode cX9_nextAt 38 = .ok (.iload_n 2, 1) := by decide +kernel
theorem d_Mo_nextAt_39 : decode cX9_nextAt 39 = .ok (.iload_n 3, 1) := by decide +kernel
theorem d_Mo_nextAt_40 : decode cX9_nextAt 40 = .ok (.invokevirtual 158, 3) := by decide +kernel
theorem d_Mo_nextAt_43 : decode cX9_nextAt 43 = .ok (.ifCond .ne 5, 3) := by decide +kernel
theorem d_Mo_nextAt_46 : decode cX9_nextAt 46 = .ok (.iload_n 3, 1) := by decide +kernel
theorem d_Mo_nextAt_47 : decode cX9_nextAt 47 = .ok (.ireturn, 1) := by decide +kernel
theorem d_Mo_nextAt_48 : decode cX9_nextAt 48 = .ok (.iinc 3 1, 3) := by decide +kernel
theorem d_Mo_nextAt_51 : decode cX9_nextAt 51 = .ok (.goto (-49), 3) := by decide +kernel
theorem d_Mo_nextAt_54 : decode cX9_nextAt 54 = .ok (.iconst (-1), 1) := by decide +kernel
theorem d_Mo_nextAt_55 : decode cX9_nextAt 55 = .ok (.ireturn, 1) := by decide +kernel
theorem d_Mo_weepOf_0 : decode cX9_weepOf 0 = .ok (.aload_n 0, 1) := by decide +kernel
theorem d_Mo_weepOf_1 : decode cX9_weepOf 1 = .ok (.iload_n 1, 1) := by decide +kernel
theorem d_Mo_weepOf_2 : decode cX9_weepOf 2 = .ok (.iconst (-1), 1) := by decide +kernel
theorem d_Mo_weepOf_3 : decode cX9_weepOf 3 = .ok (.invokevirtual 354, 3) := by decide +kernel
theorem d_Mo_weepOf_6 : decode cX9_weepOf 6 = .ok (.aload_n 0, 1) := by decide +kernel
theorem d_Mo_weepOf_7 : decode cX9_weepOf 7 = .ok (.iconst 0, 1) := by decide +kernel
theorem d_Mo_weepOf_8 : decode cX9_weepOf 8 = .ok (.bipush 9, 2) := by decide +kernel
theorem d_Mo_weepOf_10 : decode cX9_weepOf 10 = .ok (.aload_n 0, 1) := by decide +kernel
theorem d_Mo_weepOf_11 : decode cX9_weepOf 11 = .ok (.getfield 22, 3) := by decide +kernel
theorem d_Mo_weepOf_14 : decode cX9_weepOf 14 = .ok (.iload_n 1, 1) := by decide +kernel
theorem d_Mo_weepOf_15 : decode cX9_weepOf 15 = .ok (.iaload, 1) := by decide +kernel
theorem d_Mo_weepOf_16 : decode cX9_weepOf 16 = .ok (.isub, 1) := by decide +kernel
theorem d_Mo_weepOf_17 : decode cX9_weepOf 17 = .ok (.bipush 99, 2) := by decide +kernel
theorem d_Mo_weepOf_19 : decode cX9_weepOf 19 = .ok (.invokevirtual 357, 3) := by decide +kernel
theorem d_Mo_weepOf_22 : decode cX9_weepOf 22 = .ok (.ireturn, 1) := by decide +kernel
theorem d_Mo_goesBy_0 : decode cX9_goesBy 0 = .ok (.iconst 0, 1) := by decide +kernel
theorem d_Mo_goesBy_1 : decode cX9_goesBy 1 = .ok (.istore_n 1, 1) := by decide +kernel
theorem d_Mo_goesBy_2 : decode cX9_goesBy 2 = .ok (.iload_n 1, 1) := by decide +kernel
theorem d_Mo_goesBy_3 : decode cX9_goesBy 3 = .ok (.aload_n 0, 1) := by decide +kernel
theorem d_Mo_goesBy_4 : decode cX9_goesBy 4 = .ok (.getfield 315, 3) := by decide +kernel
theorem d_Mo_goesBy_7 : decode cX9_goesBy 7 = .ok (.if_icmp .ge 33, 3) := by decide +kernel
theorem d_Mo_goesBy_10 : decode cX9_goesBy 10 = .ok (.aload_n 0, 1) := by decide +kernel
theorem d_Mo_goesBy_11 : decode cX9_goesBy 11 = .ok (.getfield 71, 3) := by decide +kernel
theorem d_Mo_goesBy_14 : decode cX9_goesBy 14 = .ok (.iconst 4, 1) := by decide +kernel
theorem d_Mo_goesBy_15 : decode cX9_goesBy 15 = .ok (.iload_n 1, 1) := by decide +kernel
theorem d_Mo_goesBy_16 : decode cX9_goesBy 16 = .ok (.imul, 1) := by decide +kernel
theorem d_Mo_goesBy_17 : decode cX9_goesBy 17 = .ok (.iaload, 1) := by decide +kernel
theorem d_Mo_goesBy_18 : decode cX9_goesBy 18 = .ok (.aload_n 0, 1) := by decide +kernel
theorem d_Mo_goesBy_19 : decode cX9_goesBy 19 = .ok (.getfield 7, 3) := by decide +kernel
theorem d_Mo_goesBy_22 : decode cX9_goesBy 22 = .ok (.iconst 0, 1) := by decide +kernel
theorem d_Mo_goesBy_23 : decode cX9_goesBy 23 = .ok (.iaload, 1) := by decide +kernel
theorem d_Mo_goesBy_24 : decode cX9_goesBy 24 = .ok (.if_icmp .ne 10, 3) := by decide +kernel
theorem d_Mo_goesBy_27 : decode cX9_goesBy 27 = .ok (.aload_n 0, 1) := by decide +kernel
theorem d_Mo_goesBy_28 : decode cX9_goesBy 28 = .ok (.iconst 4, 1) := by decide +kernel
theorem d_Mo_goesBy_29 : decode cX9_goesBy 29 = .ok (.iload_n 1, 1) := by decide +kernel
theorem d_Mo_goesBy_30 : decode cX9_goesBy 30 = .ok (.imul, 1) := by decide +kernel
theorem d_Mo_goesBy_31 : decode cX9_goesBy 31 = .ok (.invokevirtual 394, 3) := by decide +kernel
theorem d_Mo_goesBy_34 : decode cX9_goesBy 34 = .ok (.iinc 1 1, 3) := by decide +kernel
theorem d_Mo_goesBy_37 : decode cX9_goesBy 37 = .ok (.goto (-35), 3) := by decide +kernel
theorem d_Mo_goesBy_40 : decode cX9_goesBy 40 = .ok (.iconst 0, 1) := by decide +kernel
theorem d_Mo_goesBy_41 : decode cX9_goesBy 41 = .ok (.istore_n 1, 1) := by decide +kernel
theorem d_Mo_goesBy_42 : decode cX9_goesBy 42 = .ok (.iconst 0, 1) := by decide +kernel
theorem d_Mo_goesBy_43 : decode cX9_goesBy 43 = .ok (.istore_n 2, 1) := by decide +kernel
theorem d_Mo_goesBy_44 : decode cX9_goesBy 44 = .ok (.aload_n 0, 1) := by decide +kernel
theorem d_Mo_goesBy_45 : decode cX9_goesBy 45 = .ok (.aload_n 0, 1) := by decide +kernel
theorem d_Mo_goesBy_46 : decode cX9_goesBy 46 = .ok (.invokevirtual 342, 3) := by decide +kernel
theorem d_Mo_goesBy_49 : decode cX9_goesBy 49 = .ok (.invokevirtual 345, 3) := by decide +kernel
theorem d_Mo_goesBy_52 : decode cX9_goesBy 52 = .ok (.istore_n 3, 1) := by decide +kernel
theorem d_Mo_goesBy_53 : decode cX9_goesBy 53 = .ok (.iconst 0, 1) := by decide +kernel
theorem d_Mo_goesBy_54 : decode cX9_goesBy 54 = .ok (.istore 4, 2) := by decide +kernel
theorem d_Mo_goesBy_56 : decode cX9_goesBy 56 = .ok (.iload 4, 2) := by decide +kernel
theorem d_Mo_goesBy_58 : decode cX9_goesBy 58 = .ok (.aload_n 0, 1) := by decide +kernel
theorem d_Mo_goesBy_59 : decode cX9_goesBy 59 = .ok (.getfield 155, 3) := by decide +kernel
theorem d_Mo_goesBy_62 : decode cX9_goesBy 62 = .ok (.if_icmp .ge 94, 3) := by decide +kernel
theorem d_Mo_goesBy_65 : decode cX9_goesBy 65 = .ok (.aload_n 0, 1) := by decide +kernel
theorem d_Mo_goesBy_66 : decode cX9_goesBy 66 = .ok (.getfield 7, 3) := by decide +kernel
theorem d_Mo_goesBy_69 : decode cX9_goesBy 69 = .ok (.bipush 73, 2) := by decide +kernel
theorem d_Mo_goesBy_71 : decode cX9_goesBy 71 = .ok (.iload 4, 2) := by decide +kernel
theorem d_Mo_goesBy_73 : decode cX9_goesBy 73 = .ok (.iadd, 1) := by decide +kernel
theorem d_Mo_goesBy_74 : decode cX9_goesBy 74 = .ok (.iaload, 1) := by decide +kernel
theorem d_Mo_goesBy_75 : decode cX9_goesBy 75 = .ok (.bipush 9, 2) := by decide +kernel
theorem d_Mo_goesBy_77 : decode cX9_goesBy 77 = .ok (.if_icmp .ge 38, 3) := by decide +kernel
theorem d_Mo_goesBy_80 : decode cX9_goesBy 80 = .ok (.aload_n 0, 1) := by decide +kernel
theorem d_Mo_goesBy_81 : decode cX9_goesBy 81 = .ok (.aload_n 0, 1) := by decide +kernel
theorem d_Mo_goesBy_82 : decode cX9_goesBy 82 = .ok (.getfield 7, 3) := by decide +kernel
theorem d_Mo_goesBy_85 : decode cX9_goesBy 85 = .ok (.bipush 67, 2) := by decide +kernel
theorem d_Mo_goesBy_87 : decode cX9_goesBy 87 = .ok (.iload 4, 2) := by decide +kernel
theorem d_Mo_goesBy_89 : decode cX9_goesBy 89 = .ok (.iadd, 1) := by decide +kernel
theorem d_Mo_goesBy_90 : decode cX9_goesBy 90 = .ok (.iaload, 1) := by decide +kernel
theorem d_Mo_goesBy_91 : decode cX9_goesBy 91 = .ok (.invokevirtual 382, 3) := by decide +kernel
theorem d_Mo_goesBy_94 : decode cX9_goesBy 94 = .ok (.ifCond .eq 21, 3) := by decide +kernel
theorem d_Mo_goesBy_97 : decode cX9_goesBy 97 = .ok (.aload_n 0, 1) := by decide +kernel
theorem d_Mo_goesBy_98 : decode cX9_goesBy 98 = .ok (.aload_n 0, 1) := by decide +kernel
theorem d_Mo_goesBy_99 : decode cX9_goesBy 99 = .ok (.getfield 7, 3) := by decide +kernel
theorem d_Mo_goesBy_102 : decode cX9_goesBy 102 = .ok (.bipush 67, 2) := by decide +kernel
theorem d_Mo_goesBy_104 : decode cX9_goesBy 104 = .ok (.iload 4, 2) := by decide +kernel
theorem d_Mo_goesBy_106 : decode cX9_goesBy 106 = .ok (.iadd, 1) := by decide +kernel
theorem d_Mo_goesBy_107 : decode cX9_goesBy 107 = .ok (.iaload, 1) := by decide +kernel
theorem d_Mo_goesBy_108 : decode cX9_goesBy 108 = .ok (.iload_n 1, 1) := by decide +kernel
theorem d_Mo_goesBy_109 : decode cX9_goesBy 109 = .ok (.invokevirtual 397, 3) := by decide +kernel
theorem d_Mo_goesBy_112 : decode cX9_goesBy 112 = .ok (.goto 4, 3) := by decide +kernel
theorem d_Mo_goesBy_115 : decode cX9_goesBy 115 = .ok (.iconst (-1), 1) := by decide +kernel
theorem d_Mo_goesBy_116 : decode cX9_goesBy 116 = .ok (.istore 5, 2) := by decide +kernel
theorem d_Mo_goesBy_118 : decode cX9_goesBy 118 = .ok (.iload 5, 2) := by decide +kernel
theorem d_Mo_goesBy_120 : decode cX9_goesBy 120 = .ok (.iconst (-1), 1) := by decide +kernel
theorem d_Mo_goesBy_121 : decode cX9_goesBy 121 = .ok (.if_icmp .ne 6, 3) := by decide +kernel
theorem d_Mo_goesBy_124 : decode cX9_goesBy 124 = .ok (.goto 26, 3) := by decide +kernel
theorem d_Mo_goesBy_127 : decode cX9_goesBy 127 = .ok (.iload_n 1, 1) := by decide +kernel
theorem d_Mo_goesBy_128 : decode cX9_goesBy 128 = .ok (.iconst 1, 1) := by decide +kernel
theorem d_Mo_goesBy_129 : decode cX9_goesBy 129 = .ok (.iload 5, 2) := by decide +kernel
theorem d_Mo_goesBy_131 : decode cX9_goesBy 131 = .ok (.ishl, 1) := by decide +kernel
theorem d_Mo_goesBy_132 : decode cX9_goesBy 132 = .ok (.ior, 1) := by decide +kernel
theorem d_Mo_goesBy_133 : decode cX9_goesBy 133 = .ok (.istore_n 1, 1) := by decide +kernel
theorem d_Mo_goesBy_134 : decode cX9_goesBy 134 = .ok (.iload_n 2, 1) := by decide +kernel
theorem d_Mo_goesBy_135 : decode cX9_goesBy 135 = .ok (.iconst 1, 1) := by decide +kernel
theorem d_Mo_goesBy_136 : decode cX9_goesBy 136 = .ok (.iload 4, 2) := by decide +kernel
theorem d_Mo_goesBy_138 : decode cX9_goesBy 138 = .ok (.ishl, 1) := by decide +kernel
theorem d_Mo_goesBy_139 : decode cX9_goesBy 139 = .ok (.ior, 1) := by decide +kernel
theorem d_Mo_goesBy_140 : decode cX9_goesBy 140 = .ok (.istore_n 2, 1) := by decide +kernel
theorem d_Mo_goesBy_141 : decode cX9_goesBy 141 = .ok (.aload_n 0, 1) := by decide +kernel
theorem d_Mo_goesBy_142 : decode cX9_goesBy 142 = .ok (.iload 5, 2) := by decide +kernel
theorem d_Mo_goesBy_144 : decode cX9_goesBy 144 = .ok (.iload 4, 2) := by decide +kernel
theorem d_Mo_goesBy_146 : decode cX9_goesBy 146 = .ok (.invokevirtual 379, 3) := by decide +kernel
theorem d_Mo_goesBy_149 : decode cX9_goesBy 149 = .ok (.pop, 1) := by decide +kernel
theorem d_Mo_goesBy_150 : decode cX9_goesBy 150 = .ok (.iinc 4 1, 3) := by decide +kernel
theorem d_Mo_goesBy_153 : decode cX9_goesBy 153 = .ok (.goto (-97), 3) := by decide +kernel
theorem d_Mo_goesBy_156 : decode cX9_goesBy 156 = .ok (.aload_n 0, 1) := by decide +kernel
theorem d_Mo_goesBy_157 : decode cX9_goesBy 157 = .ok (.aload_n 0, 1) := by decide +kernel
theorem d_Mo_goesBy_158 : decode cX9_goesBy 158 = .ok (.invokevirtual 342, 3) := by decide +kernel
theorem d_Mo_goesBy_161 : decode cX9_goesBy 161 = .ok (.invokevirtual 345, 3) := by decide +kernel
theorem d_Mo_goesBy_164 : decode cX9_goesBy 164 = .ok (.iload_n 3, 1) := by decide +kernel
theorem d_Mo_goesBy_165 : decode cX9_goesBy 165 = .ok (.isub, 1) := by decide +kernel
theorem d_Mo_goesBy_166 : decode cX9_goesBy 166 = .ok (.istore 4, 2) := by decide +kernel
theorem d_Mo_goesBy_168 : decode cX9_goesBy 168 = .ok (.iconst 0, 1) := by decide +kernel
theorem d_Mo_goesBy_169 : decode cX9_goesBy 169 = .ok (.istore 5, 2) := by decide +kernel
theorem d_Mo_goesBy_171 : decode cX9_goesBy 171 = .ok (.iload 5, 2) := by decide +kernel
theorem d_Mo_goesBy_173 : decode cX9_goesBy 173 = .ok (.aload_n 0, 1) := by decide +kernel
theorem d_Mo_goesBy_174 : decode cX9_goesBy 174 = .ok (.getfield 152, 3) := by decide +kernel
theorem d_Mo_goesBy_177 : decode cX9_goesBy 177 = .ok (.if_icmp .ge 55, 3) := by decide +kernel
theorem d_Mo_goesBy_180 : decode cX9_goesBy 180 = .ok (.aload_n 0, 1) := by decide +kernel
theorem d_Mo_goesBy_181 : decode cX9_goesBy 181 = .ok (.getfield 7, 3) := by decide +kernel
theorem d_Mo_goesBy_184 : decode cX9_goesBy 184 = .ok (.bipush 43, 2) := by decide +kernel
theorem d_Mo_goesBy_186 : decode cX9_goesBy 186 = .ok (.iload 5, 2) := by decide +kernel
theorem d_Mo_goesBy_188 : decode cX9_goesBy 188 = .ok (.iadd, 1) := by decide +kernel
theorem d_Mo_goesBy_189 : decode cX9_goesBy 189 = .ok (.iaload, 1) := by decide +kernel
theorem d_Mo_goesBy_190 : decode cX9_goesBy 190 = .ok (.ifCond .ne 36, 3) := by decide +kernel
theorem d_Mo_goesBy_193 : decode cX9_goesBy 193 = .ok (.aload_n 0, 1) := by decide +kernel
theorem d_Mo_goesBy_194 : decode cX9_goesBy 194 = .ok (.getfield 7, 3) := by decide +kernel
theorem d_Mo_goesBy_197 : decode cX9_goesBy 197 = .ok (.bipush 19, 2) := by decide +kernel
theorem d_Mo_goesBy_199 : decode cX9_goesBy 199 = .ok (.iload 5, 2) := by decide +kernel
theorem d_Mo_goesBy_201 : decode cX9_goesBy 201 = .ok (.iadd, 1) := by decide +kernel
theorem d_Mo_goesBy_202 : decode cX9_goesBy 202 = .ok (.aload_n 0, 1) := by decide +kernel
theorem d_Mo_goesBy_203 : decode cX9_goesBy 203 = .ok (.bipush 99, 2) := by decide +kernel
theorem d_Mo_goesBy_205 : decode cX9_goesBy 205 = .ok (.aload_n 0, 1) := by decide +kernel
theorem d_Mo_goesBy_206 : decode cX9_goesBy 206 = .ok (.getfield 7, 3) := by decide +kernel
theorem d_Mo_goesBy_209 : decode cX9_goesBy 209 = .ok (.bipush 19, 2) := by decide +kernel
theorem d_Mo_goesBy_211 : decode cX9_goesBy 211 = .ok (.iload 5, 2) := by decide +kernel
theorem d_Mo_goesBy_213 : decode cX9_goesBy 213 = .ok (.iadd, 1) := by decide +kernel
theorem d_Mo_goesBy_214 : decode cX9_goesBy 214 = .ok (.iaload, 1) := by decide +kernel
theorem d_Mo_goesBy_215 : decode cX9_goesBy 215 = .ok (.aload_n 0, 1) := by decide +kernel
theorem d_Mo_goesBy_216 : decode cX9_goesBy 216 = .ok (.iload 5, 2) := by decide +kernel
theorem d_Mo_goesBy_218 : decode cX9_goesBy 218 = .ok (.invokevirtual 400, 3) := by decide +kernel
theorem d_Mo_goesBy_221 : decode cX9_goesBy 221 = .ok (.iadd, 1) := by decide +kernel
theorem d_Mo_goesBy_222 : decode cX9_goesBy 222 = .ok (.invokevirtual 369, 3) := by decide +kernel
theorem d_Mo_goesBy_225 : decode cX9_goesBy 225 = .ok (.iastore, 1) := by decide +kernel
theorem d_Mo_goesBy_226 : decode cX9_goesBy 226 = .ok (.iinc 5 1, 3) := by decide +kernel
theorem d_Mo_goesBy_229 : decode cX9_goesBy 229 = .ok (.goto (-58), 3) := by decide +kernel
theorem d_Mo_goesBy_232 : decode cX9_goesBy 232 = .ok (.iconst 0, 1) := by decide +kernel
theorem d_Mo_goesBy_233 : decode cX9_goesBy 233 = .ok (.istore 5, 2) := by decide +kernel
theorem d_Mo_goesBy_235 : decode cX9_goesBy 235 = .ok (.iload 5, 2) := by decide +kernel
theorem d_Mo_goesBy_237 : decode cX9_goesBy 237 = .ok (.aload_n 0, 1) := by decide +kernel
theorem d_Mo_goesBy_238 : decode cX9_goesBy 238 = .ok (.getfield 155, 3) := by decide +kernel
theorem d_Mo_goesBy_241 : decode cX9_goesBy 241 = .ok (.if_icmp .ge 46, 3) := by decide +kernel
theorem d_Mo_goesBy_244 : decode cX9_goesBy 244 = .ok (.aload_n 0, 1) := by decide +kernel
theorem d_Mo_goesBy_245 : decode cX9_goesBy 245 = .ok (.iload_n 2, 1) := by decide +kernel
theorem d_Mo_goesBy_246 : decode cX9_goesBy 246 = .ok (.iload 5, 2) := by decide +kernel
theorem d_Mo_goesBy_248 : decode cX9_goesBy 248 = .ok (.invokevirtual 158, 3) := by decide +kernel
theorem d_Mo_goesBy_251 : decode cX9_goesBy 251 = .ok (.ifCond .ne 30, 3) := by decide +kernel
theorem d_Mo_goesBy_254 : decode cX9_goesBy 254 = .ok (.aload_n 0, 1) := by decide +kernel
theorem d_Mo_goesBy_255 : decode cX9_goesBy 255 = .ok (.getfield 7, 3) := by decide +kernel
theorem d_Mo_goesBy_258 : decode cX9_goesBy 258 = .ok (.bipush 73, 2) := by decide +kernel
theorem d_Mo_goesBy_260 : decode cX9_goesBy 260 = .ok (.iload 5, 2) := by decide +kernel
theorem d_Mo_goesBy_262 : decode cX9_goesBy 262 = .ok (.iadd, 1) := by decide +kernel
theorem d_Mo_goesBy_263 : decode cX9_goesBy 263 = .ok (.aload_n 0, 1) := by decide +kernel
theorem d_Mo_goesBy_264 : decode cX9_goesBy 264 = .ok (.iconst 0, 1) := by decide +kernel
theorem d_Mo_goesBy_265 : decode cX9_goesBy 265 = .ok (.aload_n 0, 1) := by decide +kernel
theorem d_Mo_goesBy_266 : decode cX9_goesBy 266 = .ok (.getfield 7, 3) := by decide +kernel
theorem d_Mo_goesBy_269 : decode cX9_goesBy 269 = .ok (.bipush 73, 2) := by decide +kernel
theorem d_Mo_goesBy_271 : decode cX9_goesBy 271 = .ok (.iload 5, 2) := by decide +kernel
theorem d_Mo_goesBy_273 : decode cX9_goesBy 273 = .ok (.iadd, 1) := by decide +kernel
theorem d_Mo_goesBy_274 : decode cX9_goesBy 274 = .ok (.iaload, 1) := by decide +kernel
theorem d_Mo_goesBy_275 : decode cX9_goesBy 275 = .ok (.iconst 1, 1) := by decide +kernel
theorem d_Mo_goesBy_276 : decode cX9_goesBy 276 = .ok (.isub, 1) := by decide +kernel
theorem d_Mo_goesBy_277 : decode cX9_goesBy 277 = .ok (.invokevirtual 339, 3) := by decide +kernel
theorem d_Mo_goesBy_280 : decode cX9_goesBy 280 = .ok (.iastore, 1) := by decide +kernel
theorem d_Mo_goesBy_281 : decode cX9_goesBy 281 = .ok (.iinc 5 1, 3) := by decide +kernel
theorem d_Mo_goesBy_284 : decode cX9_goesBy 284 = .ok (.goto (-49), 3) := by decide +kernel
theorem d_Mo_goesBy_287 : decode cX9_goesBy 287 = .ok (.aload_n 0, 1) := by decide +kernel
theorem d_Mo_goesBy_288 : decode cX9_goesBy 288 = .ok (.getfield 7, 3) := by decide +kernel
theorem d_Mo_goesBy_291 : decode cX9_goesBy 291 = .ok (.iconst 0, 1) := by decide +kernel
theorem d_Mo_goesBy_292 : decode cX9_goesBy 292 = .ok (.aload_n 0, 1) := by decide +kernel
theorem d_Mo_goesBy_293 : decode cX9_goesBy 293 = .ok (.getfield 7, 3) := by decide +kernel
theorem d_Mo_goesBy_296 : decode cX9_goesBy 296 = .ok (.iconst 0, 1) := by decide +kernel
theorem d_Mo_goesBy_297 : decode cX9_goesBy 297 = .ok (.iaload, 1) := by decide +kernel
theorem d_Mo_goesBy_298 : decode cX9_goesBy 298 = .ok (.iconst 1, 1) := by decide +kernel
theorem d_Mo_goesBy_299 : decode cX9_goesBy 299 = .ok (.iadd, 1) := by decide +kernel
theorem d_Mo_goesBy_300 : decode cX9_goesBy 300 = .ok (.iastore, 1) := by decide +kernel
theorem d_Mo_goesBy_301 : decode cX9_goesBy 301 = .ok (.iload 4, 2) := by decide +kernel
theorem d_Mo_goesBy_303 : decode cX9_goesBy 303 = .ok (.ireturn, 1) := by decide +kernel
theorem d_Mo_hours_0 : decode cX9_hours 0 = .ok (.aload_n 0, 1) := by decide +kernel
theorem d_Mo_hours_1 : decode cX9_hours 1 = .ok (.iconst 0, 1) := by decide +kernel
theorem d_Mo_hours_2 : decode cX9_hours 2 = .ok (.putfield 140, 3) := by decide +kernel
theorem d_Mo_hours_5 : decode cX9_hours 5 = .ok (.aload_n 0, 1) := by decide +kernel
theorem d_Mo_hours_6 : decode cX9_hours 6 = .ok (.iload_n 1, 1) := by decide +kernel
theorem d_Mo_hours_7 : decode cX9_hours 7 = .ok (.iconst 1, 1) := by decide +kernel
theorem d_Mo_hours_8 : decode cX9_hours 8 = .ok (.bipush 60, 2) := by decide +kernel
theorem d_Mo_hours_10 : decode cX9_hours 10 = .ok (.invokevirtual 162, 3) := by decide +kernel
theorem d_Mo_hours_13 : decode cX9_hours 13 = .ok (.ifCond .eq 17, 3) := by decide +kernel
theorem d_Mo_hours_16 : decode cX9_hours 16 = .ok (.aload_n 0, 1) := by decide +kernel
theorem d_Mo_hours_17 : decode cX9_hours 17 = .ok (.getfield 7, 3) := by decide +kernel
theorem d_Mo_hours_20 : decode cX9_hours 20 = .ok (.iconst 0, 1) := by decide +kernel
theorem d_Mo_hours_21 : decode cX9_hours 21 = .ok (.iaload, 1) := by decide +kernel
theorem d_Mo_hours_22 : decode cX9_hours 22 = .ok (.iload_n 1, 1) := by decide +kernel
theorem d_Mo_hours_23 : decode cX9_hours 23 = .ok (.iadd, 1) := by decide +kernel
theorem d_Mo_hours_24 : decode cX9_hours 24 = .ok (.sipush 9999, 3) := by decide +kernel
theorem d_Mo_hours_27 : decode cX9_hours 27 = .ok (.if_icmp .le 5, 3) := by decide +kernel
theorem d_Mo_hours_30 : decode cX9_hours 30 = .ok (.iconst (-1), 1) := by decide +kernel
theorem d_Mo_hours_31 : decode cX9_hours 31 = .ok (.ireturn, 1) := by decide +kernel
theorem d_Mo_hours_32 : decode cX9_hours 32 = .ok (.iconst 0, 1) := by decide +kernel
theorem d_Mo_hours_33 : decode cX9_hours 33 = .ok (.istore_n 2, 1) := by decide +kernel
theorem d_Mo_hours_34 : decode cX9_hours 34 = .ok (.iconst 0, 1) := by decide +kernel
theorem d_Mo_hours_35 : decode cX9_hours 35 = .ok (.istore_n 3, 1) := by decide +kernel
theorem d_Mo_hours_36 : decode cX9_hours 36 = .ok (.iload_n 3, 1) := by decide +kernel
theorem d_Mo_hours_37 : decode cX9_hours 37 = .ok (.iload_n 1, 1) := by decide +kernel
theorem d_Mo_hours_38 : decode cX9_hours 38 = .ok (.if_icmp .ge 20, 3) := by decide +kernel
theorem d_Mo_hours_41 : decode cX9_hours 41 = .ok (.aload_n 0, 1) := by decide +kernel
theorem d_Mo_hours_42 : decode cX9_hours 42 = .ok (.invokevirtual 376, 3) := by decide +kernel
theorem d_Mo_hours_45 : decode cX9_hours 45 = .ok (.iload_n 2, 1) := by decide +kernel
theorem d_Mo_hours_46 : decode cX9_hours 46 = .ok (.aload_n 0, 1) := by decide +kernel
theorem d_Mo_hours_47 : decode cX9_hours 47 = .ok (.invokevirtual 403, 3) := by decide +kernel
theorem d_Mo_hours_50 : decode cX9_hours 50 = .ok (.iadd, 1) := by decide +kernel
theorem d_Mo_hours_51 : decode cX9_hours 51 = .ok (.istore_n 2, 1) := by decide +kernel
theorem d_Mo_hours_52 : decode cX9_hours 52 = .ok (.iinc 3 1, 3) := by decide +kernel
theorem d_Mo_hours_55 : decode cX9_hours 55 = .ok (.goto (-19), 3) := by decide +kernel
theorem d_Mo_hours_58 : decode cX9_hours 58 = .ok (.iload_n 2, 1) := by decide +kernel
theorem d_Mo_hours_59 : decode cX9_hours 59 = .ok (.ireturn, 1) := by decide +kernel
theorem d_Mo_of_0 : decode cX9_of 0 = .ok (.aload_n 0, 1) := by decide +kernel
theorem d_Mo_of_1 : decode cX9_of 1 = .ok (.iconst 0, 1) := by decide +kernel
theorem d_Mo_of_2 : decode cX9_of 2 = .ok (.putfield 140, 3) := by decide +kernel
theorem d_Mo_of_5 : decode cX9_of 5 = .ok (.aload_n 0, 1) := by decide +kernel
theorem d_Mo_of_6 : decode cX9_of 6 = .ok (.iload_n 1, 1) := by decide +kernel
theorem d_Mo_of_7 : decode cX9_of 7 = .ok (.invokevirtual 170, 3) := by decide +kernel
theorem d_Mo_of_10 : decode cX9_of 10 = .ok (.ifCond .ne 6, 3) := by decide +kernel
theorem d_Mo_of_13 : decode cX9_of 13 = .ok (.bipush (-2), 2) := by decide +kernel
theorem d_Mo_of_15 : decode cX9_of 15 = .ok (.ireturn, 1) := by decide +kernel
theorem d_Mo_of_16 : decode cX9_of 16 = .ok (.aload_n 0, 1) := by decide +kernel
theorem d_Mo_of_17 : decode cX9_of 17 = .ok (.iload_n 2, 1) := by decide +kernel
theorem d_Mo_of_18 : decode cX9_of 18 = .ok (.bipush 10, 2) := by decide +kernel
theorem d_Mo_of_20 : decode cX9_of 20 = .ok (.bipush 9, 2) := by decide +kernel
theorem d_Mo_of_22 : decode cX9_of 22 = .ok (.aload_n 0, 1) := by decide +kernel
theorem d_Mo_of_23 : decode cX9_of 23 = .ok (.getfield 155, 3) := by decide +kernel
theorem d_Mo_of_26 : decode cX9_of 26 = .ok (.iadd, 1) := by decide +kernel
theorem d_Mo_of_27 : decode cX9_of 27 = .ok (.invokevirtual 162, 3) := by decide +kernel
theorem d_Mo_of_30 : decode cX9_of 30 = .ok (.ifCond .eq 13, 3) := by decide +kernel
theorem d_Mo_of_33 : decode cX9_of 33 = .ok (.aload_n 0, 1) := by decide +kernel
theorem d_Mo_of_34 : decode cX9_of 34 = .ok (.iload_n 1, 1) := by decide +kernel
theorem d_Mo_of_35 : decode cX9_of 35 = .ok (.iload_n 2, 1) := by decide +kernel
theorem d_Mo_of_36 : decode cX9_of 36 = .ok (.bipush 10, 2) := by decide +kernel
theorem d_Mo_of_38 : decode cX9_of 38 = .ok (.isub, 1) := by decide +kernel
theorem d_Mo_of_39 : decode cX9_of 39 = .ok (.invokevirtual 360, 3) := by decide +kernel
theorem d_Mo_of_42 : decode cX9_of 42 = .ok (.ireturn, 1) := by decide +kernel
theorem d_Mo_of_43 : decode cX9_of 43 = .ok (.aload_n 0, 1) := by decide +kernel
theorem d_Mo_of_44 : decode cX9_of 44 = .ok (.iload_n 2, 1) := by decide +kernel
theorem d_Mo_of_45 : decode cX9_of 45 = .ok (.bipush 20, 2) := by decide +kernel
theorem d_Mo_of_47 : decode cX9_of 47 = .ok (.bipush 19, 2) := by decide +kernel
theorem d_Mo_of_49 : decode cX9_of 49 = .ok (.aload_n 0, 1) := by decide +kernel
theorem d_Mo_of_50 : decode cX9_of 50 = .ok (.getfield 155, 3) := by decide +kernel
theorem d_Mo_of_53 : decode cX9_of 53 = .ok (.iadd, 1) := by decide +kernel
theorem d_Mo_of_54 : decode cX9_of 54 = .ok (.invokevirtual 162, 3) := by decide +kernel
theorem d_Mo_of_57 : decode cX9_of 57 = .ok (.ifCond .eq 13, 3) := by decide +kernel
theorem d_Mo_of_60 : decode cX9_of 60 = .ok (.aload_n 0, 1) := by decide +kernel
theorem d_Mo_of_61 : decode cX9_of 61 = .ok (.iload_n 1, 1) := by decide +kernel
theorem d_Mo_of_62 : decode cX9_of 62 = .ok (.iload_n 2, 1) := by decide +kernel
theorem d_Mo_of_63 : decode cX9_of 63 = .ok (.bipush 20, 2) := by decide +kernel
theorem d_Mo_of_65 : decode cX9_of 65 = .ok (.isub, 1) := by decide +kernel
theorem d_Mo_of_66 : decode cX9_of 66 = .ok (.invokevirtual 363, 3) := by decide +kernel
theorem d_Mo_of_69 : decode cX9_of 69 = .ok (.ireturn, 1) := by decide +kernel
theorem d_Mo_of_70 : decode cX9_of 70 = .ok (.iload_n 2, 1) := by decide +kernel
theorem d_Mo_of_71 : decode cX9_of 71 = .ok (.ifCond .ne 10, 3) := by decide +kernel
theorem d_Mo_of_74 : decode cX9_of 74 = .ok (.aload_n 0, 1) := by decide +kernel
theorem d_Mo_of_75 : decode cX9_of 75 = .ok (.getfield 19, 3) := by decide +kernel
theorem d_Mo_of_78 : decode cX9_of 78 = .ok (.iload_n 1, 1) := by decide +kernel
theorem d_Mo_of_79 : decode cX9_of 79 = .ok (.iaload, 1) := by decide +kernel
theorem d_Mo_of_80 : decode cX9_of 80 = .ok (.ireturn, 1) := by decide +kernel
theorem d_Mo_of_81 : decode cX9_of 81 = .ok (.iload_n 2, 1) := by decide +kernel
theorem d_Mo_of_82 : decode cX9_of 82 = .ok (.iconst 1, 1) := by decide +kernel
theorem d_Mo_of_83 : decode cX9_of 83 = .ok (.if_icmp .ne 10, 3) := by decide +kernel
theorem d_Mo_of_86 : decode cX9_of 86 = .ok (.aload_n 0, 1) := by decide +kernel
theorem d_Mo_of_87 : decode cX9_of 87 = .ok (.getfield 22, 3) := by decide +kernel
theorem d_Mo_of_90 : decode cX9_of 90 = .ok (.iload_n 1, 1) := by decide +kernel
theorem d_Mo_of_91 : decode cX9_of 91 = .ok (.iaload, 1) := by decide +kernel
theorem d_Mo_of_92 : decode cX9_of 92 = .ok (.ireturn, 1) := by decide +kernel
theorem d_Mo_of_93 : decode cX9_of 93 = .ok (.iload_n 2, 1) := by decide +kernel
theorem d_Mo_of_94 : decode cX9_of 94 = .ok (.iconst 2, 1) := by decide +kernel
theorem d_Mo_of_95 : decode cX9_of 95 = .ok (.if_icmp .ne 13, 3) := by decide +kernel
theorem d_Mo_of_98 : decode cX9_of 98 = .ok (.aload_n 0, 1) := by decide +kernel
theorem d_Mo_of_99 : decode cX9_of 99 = .ok (.getfield 7, 3) := by decide +kernel
theorem d_Mo_of_102 : decode cX9_of 102 = .ok (.bipush 7, 2) := by decide +kernel
theorem d_Mo_of_104 : decode cX9_of 104 = .ok (.iload_n 1, 1) := by decide +kernel
theorem d_Mo_of_105 : decode cX9_of 105 = .ok (.iadd, 1) := by decide +kernel
theorem d_Mo_of_106 : decode cX9_of 106 = .ok (.iaload, 1) := by decide +kernel
theorem d_Mo_of_107 : decode cX9_of 107 = .ok (.ireturn, 1) := by decide +kernel
theorem d_Mo_of_108 : decode cX9_of 108 = .ok (.iload_n 2, 1) := by decide +kernel
theorem d_Mo_of_109 : decode cX9_of 109 = .ok (.iconst 3, 1) := by decide +kernel
theorem d_Mo_of_110 : decode cX9_of 110 = .ok (.if_icmp .ne 13, 3) := by decide +kernel
theorem d_Mo_of_113 : decode cX9_of 113 = .ok (.aload_n 0, 1) := by decide +kernel
theorem d_Mo_of_114 : decode cX9_of 114 = .ok (.getfield 7, 3) := by decide +kernel
theorem d_Mo_of_117 : decode cX9_of 117 = .ok (.bipush 19, 2) := by decide +kernel
theorem d_Mo_of_119 : decode cX9_of 119 = .ok (.iload_n 1, 1) := by decide +kernel
theorem d_Mo_of_120 : decode cX9_of 120 = .ok (.iadd, 1) := by decide +kernel
theorem d_Mo_of_121 : decode cX9_of 121 = .ok (.iaload, 1) := by decide +kernel
theorem d_Mo_of_122 : decode cX9_of 122 = .ok (.ireturn, 1) := by decide +kernel
theorem d_Mo_of_123 : decode cX9_of 123 = .ok (.iload_n 2, 1) := by decide +kernel
theorem d_Mo_of_124 : decode cX9_of 124 = .ok (.iconst 4, 1) := by decide +kernel
theorem d_Mo_of_125 : decode cX9_of 125 = .ok (.if_icmp .ne 15, 3) := by decide +kernel
theorem d_Mo_of_128 : decode cX9_of 128 = .ok (.aload_n 0, 1) := by decide +kernel
theorem d_Mo_of_129 : decode cX9_of 129 = .ok (.getfield 7, 3) := by decide +kernel
theorem d_Mo_of_132 : decode cX9_of 132 = .ok (.bipush 31, 2) := by decide +kernel
theorem d_Mo_of_134 : decode cX9_of 134 = .ok (.iload_n 1, 1) := by decide +kernel
theorem d_Mo_of_135 : decode cX9_of 135 = .ok (.iadd, 1) := by decide +kernel
theorem d_Mo_of_136 : decode cX9_of 136 = .ok (.iaload, 1) := by decide +kernel
theorem d_Mo_of_137 : decode cX9_of 137 = .ok (.iconst 1, 1) := by decide +kernel
theorem d_Mo_of_138 : decode cX9_of 138 = .ok (.isub, 1) := by decide +kernel
theorem d_Mo_of_139 : decode cX9_of 139 = .ok (.ireturn, 1) := by decide +kernel
theorem d_Mo_of_140 : decode cX9_of 140 = .ok (.iload_n 2, 1) := by decide +kernel
theorem d_Mo_of_141 : decode cX9_of 141 = .ok (.iconst 5, 1) := by decide +kernel
theorem d_Mo_of_142 : decode cX9_of 142 = .ok (.if_icmp .ne 13, 3) := by decide +kernel
theorem d_Mo_of_145 : decode cX9_of 145 = .ok (.aload_n 0, 1) := by decide +kernel
theorem d_Mo_of_146 : decode cX9_of 146 = .ok (.getfield 7, 3) := by decide +kernel
theorem d_Mo_of_149 : decode cX9_of 149 = .ok (.bipush 43, 2) := by decide +kernel
theorem d_Mo_of_151 : decode cX9_of 151 = .ok (.iload_n 1, 1) := by decide +kernel
theorem d_Mo_of_152 : decode cX9_of 152 = .ok (.iadd, 1) := by decide +kernel
theorem d_Mo_of_153 : decode cX9_of 153 = .ok (.iaload, 1) := by decide +kernel
theorem d_Mo_of_154 : decode cX9_of 154 = .ok (.ireturn, 1) := by decide +kernel
theorem d_Mo_of_155 : decode cX9_of 155 = .ok (.iload_n 2, 1) := by decide +kernel
theorem d_Mo_of_156 : decode cX9_of 156 = .ok (.bipush 6, 2) := by decide +kernel
theorem d_Mo_of_158 : decode cX9_of 158 = .ok (.if_icmp .ne 13, 3) := by decide +kernel
theorem d_Mo_of_161 : decode cX9_of 161 = .ok (.aload_n 0, 1) := by decide +kernel
theorem d_Mo_of_162 : decode cX9_of 162 = .ok (.getfield 7, 3) := by decide +kernel
theorem d_Mo_of_165 : decode cX9_of 165 = .ok (.bipush 55, 2) := by decide +kernel
theorem d_Mo_of_167 : decode cX9_of 167 = .ok (.iload_n 1, 1) := by decide +kernel
theorem d_Mo_of_168 : decode cX9_of 168 = .ok (.iadd, 1) := by decide +kernel
theorem d_Mo_of_169 : decode cX9_of 169 = .ok (.iaload, 1) := by decide +kernel
theorem d_Mo_of_170 : decode cX9_of 170 = .ok (.ireturn, 1) := by decide +kernel
theorem d_Mo_of_171 : decode cX9_of 171 = .ok (.iload_n 2, 1) := by decide +kernel
theorem d_Mo_of_172 : decode cX9_of 172 = .ok (.bipush 7, 2) := by decide +kernel
theorem d_Mo_of_174 : decode cX9_of 174 = .ok (.if_icmp .ne 12, 3) := by decide +kernel
theorem d_Mo_of_177 : decode cX9_of 177 = .ok (.aload_n 0, 1) := by decide +kernel
theorem d_Mo_of_178 : decode cX9_of 178 = .ok (.getfield 68, 3) := by decide +kernel
theorem d_Mo_of_181 : decode cX9_of 181 = .ok (.iload_n 1, 1) := by decide +kernel
theorem d_Mo_of_182 : decode cX9_of 182 = .ok (.iaload, 1) := by decide +kernel
theorem d_Mo_of_183 : decode cX9_of 183 = .ok (.goto 19, 3) := by decide +kernel
theorem d_Mo_of_186 : decode cX9_of 186 = .ok (.iload_n 2, 1) := by decide +kernel
theorem d_Mo_of_187 : decode cX9_of 187 = .ok (.bipush 8, 2) := by decide +kernel
theorem d_Mo_of_189 : decode cX9_of 189 = .ok (.if_icmp .ne 11, 3) := by decide +kernel
theorem d_Mo_of_192 : decode cX9_of 192 = .ok (.aload_n 0, 1) := by decide +kernel
theorem d_Mo_of_193 : decode cX9_of 193 = .ok (.iload_n 1, 1) := by decide +kernel
theorem d_Mo_of_194 : decode cX9_of 194 = .ok (.invokevirtual 400, 3) := by decide +kernel
theorem d_Mo_of_197 : decode cX9_of 197 = .ok (.goto 5, 3) := by decide +kernel
theorem d_Mo_of_200 : decode cX9_of 200 = .ok (.bipush (-2), 2) := by decide +kernel
theorem d_Mo_of_202 : decode cX9_of 202 = .ok (.ireturn, 1) := by decide +kernel
theorem d_Mo_who_0 : decode cX9_who 0 = .ok (.aload_n 0, 1) := by decide +kernel
theorem d_Mo_who_1 : decode cX9_who 1 = .ok (.iconst 0, 1) := by decide +kernel
theorem d_Mo_who_2 : decode cX9_who 2 = .ok (.putfield 140, 3) := by decide +kernel
theorem d_Mo_who_5 : decode cX9_who 5 = .ok (.aload_n 0, 1) := by decide +kernel
theorem d_Mo_who_6 : decode cX9_who 6 = .ok (.iload_n 1, 1) := by decide +kernel
theorem d_Mo_who_7 : decode cX9_who 7 = .ok (.invokevirtual 173, 3) := by decide +kernel
theorem d_Mo_who_10 : decode cX9_who 10 = .ok (.ifCond .ne 5, 3) := by decide +kernel
theorem d_Mo_who_13 : decode cX9_who 13 = .ok (.iconst (-1), 1) := by decide +kernel
theorem d_Mo_who_14 : decode cX9_who 14 = .ok (.ireturn, 1) := by decide +kernel
theorem d_Mo_who_15 : decode cX9_who 15 = .ok (.iload_n 2, 1) := by decide +kernel
theorem d_Mo_who_16 : decode cX9_who 16 = .ok (.ifCond .ne 15, 3) := by decide +kernel
theorem d_Mo_who_19 : decode cX9_who 19 = .ok (.aload_n 0, 1) := by decide +kernel
theorem d_Mo_who_20 : decode cX9_who 20 = .ok (.getfield 7, 3) := by decide +kernel
theorem d_Mo_who_23 : decode cX9_who 23 = .ok (.bipush 67, 2) := by decide +kernel
theorem d_Mo_who_25 : decode cX9_who 25 = .ok (.iload_n 1, 1) := by decide +kernel
theorem d_Mo_who_26 : decode cX9_who 26 = .ok (.iadd, 1) := by decide +kernel
theorem d_Mo_who_27 : decode cX9_who 27 = .ok (.iaload, 1) := by decide +kernel
theorem d_Mo_who_28 : decode cX9_who 28 = .ok (.goto 49, 3) := by decide +kernel
theorem d_Mo_who_31 : decode cX9_who 31 = .ok (.iload_n 2, 1) := by decide +kernel
theorem d_Mo_who_32 : decode cX9_who 32 = .ok (.iconst 1, 1) := by decide +kernel
theorem d_Mo_who_33 : decode cX9_who 33 = .ok (.if_icmp .ne 12, 3) := by decide +kernel
theorem d_Mo_who_36 : decode cX9_who 36 = .ok (.aload_n 0, 1) := by decide +kernel
theorem d_Mo_who_37 : decode cX9_who 37 = .ok (.getfield 25, 3) := by decide +kernel
theorem d_Mo_who_40 : decode cX9_who 40 = .ok (.iload_n 1, 1) := by decide +kernel
theorem d_Mo_who_41 : decode cX9_who 41 = .ok (.iaload, 1) := by decide +kernel
theorem d_Mo_who_42 : decode cX9_who 42 = .ok (.goto 35, 3) := by decide +kernel
theorem d_Mo_who_45 : decode cX9_who 45 = .ok (.iload_n 2, 1) := by decide +kernel
theorem d_Mo_who_46 : decode cX9_who 46 = .ok (.iconst 2, 1) := by decide +kernel
theorem d_Mo_who_47 : decode cX9_who 47 = .ok (.if_icmp .ne 12, 3) := by decide +kernel
theorem d_Mo_who_50 : decode cX9_who 50 = .ok (.aload_n 0, 1) := by decide +kernel
theorem d_Mo_who_51 : decode cX9_who 51 = .ok (.getfield 28, 3) := by decide +kernel
theorem d_Mo_who_54 : decode cX9_who 54 = .ok (.iload_n 1, 1) := by decide +kernel
theorem d_Mo_who_55 : decode cX9_who 55 = .ok (.iaload, 1) := by decide +kernel
theorem d_Mo_who_56 : decode cX9_who 56 = .ok (.goto 21, 3) := by decide +kernel
theorem d_Mo_who_59 : decode cX9_who 59 = .ok (.iload_n 2, 1) := by decide +kernel
theorem d_Mo_who_60 : decode cX9_who 60 = .ok (.iconst 3, 1) := by decide +kernel
theorem d_Mo_who_61 : decode cX9_who 61 = .ok (.if_icmp .ne 15, 3) := by decide +kernel
theorem d_Mo_who_64 : decode cX9_who 64 = .ok (.aload_n 0, 1) := by decide +kernel
theorem d_Mo_who_65 : decode cX9_who 65 = .ok (.getfield 7, 3) := by decide +kernel
theorem d_Mo_who_68 : decode cX9_who 68 = .ok (.bipush 73, 2) := by decide +kernel
theorem d_Mo_who_70 : decode cX9_who 70 = .ok (.iload_n 1, 1) := by decide +kernel
theorem d_Mo_who_71 : decode cX9_who 71 = .ok (.iadd, 1) := by decide +kernel
theorem d_Mo_who_72 : decode cX9_who 72 = .ok (.iaload, 1) := by decide +kernel
theorem d_Mo_who_73 : decode cX9_who 73 = .ok (.goto 4, 3) := by decide +kernel
theorem d_Mo_who_76 : decode cX9_who 76 = .ok (.iconst (-1), 1) := by decide +kernel
theorem d_Mo_who_77 : decode cX9_who 77 = .ok (.ireturn, 1) := by decide +kernel
theorem d_Mo_book_0 : decode cX9_book 0 = .ok (.aload_n 0, 1) := by decide +kernel
theorem d_Mo_book_1 : decode cX9_book 1 = .ok (.iconst 0, 1) := by decide +kernel
theorem d_Mo_book_2 : decode cX9_book 2 = .ok (.putfield 140, 3) := by decide +kernel
theorem d_Mo_book_5 : decode cX9_book 5 = .ok (.aload_n 0, 1) := by decide +kernel
theorem d_Mo_book_6 : decode cX9_book 6 = .ok (.iload_n 1, 1) := by decide +kernel
theorem d_Mo_book_7 : decode cX9_book 7 = .ok (.iconst 0, 1) := by decide +kernel
theorem d_Mo_book_8 : decode cX9_book 8 = .ok (.aload_n 0, 1) := by decide +kernel
theorem d_Mo_book_9 : decode cX9_book 9 = .ok (.getfield 7, 3) := by decide +kernel
theorem d_Mo_book_12 : decode cX9_book 12 = .ok (.iconst 2, 1) := by decide +kernel
theorem d_Mo_book_13 : decode cX9_book 13 = .ok (.iaload, 1) := by decide +kernel
theorem d_Mo_book_14 : decode cX9_book 14 = .ok (.iconst 1, 1) := by decide +kernel
theorem d_Mo_book_15 : decode cX9_book 15 = .ok (.isub, 1) := by decide +kernel
theorem d_Mo_book_16 : decode cX9_book 16 = .ok (.invokevirtual 162, 3) := by decide +kernel
theorem d_Mo_book_19 : decode cX9_book 19 = .ok (.ifCond .eq 26, 3) := by decide +kernel
theorem d_Mo_book_22 : decode cX9_book 22 = .ok (.aload_n 0, 1) := by decide +kernel
theorem d_Mo_book_23 : decode cX9_book 23 = .ok (.iload_n 2, 1) := by decide +kernel
theorem d_Mo_book_24 : decode cX9_book 24 = .ok (.iconst 0, 1) := by decide +kernel
theorem d_Mo_book_25 : decode cX9_book 25 = .ok (.iconst 3, 1) := by decide +kernel
theorem d_Mo_book_26 : decode cX9_book 26 = .ok (.invokevirtual 162, 3) := by decide +kernel
theorem d_Mo_book_29 : decode cX9_book 29 = .ok (.ifCond .eq 16, 3) := by decide +kernel
theorem d_Mo_book_32 : decode cX9_book 32 = .ok (.aload_n 0, 1) := by decide +kernel
theorem d_Mo_book_33 : decode cX9_book 33 = .ok (.getfield 31, 3) := by decide +kernel
theorem d_Mo_book_36 : decode cX9_book 36 = .ok (.iconst 4, 1) := by decide +kernel
theorem d_Mo_book_37 : decode cX9_book 37 = .ok (.iload_n 1, 1) := by decide +kernel
theorem d_Mo_book_38 : decode cX9_book 38 = .ok (.imul, 1) := by decide +kernel
theorem d_Mo_book_39 : decode cX9_book 39 = .ok (.iload_n 2, 1) := by decide +kernel
theorem d_Mo_book_40 : decode cX9_book 40 = .ok (.iadd, 1) := by decide +kernel
theorem d_Mo_book_41 : decode cX9_book 41 = .ok (.iaload, 1) := by decide +kernel
theorem d_Mo_book_42 : decode cX9_book 42 = .ok (.goto 4, 3) := by decide +kernel
theorem d_Mo_book_45 : decode cX9_book 45 = .ok (.iconst (-1), 1) := by decide +kernel
theorem d_Mo_book_46 : decode cX9_book 46 = .ok (.ireturn, 1) := by decide +kernel
theorem d_Mo_thinks_0 : decode cX9_thinks 0 = .ok (.iconst 0, 1) := by decide +kernel
theorem d_Mo_thinks_1 : decode cX9_thinks 1 = .ok (.istore_n 1, 1) := by decide +kernel
theorem d_Mo_thinks_2 : decode cX9_thinks 2 = .ok (.iload_n 1, 1) := by decide +kernel
theorem d_Mo_thinks_3 : decode cX9_thinks 3 = .ok (.bipush 79, 2) := by decide +kernel
theorem d_Mo_thinks_5 : decode cX9_thinks 5 = .ok (.if_icmp .ge 21, 3) := by decide +kernel
theorem d_Mo_thinks_8 : decode cX9_thinks 8 = .ok (.aload_n 0, 1) := by decide +kernel
theorem d_Mo_thinks_9 : decode cX9_thinks 9 = .ok (.getfield 16, 3) := by decide +kernel
theorem d_Mo_thinks_12 : decode cX9_thinks 12 = .ok (.iload_n 1, 1) := by decide +kernel
theorem d_Mo_thinks_13 : decode cX9_thinks 13 = .ok (.aload_n 0, 1) := by decide +kernel
theorem d_Mo_thinks_14 : decode cX9_thinks 14 = .ok (.getfield 7, 3) := by decide +kernel
theorem d_Mo_thinks_17 : decode cX9_thinks 17 = .ok (.iload_n 1, 1) := by decide +kernel
theorem d_Mo_thinks_18 : decode cX9_thinks 18 = .ok (.iaload, 1) := by decide +kernel
theorem d_Mo_thinks_19 : decode cX9_thinks 19 = .ok (.iastore, 1) := by decide +kernel
theorem d_Mo_thinks_20 : decode cX9_thinks 20 = .ok (.iinc 1 1, 3) := by decide +kernel
theorem d_Mo_thinks_23 : decode cX9_thinks 23 = .ok (.goto (-21), 3) := by decide +kernel
theorem d_Mo_thinks_26 : decode cX9_thinks 26 = .ok (.aload_n 0, 1) := by decide +kernel
theorem d_Mo_thinks_27 : decode cX9_thinks 27 = .ok (.iconst 1, 1) := by decide +kernel
theorem d_Mo_thinks_28 : decode cX9_thinks 28 = .ok (.putfield 146, 3) := by decide +kernel
theorem d_Mo_thinks_31 : decode cX9_thinks 31 = .ok (.return_, 1) := by decide +kernel
theorem d_Mo_endsThought_0 : decode cX9_endsThought 0 = .ok (.iconst 0, 1) := by decide +kernel
theorem d_Mo_endsThought_1 : decode cX9_endsThought 1 = .ok (.istore_n 1, 1) := by decide +kernel
theorem d_Mo_endsThought_2 : decode cX9_endsThought 2 = .ok (.iload_n 1, 1) := by decide +kernel
theorem d_Mo_endsThought_3 : decode cX9_endsThought 3 = .ok (.bipush 79, 2) := by decide +kernel
theorem d_Mo_endsThought_5 : decode cX9_endsThought 5 = .ok (.if_icmp .ge 21, 3) := by decide +kernel
theorem d_Mo_endsThought_8 : decode cX9_endsThought 8 = .ok (.aload_n 0, 1) := by decide +kernel
theorem d_Mo_endsThought_9 : decode cX9_endsThought 9 = .ok (.getfield 7, 3) := by decide +kernel
theorem d_Mo_endsThought_12 : decode cX9_endsThought 12 = .ok (.iload_n 1, 1) := by decide +kernel
theorem d_Mo_endsThought_13 : decode cX9_endsThought 13 = .ok (.aload_n 0, 1) := by decide +kernel
theorem d_Mo_endsThought_14 : decode cX9_endsThought 14 = .ok (.getfield 16, 3) := by decide +kernel
theorem d_Mo_endsThought_17 : decode cX9_endsThought 17 = .ok (.iload_n 1, 1) := by decide +kernel
theorem d_Mo_endsThought_18 : decode cX9_endsThought 18 = .ok (.iaload, 1) := by decide +kernel
theorem d_Mo_endsThought_19 : decode cX9_endsThought 19 = .ok (.iastore, 1) := by decide +kernel
theorem d_Mo_endsThought_20 : decode cX9_endsThought 20 = .ok (.iinc 1 1, 3) := by decide +kernel
theorem d_Mo_endsThought_23 : decode cX9_endsThought 23 = .ok (.goto (-21), 3) := by decide +kernel
theorem d_Mo_endsThought_26 : decode cX9_endsThought 26 = .ok (.aload_n 0, 1) := by decide +kernel
theorem d_Mo_endsThought_27 : decode cX9_endsThought 27 = .ok (.iconst 0, 1) := by decide +kernel
theorem d_Mo_endsThought_28 : decode cX9_endsThought 28 = .ok (.putfield 146, 3) := by decide +kernel
theorem d_Mo_endsThought_31 : decode cX9_endsThought 31 = .ok (.return_, 1) := by decide +kernel
theorem d_Mo_goes_0 : decode cX9_goes 0 = .ok (.aload_n 0, 1) := by decide +kernel
theorem d_Mo_goes_1 : decode cX9_goes 1 = .ok (.iconst 0, 1) := by decide +kernel
theorem d_Mo_goes_2 : decode cX9_goes 2 = .ok (.putfield 140, 3) := by decide +kernel
theorem d_Mo_goes_5 : decode cX9_goes 5 = .ok (.aload_n 0, 1) := by decide +kernel
theorem d_Mo_goes_6 : decode cX9_goes 6 = .ok (.iload_n 1, 1) := by decide +kernel
theorem d_Mo_goes_7 : decode cX9_goes 7 = .ok (.iconst 1, 1) := by decide +kernel
theorem d_Mo_goes_8 : decode cX9_goes 8 = .ok (.bipush 60, 2) := by decide +kernel
theorem d_Mo_goes_10 : decode cX9_goes 10 = .ok (.invokevirtual 162, 3) := by decide +kernel
theorem d_Mo_goes_13 : decode cX9_goes 13 = .ok (.ifCond .eq 13, 3) := by decide +kernel
theorem d_Mo_goes_16 : decode cX9_goes 16 = .ok (.aload_n 0, 1) := by decide +kernel
theorem d_Mo_goes_17 : decode cX9_goes 17 = .ok (.iload_n 2, 1) := by decide +kernel
theorem d_Mo_goes_18 : decode cX9_goes 18 = .ok (.iconst 0, 1) := by decide +kernel
theorem d_Mo_goes_19 : decode cX9_goes 19 = .ok (.iconst 3, 1) := by decide +kernel
theorem d_Mo_goes_20 : decode cX9_goes 20 = .ok (.invokevirtual 162, 3) := by decide +kernel
theorem d_Mo_goes_23 : decode cX9_goes 23 = .ok (.ifCond .ne 5, 3) := by decide +kernel
theorem d_Mo_goes_26 : decode cX9_goes 26 = .ok (.iconst (-1), 1) := by decide +kernel
theorem d_Mo_goes_27 : decode cX9_goes 27 = .ok (.ireturn, 1) := by decide +kernel
theorem d_Mo_goes_28 : decode cX9_goes 28 = .ok (.aload_n 0, 1) := by decide +kernel
theorem d_Mo_goes_29 : decode cX9_goes 29 = .ok (.invokevirtual 406, 3) := by decide +kernel
theorem d_Mo_goes_32 : decode cX9_goes 32 = .ok (.iconst 0, 1) := by decide +kernel
theorem d_Mo_goes_33 : decode cX9_goes 33 = .ok (.istore_n 3, 1) := by decide +kernel
theorem d_Mo_goes_34 : decode cX9_goes 34 = .ok (.iload_n 3, 1) := by decide +kernel
theorem d_Mo_goes_35 : decode cX9_goes 35 = .ok (.iload_n 1, 1) := by decide +kernel
theorem d_Mo_goes_36 : decode cX9_goes 36 = .ok (.if_icmp .ge 14, 3) := by decide +kernel
theorem d_Mo_goes_39 : decode cX9_goes 39 = .ok (.aload_n 0, 1) := by decide +kernel
theorem d_Mo_goes_40 : decode cX9_goes 40 = .ok (.invokevirtual 403, 3) := by decide +kernel
theorem d_Mo_goes_43 : decode cX9_goes 43 = .ok (.pop, 1) := by decide +kernel
theorem d_Mo_goes_44 : decode cX9_goes 44 = .ok (.iinc 3 1, 3) := by decide +kernel
theorem d_Mo_goes_47 : decode cX9_goes 47 = .ok (.goto (-13), 3) := by decide +kernel
theorem d_Mo_goes_50 : decode cX9_goes 50 = .ok (.iconst 0, 1) := by decide +kernel
theorem d_Mo_goes_51 : decode cX9_goes 51 = .ok (.istore_n 3, 1) := by decide +kernel
theorem d_Mo_goes_52 : decode cX9_goes 52 = .ok (.iconst 0, 1) := by decide +kernel
theorem d_Mo_goes_53 : decode cX9_goes 53 = .ok (.istore 4, 2) := by decide +kernel
theorem d_Mo_goes_55 : decode cX9_goes 55 = .ok (.iload 4, 2) := by decide +kernel
theorem d_Mo_goes_57 : decode cX9_goes 57 = .ok (.aload_n 0, 1) := by decide +kernel
theorem d_Mo_goes_58 : decode cX9_goes 58 = .ok (.getfield 152, 3) := by decide +kernel
theorem d_Mo_goes_61 : decode cX9_goes 61 = .ok (.if_icmp .ge 22, 3) := by decide +kernel
theorem d_Mo_goes_64 : decode cX9_goes 64 = .ok (.iload_n 3, 1) := by decide +kernel
theorem d_Mo_goes_65 : decode cX9_goes 65 = .ok (.aload_n 0, 1) := by decide +kernel
theorem d_Mo_goes_66 : decode cX9_goes 66 = .ok (.getfield 7, 3) := by decide +kernel
theorem d_Mo_goes_69 : decode cX9_goes 69 = .ok (.bipush 55, 2) := by decide +kernel
theorem d_Mo_goes_71 : decode cX9_goes 71 = .ok (.iload 4, 2) := by decide +kernel
theorem d_Mo_goes_73 : decode cX9_goes 73 = .ok (.iadd, 1) := by decide +kernel
theorem d_Mo_goes_74 : decode cX9_goes 74 = .ok (.iaload, 1) := by decide +kernel
theorem d_Mo_goes_75 : decode cX9_goes 75 = .ok (.iadd, 1) := by decide +kernel
theorem d_Mo_goes_76 : decode cX9_goes 76 = .ok (.istore_n 3, 1) := by decide +kernel
theorem d_Mo_goes_77 : decode cX9_goes 77 = .ok (.iinc 4 1, 3) := by decide +kernel
theorem d_Mo_goes_80 : decode cX9_goes 80 = .ok (.goto (-25), 3) := by decide +kernel
