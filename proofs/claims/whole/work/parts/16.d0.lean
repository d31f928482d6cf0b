theorem d_Realm_init_0 : decode cX5_init 0 = .ok (.aload_n 0, 1) := by decide +kernel
theorem d_Realm_init_1 : decode cX5_init 1 = .ok (.invokespecial 3, 3) := by decide +kernel
theorem d_Realm_init_4 : decode cX5_init 4 = .ok (.aload_n 0, 1) := by decide +kernel
theorem d_Realm_init_5 : decode cX5_init 5 = .ok (.iconst 0, 1) := by decide +kernel
theorem d_Realm_init_6 : decode cX5_init 6 = .ok (.putfield 9, 3) := by decide +kernel
theorem d_Realm_init_9 : decode cX5_init 9 = .ok (.aload_n 0, 1) := by decide +kernel
theorem d_Realm_init_10 : decode cX5_init 10 = .ok (.iconst 0, 1) := by decide +kernel
theorem d_Realm_init_11 : decode cX5_init 11 = .ok (.putfield 15, 3) := by decide +kernel
theorem d_Realm_init_14 : decode cX5_init 14 = .ok (.aload_n 0, 1) := by decide +kernel
theorem d_Realm_init_15 : decode cX5_init 15 = .ok (.bipush 12, 2) := by decide +kernel
theorem d_Realm_init_17 : decode cX5_init 17 = .ok (.newarray .int, 2) := by decide +kernel
theorem d_Realm_init_19 : decode cX5_init 19 = .ok (.putfield 18, 3) := by decide +kernel
theorem d_Realm_init_22 : decode cX5_init 22 = .ok (.aload_n 0, 1) := by decide +kernel
theorem d_Realm_init_23 : decode cX5_init 23 = .ok (.bipush 12, 2) := by decide +kernel
theorem d_Realm_init_25 : decode cX5_init 25 = .ok (.newarray .int, 2) := by decide +kernel
theorem d_Realm_init_27 : decode cX5_init 27 = .ok (.putfield 22, 3) := by decide +kernel
theorem d_Realm_init_30 : decode cX5_init 30 = .ok (.aload_n 0, 1) := by decide +kernel
theorem d_Realm_init_31 : decode cX5_init 31 = .ok (.bipush 12, 2) := by decide +kernel
theorem d_Realm_init_33 : decode cX5_init 33 = .ok (.newarray .int, 2) := by decide +kernel
theorem d_Realm_init_35 : decode cX5_init 35 = .ok (.putfield 25, 3) := by decide +kernel
theorem d_Realm_init_38 : decode cX5_init 38 = .ok (.aload_n 0, 1) := by decide +kernel
theorem d_Realm_init_39 : decode cX5_init 39 = .ok (.bipush 12, 2) := by decide +kernel
theorem d_Realm_init_41 : decode cX5_init 41 = .ok (.newarray .int, 2) := by decide +kernel
theorem d_Realm_init_43 : decode cX5_init 43 = .ok (.putfield 28, 3) := by decide +kernel
theorem d_Realm_init_46 : decode cX5_init 46 = .ok (.aload_n 0, 1) := by decide +kernel
theorem d_Realm_init_47 : decode cX5_init 47 = .ok (.bipush 12, 2) := by decide +kernel
theorem d_Realm_init_49 : decode cX5_init 49 = .ok (.newarray .int, 2) := by decide +kernel
theorem d_Realm_init_51 : decode cX5_init 51 = .ok (.putfield 31, 3) := by decide +kernel
theorem d_Realm_init_54 : decode cX5_init 54 = .ok (.aload_n 0, 1) := by decide +kernel
theorem d_Realm_init_55 : decode cX5_init 55 = .ok (.iconst 0, 1) := by decide +kernel
theorem d_Realm_init_56 : decode cX5_init 56 = .ok (.putfield 34, 3) := by decide +kernel
theorem d_Realm_init_59 : decode cX5_init 59 = .ok (.aload_n 0, 1) := by decide +kernel
theorem d_Realm_init_60 : decode cX5_init 60 = .ok (.iconst 0, 1) := by decide +kernel
theorem d_Realm_init_61 : decode cX5_init 61 = .ok (.putfield 37, 3) := by decide +kernel
theorem d_Realm_init_64 : decode cX5_init 64 = .ok (.aload_n 0, 1) := by decide +kernel
theorem d_Realm_init_65 : decode cX5_init 65 = .ok (.iconst 0, 1) := by decide +kernel
theorem d_Realm_init_66 : decode cX5_init 66 = .ok (.putfield 40, 3) := by decide +kernel
theorem d_Realm_init_69 : decode cX5_init 69 = .ok (.aload_n 0, 1) := by decide +kernel
theorem d_Realm_init_70 : decode cX5_init 70 = .ok (.bipush 6, 2) := by decide +kernel
theorem d_Realm_init_72 : decode cX5_init 72 = .ok (.newarray .int, 2) := by decide +kernel
theorem d_Realm_init_74 : decode cX5_init 74 = .ok (.putfield 43, 3) := by decide +kernel
theorem d_Realm_init_77 : decode cX5_init 77 = .ok (.aload_n 0, 1) := by decide +kernel
theorem d_Realm_init_78 : decode cX5_init 78 = .ok (.bipush 6, 2) := by decide +kernel
theorem d_Realm_init_80 : decode cX5_init 80 = .ok (.newarray .int, 2) := by decide +kernel
theorem d_Realm_init_82 : decode cX5_init 82 = .ok (.putfield 46, 3) := by decide +kernel
theorem d_Realm_init_85 : decode cX5_init 85 = .ok (.aload_n 0, 1) := by decide +kernel
theorem d_Realm_init_86 : decode cX5_init 86 = .ok (.bipush 6, 2) := by decide +kernel
theorem d_Realm_init_88 : decode cX5_init 88 = .ok (.newarray .int, 2) := by decide +kernel
theorem d_Realm_init_90 : decode cX5_init 90 = .ok (.putfield 49, 3) := by decide +kernel
theorem d_Realm_init_93 : decode cX5_init 93 = .ok (.aload_n 0, 1) := by decide +kernel
theorem d_Realm_init_94 : decode cX5_init 94 = .ok (.bipush 6, 2) := by decide +kernel
theorem d_Realm_init_96 : decode cX5_init 96 = .ok (.newarray .int, 2) := by decide +kernel
theorem d_Realm_init_98 : decode cX5_init 98 = .ok (.putfield 52, 3) := by decide +kernel
theorem d_Realm_init_101 : decode cX5_init 101 = .ok (.aload_n 0, 1) := by decide +kernel
theorem d_Realm_init_102 : decode cX5_init 102 = .ok (.bipush 15, 2) := by decide +kernel
theorem d_Realm_init_104 : decode cX5_init 104 = .ok (.putfield 55, 3) := by decide +kernel
theorem d_Realm_init_107 : decode cX5_init 107 = .ok (.aload_n 0, 1) := by decide +kernel
theorem d_Realm_init_108 : decode cX5_init 108 = .ok (.iconst 0, 1) := by decide +kernel
theorem d_Realm_init_109 : decode cX5_init 109 = .ok (.putfield 58, 3) := by decide +kernel
theorem d_Realm_init_112 : decode cX5_init 112 = .ok (.aload_n 0, 1) := by decide +kernel
theorem d_Realm_init_113 : decode cX5_init 113 = .ok (.iconst 0, 1) := by decide +kernel
theorem d_Realm_init_114 : decode cX5_init 114 = .ok (.putfield 61, 3) := by decide +kernel
theorem d_Realm_init_117 : decode cX5_init 117 = .ok (.aload_n 0, 1) := by decide +kernel
theorem d_Realm_init_118 : decode cX5_init 118 = .ok (.iconst 0, 1) := by decide +kernel
theorem d_Realm_init_119 : decode cX5_init 119 = .ok (.putfield 64, 3) := by decide +kernel
theorem d_Realm_init_122 : decode cX5_init 122 = .ok (.aload_n 0, 1) := by decide +kernel
theorem d_Realm_init_123 : decode cX5_init 123 = .ok (.iconst 0, 1) := by decide +kernel
theorem d_Realm_init_124 : decode cX5_init 124 = .ok (.putfield 67, 3) := by decide +kernel
theorem d_Realm_init_127 : decode cX5_init 127 = .ok (.aload_n 0, 1) := by decide +kernel
theorem d_Realm_init_128 : decode cX5_init 128 = .ok (.iconst 0, 1) := by decide +kernel
theorem d_Realm_init_129 : decode cX5_init 129 = .ok (.putfield 70, 3) := by decide +kernel
theorem d_Realm_init_132 : decode cX5_init 132 = .ok (.return_, 1) := by decide +kernel
theorem d_Row_init_0 : decode cX6_init 0 = .ok (.aload_n 0, 1) := by decide +kernel
theorem d_Row_init_1 : decode cX6_init 1 = .ok (.invokespecial 3, 3) := by decide +kernel
theorem d_Row_init_4 : decode cX6_init 4 = .ok (.aload_n 0, 1) := by decide +kernel
theorem d_Row_init_5 : decode cX6_init 5 = .ok (.iconst 0, 1) := by decide +kernel
theorem d_Row_init_6 : decode cX6_init 6 = .ok (.putfield 9, 3) := by decide +kernel
theorem d_Row_init_9 : decode cX6_init 9 = .ok (.aload_n 0, 1) := by decide +kernel
theorem d_Row_init_10 : decode cX6_init 10 = .ok (.iload_n 1, 1) := by decide +kernel
theorem d_Row_init_11 : decode cX6_init 11 = .ok (.putfield 15, 3) := by decide +kernel
theorem d_Row_init_14 : decode cX6_init 14 = .ok (.aload_n 0, 1) := by decide +kernel
theorem d_Row_init_15 : decode cX6_init 15 = .ok (.iload_n 1, 1) := by decide +kernel
theorem d_Row_init_16 : decode cX6_init 16 = .ok (.ifCond .le 13, 3) := by decide +kernel
theorem d_Row_init_19 : decode cX6_init 19 = .ok (.iload_n 2, 1) := by decide +kernel
theorem d_Row_init_20 : decode cX6_init 20 = .ok (.ifCond .le 9, 3) := by decide +kernel
theorem d_Row_init_23 : decode cX6_init 23 = .ok (.iload_n 1, 1) := by decide +kernel
theorem d_Row_init_24 : decode cX6_init 24 = .ok (.iload_n 2, 1) := by decide +kernel
theorem d_Row_init_25 : decode cX6_init 25 = .ok (.imul, 1) := by decide +kernel
theorem d_Row_init_26 : decode cX6_init 26 = .ok (.goto 4, 3) := by decide +kernel
theorem d_Row_init_29 : decode cX6_init 29 = .ok (.iconst 0, 1) := by decide +kernel
theorem d_Row_init_30 : decode cX6_init 30 = .ok (.newarray .int, 2) := by decide +kernel
theorem d_Row_init_32 : decode cX6_init 32 = .ok (.putfield 18, 3) := by decide +kernel
theorem d_Row_init_35 : decode cX6_init 35 = .ok (.return_, 1) := by decide +kernel
theorem d_Law_init_0 : decode cX2_init 0 = .ok (.aload_n 0, 1) := by decide +kernel
theorem d_Law_init_1 : decode cX2_init 1 = .ok (.invokespecial 3, 3) := by decide +kernel
theorem d_Law_init_4 : decode cX2_init 4 = .ok (.aload_n 0, 1) := by decide +kernel
theorem d_Law_init_5 : decode cX2_init 5 = .ok (.new 9, 3) := by decide +kernel
theorem d_Law_init_8 : decode cX2_init 8 = .ok (.dup, 1) := by decide +kernel
theorem d_Law_init_9 : decode cX2_init 9 = .ok (.iconst 4, 1) := by decide +kernel
theorem d_Law_init_10 : decode cX2_init 10 = .ok (.bipush 16, 2) := by decide +kernel
theorem d_Law_init_12 : decode cX2_init 12 = .ok (.invokespecial 11, 3) := by decide +kernel
theorem d_Law_init_15 : decode cX2_init 15 = .ok (.putfield 14, 3) := by decide +kernel
theorem d_Law_init_18 : decode cX2_init 18 = .ok (.aload_n 0, 1) := by decide +kernel
theorem d_Law_init_19 : decode cX2_init 19 = .ok (.sipush 400, 3) := by decide +kernel
theorem d_Law_init_22 : decode cX2_init 22 = .ok (.newarray .int, 2) := by decide +kernel
theorem d_Law_init_24 : decode cX2_init 24 = .ok (.putfield 20, 3) := by decide +kernel
theorem d_Law_init_27 : decode cX2_init 27 = .ok (.aload_n 0, 1) := by decide +kernel
theorem d_Law_init_28 : decode cX2_init 28 = .ok (.iconst 0, 1) := by decide +kernel
theorem d_Law_init_29 : decode cX2_init 29 = .ok (.putfield 24, 3) := by decide +kernel
theorem d_Law_init_32 : decode cX2_init 32 = .ok (.aload_n 0, 1) := by decide +kernel
theorem d_Law_init_33 : decode cX2_init 33 = .ok (.bipush 10, 2) := by decide +kernel
theorem d_Law_init_35 : decode cX2_init 35 = .ok (.newarray .int, 2) := by decide +kernel
theorem d_Law_init_37 : decode cX2_init 37 = .ok (.putfield 28, 3) := by decide +kernel
theorem d_Law_init_40 : decode cX2_init 40 = .ok (.aload_n 0, 1) := by decide +kernel
theorem d_Law_init_41 : decode cX2_init 41 = .ok (.bipush 32, 2) := by decide +kernel
theorem d_Law_init_43 : decode cX2_init 43 = .ok (.newarray .int, 2) := by decide +kernel
theorem d_Law_init_45 : decode cX2_init 45 = .ok (.putfield 31, 3) := by decide +kernel
theorem d_Law_init_48 : decode cX2_init 48 = .ok (.return_, 1) := by decide +kernel
theorem d_Told_init_0 : decode cX7_init 0 = .ok (.aload_n 0, 1) := by decide +kernel
theorem d_Told_init_1 : decode cX7_init 1 = .ok (.invokespecial 3, 3) := by decide +kernel
theorem d_Told_init_4 : decode cX7_init 4 = .ok (.aload_n 0, 1) := by decide +kernel
theorem d_Told_init_5 : decode cX7_init 5 = .ok (.new 9, 3) := by decide +kernel
theorem d_Told_init_8 : decode cX7_init 8 = .ok (.dup, 1) := by decide +kernel
theorem d_Told_init_9 : decode cX7_init 9 = .ok (.iconst 3, 1) := by decide +kernel
theorem d_Told_init_10 : decode cX7_init 10 = .ok (.bipush 8, 2) := by decide +kernel
theorem d_Told_init_12 : decode cX7_init 12 = .ok (.invokespecial 11, 3) := by decide +kernel
theorem d_Told_init_15 : decode cX7_init 15 = .ok (.putfield 14, 3) := by decide +kernel
theorem d_Told_init_18 : decode cX7_init 18 = .ok (.aload_n 0, 1) := by decide +kernel
theorem d_Told_init_19 : decode cX7_init 19 = .ok (.new 9, 3) := by decide +kernel
theorem d_Told_init_22 : decode cX7_init 22 = .ok (.dup, 1) := by decide +kernel
theorem d_Told_init_23 : decode cX7_init 23 = .ok (.iconst 2, 1) := by decide +kernel
theorem d_Told_init_24 : decode cX7_init 24 = .ok (.bipush 16, 2) := by decide +kernel
theorem d_Told_init_26 : decode cX7_init 26 = .ok (.invokespecial 11, 3) := by decide +kernel
theorem d_Told_init_29 : decode cX7_init 29 = .ok (.putfield 20, 3) := by decide +kernel
theorem d_Told_init_32 : decode cX7_init 32 = .ok (.aload_n 0, 1) := by decide +kernel
theorem d_Told_init_33 : decode cX7_init 33 = .ok (.new 9, 3) := by decide +kernel
theorem d_Told_init_36 : decode cX7_init 36 = .ok (.dup, 1) := by decide +kernel
theorem d_Told_init_37 : decode cX7_init 37 = .ok (.iconst 1, 1) := by decide +kernel
theorem d_Told_init_38 : decode cX7_init 38 = .ok (.bipush 8, 2) := by decide +kernel
theorem d_Told_init_40 : decode cX7_init 40 = .ok (.invokespecial 11, 3) := by decide +kernel
theorem d_Told_init_43 : decode cX7_init 43 = .ok (.putfield 23, 3) := by decide +kernel
theorem d_Told_init_46 : decode cX7_init 46 = .ok (.aload_n 0, 1) := by decide +kernel
theorem d_Told_init_47 : decode cX7_init 47 = .ok (.new 9, 3) := by decide +kernel
theorem d_Told_init_50 : decode cX7_init 50 = .ok (.dup, 1) := by decide +kernel
theorem d_Told_init_51 : decode cX7_init 51 = .ok (.iconst 1, 1) := by decide +kernel
theorem d_Told_init_52 : decode cX7_init 52 = .ok (.bipush 10, 2) := by decide +kernel
theorem d_Told_init_54 : decode cX7_init 54 = .ok (.invokespecial 11, 3) := by decide +kernel
theorem d_Told_init_57 : decode cX7_init 57 = .ok (.putfield 26, 3) := by decide +kernel
theorem d_Told_init_60 : decode cX7_init 60 = .ok (.aload_n 0, 1) := by decide +kernel
theorem d_Told_init_61 : decode cX7_init 61 = .ok (.new 9, 3) := by decide +kernel
theorem d_Told_init_64 : decode cX7_init 64 = .ok (.dup, 1) := by decide +kernel
theorem d_Told_init_65 : decode cX7_init 65 = .ok (.iconst 2, 1) := by decide +kernel
theorem d_Told_init_66 : decode cX7_init 66 = .ok (.bipush 6, 2) := by decide +kernel
theorem d_Told_init_68 : decode cX7_init 68 = .ok (.invokespecial 11, 3) := by decide +kernel
theorem d_Told_init_71 : decode cX7_init 71 = .ok (.putfield 29, 3) := by decide +kernel
theorem d_Told_init_74 : decode cX7_init 74 = .ok (.aload_n 0, 1) := by decide +kernel
theorem d_Told_init_75 : decode cX7_init 75 = .ok (.new 9, 3) := by decide +kernel
theorem d_Told_init_78 : decode cX7_init 78 = .ok (.dup, 1) := by decide +kernel
theorem d_Told_init_79 : decode cX7_init 79 = .ok (.iconst 1, 1) := by decide +kernel
theorem d_Told_init_80 : decode cX7_init 80 = .ok (.bipush 12, 2) := by decide +kernel
theorem d_Told_init_82 : decode cX7_init 82 = .ok (.invokespecial 11, 3) := by decide +kernel
theorem d_Told_init_85 : decode cX7_init 85 = .ok (.putfield 32, 3) := by decide +kernel
theorem d_Told_init_88 : decode cX7_init 88 = .ok (.aload_n 0, 1) := by decide +kernel
theorem d_Told_init_89 : decode cX7_init 89 = .ok (.bipush 24, 2) := by decide +kernel
theorem d_Told_init_91 : decode cX7_init 91 = .ok (.newarray .int, 2) := by decide +kernel
theorem d_Told_init_93 : decode cX7_init 93 = .ok (.putfield 35, 3) := by decide +kernel
theorem d_Told_init_96 : decode cX7_init 96 = .ok (.aload_n 0, 1) := by decide +kernel
theorem d_Told_init_97 : decode cX7_init 97 = .ok (.bipush 24, 2) := by decide +kernel
theorem d_Told_init_99 : decode cX7_init 99 = .ok (.newarray .int, 2) := by decide +kernel
theorem d_Told_init_101 : decode cX7_init 101 = .ok (.putfield 39, 3) := by decide +kernel
theorem d_Told_init_104 : decode cX7_init 104 = .ok (.aload_n 0, 1) := by decide +kernel
theorem d_Told_init_105 : decode cX7_init 105 = .ok (.iconst 0, 1) := by decide +kernel
theorem d_Told_init_106 : decode cX7_init 106 = .ok (.putfield 42, 3) := by decide +kernel
theorem d_Told_init_109 : decode cX7_init 109 = .ok (.aload_n 0, 1) := by decide +kernel
theorem d_Told_init_110 : decode cX7_init 110 = .ok (.iconst 0, 1) := by decide +kernel
theorem d_Told_init_111 : decode cX7_init 111 = .ok (.putfield 46, 3) := by decide +kernel
theorem d_Told_init_114 : decode cX7_init 114 = .ok (.return_, 1) := by decide +kernel
theorem d_Land_init_0 : decode cX1_init 0 = .ok (.aload_n 0, 1) := by decide +kernel
theorem d_Land_init_1 : decode cX1_init 1 = .ok (.invokespecial 3, 3) := by decide +kernel
theorem d_Land_init_4 : decode cX1_init 4 = .ok (.aload_n 0, 1) := by decide +kernel
theorem d_Land_init_5 : decode cX1_init 5 = .ok (.new 9, 3) := by decide +kernel
theorem d_Land_init_8 : decode cX1_init 8 = .ok (.dup, 1) := by decide +kernel
theorem d_Land_init_9 : decode cX1_init 9 = .ok (.invokespecial 11, 3) := by decide +kernel
theorem d_Land_init_12 : decode cX1_init 12 = .ok (.putfield 12, 3) := by decide +kernel
theorem d_Land_init_15 : decode cX1_init 15 = .ok (.aload_n 0, 1) := by decide +kernel
theorem d_Land_init_16 : decode cX1_init 16 = .ok (.sipush 600, 3) := by decide +kernel
theorem d_Land_init_19 : decode cX1_init 19 = .ok (.newarray .int, 2) := by decide +kernel
theorem d_Land_init_21 : decode cX1_init 21 = .ok (.putfield 18, 3) := by decide +kernel
theorem d_Land_init_24 : decode cX1_init 24 = .ok (.aload_n 0, 1) := by decide +kernel
theorem d_Land_init_25 : decode cX1_init 25 = .ok (.new 22, 3) := by decide +kernel
theorem d_Land_init_28 : decode cX1_init 28 = .ok (.dup, 1) := by decide +kernel
theorem d_Land_init_29 : decode cX1_init 29 = .ok (.invokespecial 24, 3) := by decide +kernel
theorem d_Land_init_32 : decode cX1_init 32 = .ok (.putfield 25, 3) := by decide +kernel
theorem d_Land_init_35 : decode cX1_init 35 = .ok (.aload_n 0, 1) := by decide +kernel
theorem d_Land_init_36 : decode cX1_init 36 = .ok (.new 29, 3) := by decide +kernel
theorem d_Land_init_39 : decode cX1_init 39 = .ok (.dup, 1) := by decide +kernel
theorem d_Land_init_40 : decode cX1_init 40 = .ok (.iconst 4, 1) := by decide +kernel
theorem d_Land_init_41 : decode cX1_init 41 = .ok (.bipush 16, 2) := by decide +kernel
theorem d_Land_init_43 : decode cX1_init 43 = .ok (.invokespecial 31, 3) := by decide +kernel
theorem d_Land_init_46 : decode cX1_init 46 = .ok (.putfield 34, 3) := by decide +kernel
theorem d_Land_init_49 : decode cX1_init 49 = .ok (.aload_n 0, 1) := by decide +kernel
theorem d_Land_init_50 : decode cX1_init 50 = .ok (.new 29, 3) := by decide +kernel
theorem d_Land_init_53 : decode cX1_init 53 = .ok (.dup, 1) := by decide +kernel
theorem d_Land_init_54 : decode cX1_init 54 = .ok (.iconst 4, 1) := by decide +kernel
theorem d_Land_init_55 : decode cX1_init 55 = .ok (.bipush 16, 2) := by decide +kernel
theorem d_Land_init_57 : decode cX1_init 57 = .ok (.invokespecial 31, 3) := by decide +kernel
theorem d_Land_init_60 : decode cX1_init 60 = .ok (.putfield 38, 3) := by decide +kernel
theorem d_Land_init_63 : decode cX1_init 63 = .ok (.aload_n 0, 1) := by decide +kernel
theorem d_Land_init_64 : decode cX1_init 64 = .ok (.new 29, 3) := by decide +kernel
theorem d_Land_init_67 : decode cX1_init 67 = .ok (.dup, 1) := by decide +kernel
theorem d_Land_init_68 : decode cX1_init 68 = .ok (.iconst 4, 1) := by decide +kernel
theorem d_Land_init_69 : decode cX1_init 69 = .ok (.bipush 16, 2) := by decide +kernel
theorem d_Land_init_71 : decode cX1_init 71 = .ok (.invokespecial 31, 3) := by decide +kernel
theorem d_Land_init_74 : decode cX1_init 74 = .ok (.putfield 41, 3) := by decide +kernel
theorem d_Land_init_77 : decode cX1_init 77 = .ok (.aload_n 0, 1) := by decide +kernel
theorem d_Land_init_78 : decode cX1_init 78 = .ok (.new 44, 3) := by decide +kernel
theorem d_Land_init_81 : decode cX1_init 81 = .ok (.dup, 1) := by decide +kernel
theorem d_Land_init_82 : decode cX1_init 82 = .ok (.invokespecial 46, 3) := by decide +kernel
theorem d_Land_init_85 : decode cX1_init 85 = .ok (.putfield 47, 3) := by decide +kernel
theorem d_Land_init_88 : decode cX1_init 88 = .ok (.return_, 1) := by decide +kernel
theorem d_Log_init_0 : decode cX3_init 0 = .ok (.aload_n 0, 1) := by decide +kernel
theorem d_Log_init_1 : decode cX3_init 1 = .ok (.invokespecial 3, 3) := by decide +kernel
theorem d_Log_init_4 : decode cX3_init 4 = .ok (.aload_n 0, 1) := by decide +kernel
theorem d_Log_init_5 : decode cX3_init 5 = .ok (.bipush 6, 2) := by decide +kernel
theorem d_Log_init_7 : decode cX3_init 7 = .ok (.anewarray 9, 3) := by decide +kernel
theorem d_Log_init_10 : decode cX3_init 10 = .ok (.putfield 11, 3) := by decide +kernel
theorem d_Log_init_13 : decode cX3_init 13 = .ok (.aload_n 0, 1) := by decide +kernel
theorem d_Log_init_14 : decode cX3_init 14 = .ok (.iconst 0, 1) := by decide +kernel
theorem d_Log_init_15 : decode cX3_init 15 = .ok (.putfield 17, 3) := by decide +kernel
theorem d_Log_init_18 : decode cX3_init 18 = .ok (.aload_n 0, 1) := by decide +kernel
theorem d_Log_init_19 : decode cX3_init 19 = .ok (.iconst 0, 1) := by decide +kernel
theorem d_Log_init_20 : decode cX3_init 20 = .ok (.putfield 21, 3) := by decide +kernel
theorem d_Log_init_23 : decode cX3_init 23 = .ok (.iconst 0, 1) := by decide +kernel
theorem d_Log_init_24 : decode cX3_init 24 = .ok (.istore_n 1, 1) := by decide +kernel
theorem d_Log_init_25 : decode cX3_init 25 = .ok (.iload_n 1, 1) := by decide +kernel
theorem d_Log_init_26 : decode cX3_init 26 = .ok (.bipush 6, 2) := by decide +kernel
theorem d_Log_init_28 : decode cX3_init 28 = .ok (.if_icmp .ge 22, 3) := by decide +kernel
theorem d_Log_init_31 : decode cX3_init 31 = .ok (.aload_n 0, 1) := by decide +kernel
theorem d_Log_init_32 : decode cX3_init 32 = .ok (.getfield 11, 3) := by decide +kernel
theorem d_Log_init_35 : decode cX3_init 35 = .ok (.iload_n 1, 1) := by decide +kernel
theorem d_Log_init_36 : decode cX3_init 36 = .ok (.new 9, 3) := by decide +kernel
theorem d_Log_init_39 : decode cX3_init 39 = .ok (.dup, 1) := by decide +kernel
theorem d_Log_init_40 : decode cX3_init 40 = .ok (.invokespecial 24, 3) := by decide +kernel
theorem d_Log_init_43 : decode cX3_init 43 = .ok (.aastore, 1) := by decide +kernel
theorem d_Log_init_44 : decode cX3_init 44 = .ok (.iinc 1 1, 3) := by decide +kernel
theorem d_Log_init_47 : decode cX3_init 47 = .ok (.goto (-22), 3) := by decide +kernel
theorem d_Log_init_50 : decode cX3_init 50 = .ok (.return_, 1) := by decide +kernel
theorem d_Reader_init_0 : decode cX4_init 0 = .ok (.aload_n 0, 1) := by decide +kernel
theorem d_Reader_init_1 : decode cX4_init 1 = .ok (.invokespecial 5, 3) := by decide +kernel
theorem d_Reader_init_4 : decode cX4_init 4 = .ok (.aload_n 0, 1) := by decide +kernel
theorem d_Reader_init_5 : decode cX4_init 5 = .ok (.sipush 400, 3) := by decide +kernel
theorem d_Reader_init_8 : decode cX4_init 8 = .ok (.newarray .int, 2) := by decide +kernel
theorem d_Reader_init_10 : decode cX4_init 10 = .ok (.putfield 11, 3) := by decide +kernel
theorem d_Reader_init_13 : decode cX4_init 13 = .ok (.aload_n 0, 1) := by decide +kernel
theorem d_Reader_init_14 : decode cX4_init 14 = .ok (.iconst 0, 1) := by decide +kernel
theorem d_Reader_init_15 : decode cX4_init 15 = .ok (.putfield 15, 3) := by decide +kernel
theorem d_Reader_init_18 : decode cX4_init 18 = .ok (.aload_n 0, 1) := by decide +kernel
theorem d_Reader_init_19 : decode cX4_init 19 = .ok (.iconst 0, 1) := by decide +kernel
theorem d_Reader_init_20 : decode cX4_init 20 = .ok (.putfield 19, 3) := by decide +kernel
theorem d_Reader_init_23 : decode cX4_init 23 = .ok (.aload_n 0, 1) := by decide +kernel
theorem d_Reader_init_24 : decode cX4_init 24 = .ok (.iconst (-1), 1) := by decide +kernel
theorem d_Reader_init_25 : decode cX4_init 25 = .ok (.putfield 22, 3) := by decide +kernel
theorem d_Reader_init_28 : decode cX4_init 28 = .ok (.aload_n 0, 1) := by decide +kernel
theorem d_Reader_init_29 : decode cX4_init 29 = .ok (.new 25, 3) := by decide +kernel
theorem d_Reader_init_32 : decode cX4_init 32 = .ok (.dup, 1) := by decide +kernel
theorem d_Reader_init_33 : decode cX4_init 33 = .ok (.invokespecial 27, 3) := by decide +kernel
theorem d_Reader_init_36 : decode cX4_init 36 = .ok (.putfield 28, 3) := by decide +kernel
theorem d_Reader_init_39 : decode cX4_init 39 = .ok (.aload_n 0, 1) := by decide +kernel
theorem d_Reader_init_40 : decode cX4_init 40 = .ok (.new 32, 3) := by decide +kernel
theorem d_Reader_init_43 : decode cX4_init 43 = .ok (.dup, 1) := by decide +kernel
theorem d_Reader_init_44 : decode cX4_init 44 = .ok (.iconst 4, 1) := by decide +kernel
theorem d_Reader_init_45 : decode cX4_init 45 = .ok (.bipush 16, 2) := by decide +kernel
theorem d_Reader_init_47 : decode cX4_init 47 = .ok (.invokespecial 34, 3) := by decide +kernel
theorem d_Reader_init_50 : decode cX4_init 50 = .ok (.putfield 37, 3) := by decide +kernel
theorem d_Reader_init_53 : decode cX4_init 53 = .ok (.aload_n 0, 1) := by decide +kernel
theorem d_Reader_init_54 : decode cX4_init 54 = .ok (.sipush 401, 3) := by decide +kernel
theorem d_Reader_init_57 : decode cX4_init 57 = .ok (.newarray .int, 2) := by decide +kernel
theorem d_Reader_init_59 : decode cX4_init 59 = .ok (.putfield 41, 3) := by decide +kernel
theorem d_Reader_init_62 : decode cX4_init 62 = .ok (.aload_n 0, 1) := by decide +kernel
theorem d_Reader_init_63 : decode cX4_init 63 = .ok (.sipush 401, 3) := by decide +kernel
theorem d_Reader_init_66 : decode cX4_init 66 = .ok (.newarray .int, 2) := by decide +kernel
theorem d_Reader_init_68 : decode cX4_init 68 = .ok (.putfield 44, 3) := by decide +kernel
theorem d_Reader_init_71 : decode cX4_init 71 = .ok (.aload_n 0, 1) := by decide +kernel
theorem d_Reader_init_72 : decode cX4_init 72 = .ok (.iconst 0, 1) := by decide +kernel
theorem d_Reader_init_73 : decode cX4_init 73 = .ok (.putfield 47, 3) := by decide +kernel
theorem d_Reader_init_76 : decode cX4_init 76 = .ok (.aload_n 0, 1) := by decide +kernel
theorem d_Reader_init_77 : decode cX4_init 77 = .ok (.iconst (-1), 1) := by decide +kernel
theorem d_Reader_init_78 : decode cX4_init 78 = .ok (.putfield 50, 3) := by decide +kernel
theorem d_Reader_init_81 : decode cX4_init 81 = .ok (.aload_n 0, 1) := by decide +kernel
theorem d_Reader_init_82 : decode cX4_init 82 = .ok (.iconst 0, 1) := by decide +kernel
theorem d_Reader_init_83 : decode cX4_init 83 = .ok (.putfield 53, 3) := by decide +kernel
theorem d_Reader_init_86 : decode cX4_init 86 = .ok (.return_, 1) := by decide +kernel
theorem d_Desk_init_0 : decode cX0_init 0 = .ok (.aload_n 0, 1) := by decide +kernel
theorem d_Desk_init_1 : decode cX0_init 1 = .ok (.invokespecial 3, 3) := by decide +kernel
theorem d_Desk_init_4 : decode cX0_init 4 = .ok (.aload_n 0, 1) := by decide +kernel
theorem d_Desk_init_5 : decode cX0_init 5 = .ok (.bipush 64, 2) := by decide +kernel
theorem d_Desk_init_7 : decode cX0_init 7 = .ok (.newarray .int, 2) := by decide +kernel
theorem d_Desk_init_9 : decode cX0_init 9 = .ok (.putfield 9, 3) := by decide +kernel
theorem d_Desk_init_12 : decode cX0_init 12 = .ok (.aload_n 0, 1) := by decide +kernel
theorem d_Desk_init_13 : decode cX0_init 13 = .ok (.sipush 256, 3) := by decide +kernel
theorem d_Desk_init_16 : decode cX0_init 16 = .ok (.newarray .int, 2) := by decide +kernel
theorem d_Desk_init_18 : decode cX0_init 18 = .ok (.putfield 15, 3) := by decide +kernel
theorem d_Desk_init_21 : decode cX0_init 21 = .ok (.aload_n 0, 1) := by decide +kernel
theorem d_Desk_init_22 : decode cX0_init 22 = .ok (.iconst 4, 1) := by decide +kernel
theorem d_Desk_init_23 : decode cX0_init 23 = .ok (.newarray .int, 2) := by decide +kernel
theorem d_Desk_init_25 : decode cX0_init 25 = .ok (.putfield 18, 3) := by decide +kernel
theorem d_Desk_init_28 : decode cX0_init 28 = .ok (.aload_n 0, 1) := by decide +kernel
theorem d_Desk_init_29 : decode cX0_init 29 = .ok (.iconst 4, 1) := by decide +kernel
theorem d_Desk_init_30 : decode cX0_init 30 = .ok (.newarray .int, 2) := by decide +kernel
theorem d_Desk_init_32 : decode cX0_init 32 = .ok (.putfield 21, 3) := by decide +kernel
theorem d_Desk_init_35 : decode cX0_init 35 = .ok (.aload_n 0, 1) := by decide +kernel
theorem d_Desk_init_36 : decode cX0_init 36 = .ok (.bipush 10, 2) := by decide +kernel
theorem d_Desk_init_38 : decode cX0_init 38 = .ok (.newarray .int, 2) := by decide +kernel
theorem d_Desk_init_40 : decode cX0_init 40 = .ok (.putfield 24, 3) := by decide +kernel
theorem d_Desk_init_43 : decode cX0_init 43 = .ok (.aload_n 0, 1) := by decide +kernel
theorem d_Desk_init_44 : decode cX0_init 44 = .ok (.bipush 10, 2) := by decide +kernel
theorem d_Desk_init_46 : decode cX0_init 46 = .ok (.newarray .int, 2) := by decide +kernel
theorem d_Desk_init_48 : decode cX0_init 48 = .ok (.putfield 27, 3) := by decide +kernel
theorem d_Desk_init_51 : decode cX0_init 51 = .ok (.return_, 1) := by decide +kernel
theorem d_Tc_init_0 : decode cX8_init 0 = .ok (.aload_n 0, 1) := by decide +kernel
theorem d_Tc_init_1 : decode cX8_init 1 = .ok (.invokespecial 1, 3) := by decide +kernel
theorem d_Tc_init_4 : decode cX8_init 4 = .ok (.aload_n 0, 1) := by decide +kernel
theorem d_Tc_init_5 : decode cX8_init 5 = .ok (.new 7, 3) := by decide +kernel
theorem d_Tc_init_8 : decode cX8_init 8 = .ok (.dup, 1) := by decide +kernel
theorem d_Tc_init_9 : decode cX8_init 9 = .ok (.invokespecial 9, 3) := by decide +kernel
theorem d_Tc_init_12 : decode cX8_init 12 = .ok (.putfield 10, 3) := by decide +kernel
theorem d_Tc_init_15 : decode cX8_init 15 = .ok (.aload_n 0, 1) := by decide +kernel
theorem d_Tc_init_16 : decode cX8_init 16 = .ok (.new 16, 3) := by decide +kernel
theorem d_Tc_init_19 : decode cX8_init 19 = .ok (.dup, 1) := by decide +kernel
theorem d_Tc_init_20 : decode cX8_init 20 = .ok (.invokespecial 18, 3) := by decide +kernel
theorem d_Tc_init_23 : decode cX8_init 23 = .ok (.putfield 19, 3) := by decide +kernel
theorem d_Tc_init_26 : decode cX8_init 26 = .ok (.aload_n 0, 1) := by decide +kernel
theorem d_Tc_init_27 : decode cX8_init 27 = .ok (.new 23, 3) := by decide +kernel
theorem d_Tc_init_30 : decode cX8_init 30 = .ok (.dup, 1) := by decide +kernel
theorem d_Tc_init_31 : decode cX8_init 31 = .ok (.invokespecial 25, 3) := by decide +kernel
theorem d_Tc_init_34 : decode cX8_init 34 = .ok (.putfield 26, 3) := by decide +kernel
theorem d_Tc_init_37 : decode cX8_init 37 = .ok (.aload_n 0, 1) := by decide +kernel
theorem d_Tc_init_38 : decode cX8_init 38 = .ok (.new 30, 3) := by decide +kernel
theorem d_Tc_init_41 : decode cX8_init 41 = .ok (.dup, 1) := by decide +kernel
theorem d_Tc_init_42 : decode cX8_init 42 = .ok (.invokespecial 32, 3) := by decide +kernel
theorem d_Tc_init_45 : decode cX8_init 45 = .ok (.putfield 33, 3) := by decide +kernel
theorem d_Tc_init_48 : decode cX8_init 48 = .ok (.aload_n 0, 1) := by decide +kernel
theorem d_Tc_init_49 : decode cX8_init 49 = .ok (.new 37, 3) := by decide +kernel
theorem d_Tc_init_52 : decode cX8_init 52 = .ok (.dup, 1) := by decide +kernel
theorem d_Tc_init_53 : decode cX8_init 53 = .ok (.invokespecial 39, 3) := by decide +kernel
theorem d_Tc_init_56 : decode cX8_init 56 = .ok (.putfield 40, 3) := by decide +kernel
theorem d_Tc_init_59 : decode cX8_init 59 = .ok (.aload_n 0, 1) := by decide +kernel
theorem d_Tc_init_60 : decode cX8_init 60 = .ok (.aconst_null, 1) := by decide +kernel
theorem d_Tc_init_61 : decode cX8_init 61 = .ok (.putfield 44, 3) := by decide +kernel
theorem d_Tc_init_64 : decode cX8_init 64 = .ok (.return_, 1) := by decide +kernel
theorem d_Log_forget_0 : decode cX3_forget 0 = .ok (.aload_n 0, 1) := by decide +kernel
theorem d_Log_forget_1 : decode cX3_forget 1 = .ok (.iconst 0, 1) := by decide +kernel
theorem d_Log_forget_2 : decode cX3_forget 2 = .ok (.putfield 21, 3) := by decide +kernel
theorem d_Log_forget_5 : decode cX3_forget 5 = .ok (.return_, 1) := by decide +kernel
theorem d_Tc_state_0 : decode cX8_state 0 = .ok (.aload_n 0, 1) := by decide +kernel
theorem d_Tc_state_1 : decode cX8_state 1 = .ok (.getfield 10, 3) := by decide +kernel
theorem d_Tc_state_4 : decode cX8_state 4 = .ok (.getfield 47, 3) := by decide +kernel
theorem d_Tc_state_7 : decode cX8_state 7 = .ok (.getfield 50, 3) := by decide +kernel
theorem d_Tc_state_10 : decode cX8_state 10 = .ok (.istore_n 2, 1) := by decide +kernel
theorem d_Tc_state_11 : decode cX8_state 11 = .ok (.aload_n 0, 1) := by decide +kernel
theorem d_Tc_state_12 : decode cX8_state 12 = .ok (.getfield 10, 3) := by decide +kernel
theorem d_Tc_state_15 : decode cX8_state 15 = .ok (.getfield 47, 3) := by decide +kernel
theorem d_Tc_state_18 : decode cX8_state 18 = .ok (.iload_n 1, 1) := by decide +kernel
theorem d_Tc_state_19 : decode cX8_state 19 = .ok (.putfield 50, 3) := by decide +kernel
theorem d_Tc_state_22 : decode cX8_state 22 = .ok (.aload_n 0, 1) := by decide +kernel
theorem d_Tc_state_23 : decode cX8_state 23 = .ok (.getfield 19, 3) := by decide +kernel
theorem d_Tc_state_26 : decode cX8_state 26 = .ok (.invokevirtual 54, 3) := by decide +kernel
theorem d_Tc_state_29 : decode cX8_state 29 = .ok (.iload_n 2, 1) := by decide +kernel
theorem d_Tc_state_30 : decode cX8_state 30 = .ok (.ireturn, 1) := by decide +kernel
theorem d_Tc_within_0 : decode cX8_within 0 = .ok (.iload_n 0, 1) := by decide +kernel
theorem d_Tc_within_1 : decode cX8_within 1 = .ok (.ifCond .lt 12, 3) := by decide +kernel
theorem d_Tc_within_4 : decode cX8_within 4 = .ok (.iload_n 0, 1) := by decide +kernel
theorem d_Tc_within_5 : decode cX8_within 5 = .ok (.iload_n 1, 1) := by decide +kernel
theorem d_Tc_within_6 : decode cX8_within 6 = .ok (.if_icmp .gt 7, 3) := by decide +kernel
theorem d_Tc_within_9 : decode cX8_within 9 = .ok (.iconst 1, 1) := by decide +kernel
theorem d_Tc_within_10 : decode cX8_within 10 = .ok (.goto 4, 3) := by decide +kernel
theorem d_Tc_within_13 : decode cX8_within 13 = .ok (.iconst 0, 1) := by decide +kernel
theorem d_Tc_within_14 : decode cX8_within 14 = .ok (.ireturn, 1) := by decide +kernel
theorem d_Realm_addTraveller_0 : decode cX5_addTraveller 0 = .ok (.aload_n 0, 1) := by decide +kernel
theorem d_Realm_addTraveller_1 : decode cX5_addTraveller 1 = .ok (.getfield 15, 3) := by decide +kernel
theorem d_Realm_addTraveller_4 : decode cX5_addTraveller 4 = .ok (.bipush 12, 2) := by decide +kernel
theorem d_Realm_addTraveller_6 : decode cX5_addTraveller 6 = .ok (.if_icmp .lt 5, 3) := by decide +kernel
theorem d_Realm_addTraveller_9 : decode cX5_addTraveller 9 = .ok (.iconst (-1), 1) := by decide +kernel
theorem d_Realm_addTraveller_10 : decode cX5_addTraveller 10 = .ok (.ireturn, 1) := by decide +kernel
theorem d_Realm_addTraveller_11 : decode cX5_addTraveller 11 = .ok (.aload_n 0, 1) := by decide +kernel
theorem d_Realm_addTraveller_12 : decode cX5_addTraveller 12 = .ok (.getfield 18, 3) := by decide +kernel
theorem d_Realm_addTraveller_15 : decode cX5_addTraveller 15 = .ok (.aload_n 0, 1) := by decide +kernel
theorem d_Realm_addTraveller_16 : decode cX5_addTraveller 16 = .ok (.getfield 15, 3) := by decide +kernel
theorem d_Realm_addTraveller_19 : decode cX5_addTraveller 19 = .ok (.iload_n 1, 1) := by decide +kernel
theorem d_Realm_addTraveller_20 : decode cX5_addTraveller 20 = .ok (.iastore, 1) := by decide +kernel
theorem d_Realm_addTraveller_21 : decode cX5_addTraveller 21 = .ok (.aload_n 0, 1) := by decide +kernel
theorem d_Realm_addTraveller_22 : decode cX5_addTraveller 22 = .ok (.getfield 22, 3) := by decide +kernel
theorem d_Realm_addTraveller_25 : decode cX5_addTraveller 25 = .ok (.aload_n 0, 1) := by decide +kernel
theorem d_Realm_addTraveller_26 : decode cX5_addTraveller 26 = .ok (.getfield 15, 3) := by decide +kernel
theorem d_Realm_addTraveller_29 : decode cX5_addTraveller 29 = .ok (.iload_n 2, 1) := by decide +kernel
theorem d_Realm_addTraveller_30 : decode cX5_addTraveller 30 = .ok (.iastore, 1) := by decide +kernel
theorem d_Realm_addTraveller_31 : decode cX5_addTraveller 31 = .ok (.aload_n 0, 1) := by decide +kernel
theorem d_Realm_addTraveller_32 : decode cX5_addTraveller 32 = .ok (.getfield 25, 3) := by decide +kernel
theorem d_Realm_addTraveller_35 : decode cX5_addTraveller 35 = .ok (.aload_n 0, 1) := by decide +kernel
theorem d_Realm_addTraveller_36 : decode cX5_addTraveller 36 = .ok (.getfield 15, 3) := by decide +kernel
theorem d_Realm_addTraveller_39 : decode cX5_addTraveller 39 = .ok (.iload_n 3, 1) := by decide +kernel
theorem d_Realm_addTraveller_40 : decode cX5_addTraveller 40 = .ok (.iastore, 1) := by decide +kernel
theorem d_Realm_addTraveller_41 : decode cX5_addTraveller 41 = .ok (.aload_n 0, 1) := by decide +kernel
theorem d_Realm_addTraveller_42 : decode cX5_addTraveller 42 = .ok (.getfield 28, 3) := by decide +kernel
theorem d_Realm_addTraveller_45 : decode cX5_addTraveller 45 = .ok (.aload_n 0, 1) := by decide +kernel
theorem d_Realm_addTraveller_46 : decode cX5_addTraveller 46 = .ok (.getfield 15, 3) := by decide +kernel
theorem d_Realm_addTraveller_49 : decode cX5_addTraveller 49 = .ok (.iconst 0, 1) := by decide +kernel
theorem d_Realm_addTraveller_50 : decode cX5_addTraveller 50 = .ok (.iastore, 1) := by decide +kernel
theorem d_Realm_addTraveller_51 : decode cX5_addTraveller 51 = .ok (.aload_n 0, 1) := by decide +kernel
theorem d_Realm_addTraveller_52 : decode cX5_addTraveller 52 = .ok (.getfield 31, 3) := by decide +kernel
theorem d_Realm_addTraveller_55 : decode cX5_addTraveller 55 = .ok (.aload_n 0, 1) := by decide +kernel
theorem d_Realm_addTraveller_56 : decode cX5_addTraveller 56 = .ok (.getfield 15, 3) := by decide +kernel
theorem d_Realm_addTraveller_59 : decode cX5_addTraveller 59 = .ok (.iconst (-1), 1) := by decide +kernel
theorem d_Realm_addTraveller_60 : decode cX5_addTraveller 60 = .ok (.iastore, 1) := by decide +kernel
theorem d_Realm_addTraveller_61 : decode cX5_addTraveller 61 = .ok (.aload_n 0, 1) := by decide +kernel
theorem d_Realm_addTraveller_62 : decode cX5_addTraveller 62 = .ok (.dup, 1) := by decide +kernel
theorem d_Realm_addTraveller_63 : decode cX5_addTraveller 63 = .ok (.getfield 15, 3) := by decide +kernel
theorem d_Realm_addTraveller_66 : decode cX5_addTraveller 66 = .ok (.iconst 1, 1) := by decide +kernel
theorem d_Realm_addTraveller_67 : decode cX5_addTraveller 67 = .ok (.iadd, 1) := by decide +kernel
theorem d_Realm_addTraveller_68 : decode cX5_addTraveller 68 = .ok (.putfield 15, 3) := by decide +kernel
theorem d_Realm_addTraveller_71 : decode cX5_addTraveller 71 = .ok (.aload_n 0, 1) := by decide +kernel
theorem d_Realm_addTraveller_72 : decode cX5_addTraveller 72 = .ok (.getfield 15, 3) := by decide +kernel
theorem d_Realm_addTraveller_75 : decode cX5_addTraveller 75 = .ok (.iconst 1, 1) := by decide +kernel
theorem d_Realm_addTraveller_76 : decode cX5_addTraveller 76 = .ok (.isub, 1) := by decide +kernel
theorem d_Realm_addTraveller_77 : decode cX5_addTraveller 77 = .ok (.ireturn, 1) := by decide +kernel
theorem d_Tc_traveller_0 : decode cX8_traveller 0 = .ok (.iload_n 1, 1) := by decide +kernel
theorem d_Tc_traveller_1 : decode cX8_traveller 1 = .ok (.iconst 5, 1) := by decide +kernel
theorem d_Tc_traveller_2 : decode cX8_traveller 2 = .ok (.invokestatic 57, 3) := by decide +kernel
theorem d_Tc_traveller_5 : decode cX8_traveller 5 = .ok (.ifCond .eq 22, 3) := by decide +kernel
theorem d_Tc_traveller_8 : decode cX8_traveller 8 = .ok (.iload_n 2, 1) := by decide +kernel
theorem d_Tc_traveller_9 : decode cX8_traveller 9 = .ok (.bipush 9, 2) := by decide +kernel
theorem d_Tc_traveller_11 : decode cX8_traveller 11 = .ok (.invokestatic 57, 3) := by decide +kernel
theorem d_Tc_traveller_14 : decode cX8_traveller 14 = .ok (.ifCond .eq 13, 3) := by decide +kernel
theorem d_Tc_traveller_17 : decode cX8_traveller 17 = .ok (.iload_n 3, 1) := by decide +kernel
theorem d_Tc_traveller_18 : decode cX8_traveller 18 = .ok (.sipush 9999, 3) := by decide +kernel
theorem d_Tc_traveller_21 : decode cX8_traveller 21 = .ok (.invokestatic 57, 3) := by decide +kernel
theorem d_Tc_traveller_24 : decode cX8_traveller 24 = .ok (.ifCond .ne 5, 3) := by decide +kernel
theorem d_Tc_traveller_27 : decode cX8_traveller 27 = .ok (.iconst (-1), 1) := by decide +kernel
theorem d_Tc_traveller_28 : decode cX8_traveller 28 = .ok (.ireturn, 1) := by decide +kernel
theorem d_Tc_traveller_29 : decode cX8_traveller 29 = .ok (.aload_n 0, 1) := by decide +kernel
theorem d_Tc_traveller_30 : decode cX8_traveller 30 = .ok (.getfield 10, 3) := by decide +kernel
theorem d_Tc_traveller_33 : decode cX8_traveller 33 = .ok (.getfield 47, 3) := by decide +kernel
theorem d_Tc_traveller_36 : decode cX8_traveller 36 = .ok (.iload_n 1, 1) := by decide +kernel
theorem d_Tc_traveller_37 : decode cX8_traveller 37 = .ok (.iload_n 2, 1) := by decide +kernel
theorem d_Tc_traveller_38 : decode cX8_traveller 38 = .ok (.iload_n 3, 1) := by decide +kernel
theorem d_Tc_traveller_39 : decode cX8_traveller 39 = .ok (.invokevirtual 61, 3) := by decide +kernel
theorem d_Tc_traveller_42 : decode cX8_traveller 42 = .ok (.istore 4, 2) := by decide +kernel
theorem d_Tc_traveller_44 : decode cX8_traveller 44 = .ok (.iload 4, 2) := by decide +kernel
theorem d_Tc_traveller_46 : decode cX8_traveller 46 = .ok (.iconst (-1), 1) := by decide +kernel
theorem d_Tc_traveller_47 : decode cX8_traveller 47 = .ok (.if_icmp .eq 10, 3) := by decide +kernel
theorem d_Tc_traveller_50 : decode cX8_traveller 50 = .ok (.aload_n 0, 1) := by decide +kernel
theorem d_Tc_traveller_51 : decode cX8_traveller 51 = .ok (.getfield 19, 3) := by decide +kernel
theorem d_Tc_traveller_54 : decode cX8_traveller 54 = .ok (.invokevirtual 54, 3) := by decide +kernel
theorem d_Tc_traveller_57 : decode cX8_traveller 57 = .ok (.iload 4, 2) := by decide +kernel
theorem d_Tc_traveller_59 : decode cX8_traveller 59 = .ok (.ireturn, 1) := by decide +kernel
theorem d_Realm_addOfficer_0 : decode cX5_addOfficer 0 = .ok (.aload_n 0, 1) := by decide +kernel
theorem d_Realm_addOfficer_1 : decode cX5_addOfficer 1 = .ok (.getfield 40, 3) := by decide +kernel
theorem d_Realm_addOfficer_4 : decode cX5_addOfficer 4 = .ok (.bipush 6, 2) := by decide +kernel
theorem d_Realm_addOfficer_6 : decode cX5_addOfficer 6 = .ok (.if_icmp .lt 5, 3) := by decide +kernel
theorem d_Realm_addOfficer_9 : decode cX5_addOfficer 9 = .ok (.iconst (-1), 1) := by decide +kernel
theorem d_Realm_addOfficer_10 : decode cX5_addOfficer 10 = .ok (.ireturn, 1) := by decide +kernel
theorem d_Realm_addOfficer_11 : decode cX5_addOfficer 11 = .ok (.aload_n 0, 1) := by decide +kernel
theorem d_Realm_addOfficer_12 : decode cX5_addOfficer 12 = .ok (.getfield 43, 3) := by decide +kernel
theorem d_Realm_addOfficer_15 : decode cX5_addOfficer 15 = .ok (.aload_n 0, 1) := by decide +kernel
theorem d_Realm_addOfficer_16 : decode cX5_addOfficer 16 = .ok (.getfield 40, 3) := by decide +kernel
theorem d_Realm_addOfficer_19 : decode cX5_addOfficer 19 = .ok (.iload_n 1, 1) := by decide +kernel
theorem d_Realm_addOfficer_20 : decode cX5_addOfficer 20 = .ok (.iastore, 1) := by decide +kernel
theorem d_Realm_addOfficer_21 : decode cX5_addOfficer 21 = .ok (.aload_n 0, 1) := by decide +kernel
theorem d_Realm_addOfficer_22 : decode cX5_addOfficer 22 = .ok (.getfield 46, 3) := by decide +kernel
theorem d_Realm_addOfficer_25 : decode cX5_addOfficer 25 = .ok (.aload_n 0, 1) := by decide +kernel
theorem d_Realm_addOfficer_26 : decode cX5_addOfficer 26 = .ok (.getfield 40, 3) := by decide +kernel
theorem d_Realm_addOfficer_29 : decode cX5_addOfficer 29 = .ok (.iload_n 2, 1) := by decide +kernel
theorem d_Realm_addOfficer_30 : decode cX5_addOfficer 30 = .ok (.iastore, 1) := by decide +kernel
theorem d_Realm_addOfficer_31 : decode cX5_addOfficer 31 = .ok (.aload_n 0, 1) := by decide +kernel
theorem d_Realm_addOfficer_32 : decode cX5_addOfficer 32 = .ok (.getfield 49, 3) := by decide +kernel
theorem d_Realm_addOfficer_35 : decode cX5_addOfficer 35 = .ok (.aload_n 0, 1) := by decide +kernel
theorem d_Realm_addOfficer_36 : decode cX5_addOfficer 36 = .ok (.getfield 40, 3) := by decide +kernel
theorem d_Realm_addOfficer_39 : decode cX5_addOfficer 39 = .ok (.iload_n 3, 1) := by decide +kernel
theorem d_Realm_addOfficer_40 : decode cX5_addOfficer 40 = .ok (.iastore, 1) := by decide +kernel
theorem d_Realm_addOfficer_41 : decode cX5_addOfficer 41 = .ok (.aload_n 0, 1) := by decide +kernel
theorem d_Realm_addOfficer_42 : decode cX5_addOfficer 42 = .ok (.getfield 52, 3) := by decide +kernel
theorem d_Realm_addOfficer_45 : decode cX5_addOfficer 45 = .ok (.aload_n 0, 1) := by decide +kernel
theorem d_Realm_addOfficer_46 : decode cX5_addOfficer 46 = .ok (.getfield 40, 3) := by decide +kernel
theorem d_Realm_addOfficer_49 : decode cX5_addOfficer 49 = .ok (.iconst 0, 1) := by decide +kernel
theorem d_Realm_addOfficer_50 : decode cX5_addOfficer 50 = .ok (.iastore, 1) := by decide +kernel
theorem d_Realm_addOfficer_51 : decode cX5_addOfficer 51 = .ok (.aload_n 0, 1) := by decide +kernel
theorem d_Realm_addOfficer_52 : decode cX5_addOfficer 52 = .ok (.dup, 1) := by decide +kernel
theorem d_Realm_addOfficer_53 : decode cX5_addOfficer 53 = .ok (.getfield 40, 3) := by decide +kernel
theorem d_Realm_addOfficer_56 : decode cX5_addOfficer 56 = .ok (.iconst 1, 1) := by decide +kernel
theorem d_Realm_addOfficer_57 : decode cX5_addOfficer 57 = .ok (.iadd, 1) := by decide +kernel
theorem d_Realm_addOfficer_58 : decode cX5_addOfficer 58 = .ok (.putfield 40, 3) := by decide +kernel
theorem d_Realm_addOfficer_61 : decode cX5_addOfficer 61 = .ok (.aload_n 0, 1) := by decide +kernel
theorem d_Realm_addOfficer_62 : decode cX5_addOfficer 62 = .ok (.getfield 40, 3) := by decide +kernel
theorem d_Realm_addOfficer_65 : decode cX5_addOfficer 65 = .ok (.iconst 1, 1) := by decide +kernel
theorem d_Realm_addOfficer_66 : decode cX5_addOfficer 66 = .ok (.isub, 1) := by decide +kernel
theorem d_Realm_addOfficer_67 : decode cX5_addOfficer 67 = .ok (.ireturn, 1) := by decide +kernel
theorem d_Tc_officer_0 : decode cX8_officer 0 = .ok (.iload_n 1, 1) := by decide +kernel
theorem d_Tc_officer_1 : decode cX8_officer 1 = .ok (.iconst 3, 1) := by decide +kernel
theorem d_Tc_officer_2 : decode cX8_officer 2 = .ok (.invokestatic 57, 3) := by decide +kernel
theorem d_Tc_officer_5 : decode cX8_officer 5 = .ok (.ifCond .eq 21, 3) := by decide +kernel
theorem d_Tc_officer_8 : decode cX8_officer 8 = .ok (.iload_n 2, 1) := by decide +kernel
theorem d_Tc_officer_9 : decode cX8_officer 9 = .ok (.bipush 9, 2) := by decide +kernel
theorem d_Tc_officer_11 : decode cX8_officer 11 = .ok (.invokestatic 57, 3) := by decide +kernel
theorem d_Tc_officer_14 : decode cX8_officer 14 = .ok (.ifCond .eq 12, 3) := by decide +kernel
theorem d_Tc_officer_17 : decode cX8_officer 17 = .ok (.iload_n 3, 1) := by decide +kernel
theorem d_Tc_officer_18 : decode cX8_officer 18 = .ok (.bipush 9, 2) := by decide +kernel
theorem d_Tc_officer_20 : decode cX8_officer 20 = .ok (.invokestatic 57, 3) := by decide +kernel
theorem d_Tc_officer_23 : decode cX8_officer 23 = .ok (.ifCond .ne 5, 3) := by decide +kernel
theorem d_Tc_officer_26 : decode cX8_officer 26 = .ok (.iconst (-1), 1) := by decide +kernel
theorem d_Tc_officer_27 : decode cX8_officer 27 = .ok (.ireturn, 1) := by decide +kernel
theorem d_Tc_officer_28 : decode cX8_officer 28 = .ok (.aload_n 0, 1) := by decide +kernel
theorem d_Tc_officer_29 : decode cX8_officer 29 = .ok (.getfield 10, 3) := by decide +kernel
theorem d_Tc_officer_32 : decode cX8_officer 32 = .ok (.getfield 47, 3) := by decide +kernel
theorem d_Tc_officer_35 : decode cX8_officer 35 = .ok (.iload_n 1, 1) := by decide +kernel
theorem d_Tc_officer_36 : decode cX8_officer 36 = .ok (.iload_n 2, 1) := by decide +kernel
theorem d_Tc_officer_37 : decode cX8_officer 37 = .ok (.iload_n 3, 1) := by decide +kernel
theorem d_Tc_officer_38 : decode cX8_officer 38 = .ok (.invokevirtual 65, 3) := by decide +kernel
theorem d_Tc_officer_41 : decode cX8_officer 41 = .ok (.istore 4, 2) := by decide +kernel
theorem d_Tc_officer_43 : decode cX8_officer 43 = .ok (.iload 4, 2) := by decide +kernel
theorem d_Tc_officer_45 : decode cX8_officer 45 = .ok (.iconst (-1), 1) := by decide +kernel
theorem d_Tc_officer_46 : decode cX8_officer 46 = .ok (.if_icmp .eq 10, 3) := by decide +kernel
theorem d_Tc_officer_49 : decode cX8_officer 49 = .ok (.aload_n 0, 1) := by decide +kernel
theorem d_Tc_officer_50 : decode cX8_officer 50 = .ok (.getfield 19, 3) := by decide +kernel
theorem d_Tc_officer_53 : decode cX8_officer 53 = .ok (.invokevirtual 54, 3) := by decide +kernel
theorem d_Tc_officer_56 : decode cX8_officer 56 = .ok (.iload 4, 2) := by decide +kernel
theorem d_Tc_officer_58 : decode cX8_officer 58 = .ok (.ireturn, 1) := by decide +kernel
theorem d_Realm_isOfficer_0 : decode cX5_isOfficer 0 = .ok (.iload_n 1, 1) := by decide +kernel
theorem d_Realm_isOfficer_1 : decode cX5_isOfficer 1 = .ok (.ifCond .lt 15, 3) := by decide +kernel
theorem d_Realm_isOfficer_4 : decode cX5_isOfficer 4 = .ok (.iload_n 1, 1) := by decide +kernel
theorem d_Realm_isOfficer_5 : decode cX5_isOfficer 5 = .ok (.aload_n 0, 1) := by decide +kernel
theorem d_Realm_isOfficer_6 : decode cX5_isOfficer 6 = .ok (.getfield 40, 3) := by decide +kernel
theorem d_Realm_isOfficer_9 : decode cX5_isOfficer 9 = .ok (.if_icmp .ge 7, 3) := by decide +kernel
theorem d_Realm_isOfficer_12 : decode cX5_isOfficer 12 = .ok (.iconst 1, 1) := by decide +kernel
theorem d_Realm_isOfficer_13 : decode cX5_isOfficer 13 = .ok (.goto 4, 3) := by decide +kernel
theorem d_Realm_isOfficer_16 : decode cX5_isOfficer 16 = .ok (.iconst 0, 1) := by decide +kernel
theorem d_Realm_isOfficer_17 : decode cX5_isOfficer 17 = .ok (.ireturn, 1) := by decide +kernel
theorem d_Realm_tellOfficer_0 : decode cX5_tellOfficer 0 = .ok (.iload_n 1, 1) := by decide +kernel
theorem d_Realm_tellOfficer_1 : decode cX5_tellOfficer 1 = .ok (.iconst 3, 1) := by decide +kernel
theorem d_Realm_tellOfficer_2 : decode cX5_tellOfficer 2 = .ok (.if_icmp .ne 8, 3) := by decide +kernel
theorem d_Realm_tellOfficer_5 : decode cX5_tellOfficer 5 = .ok (.bipush 9, 2) := by decide +kernel
theorem d_Realm_tellOfficer_7 : decode cX5_tellOfficer 7 = .ok (.goto 14, 3) := by decide +kernel
theorem d_Realm_tellOfficer_10 : decode cX5_tellOfficer 10 = .ok (.iload_n 1, 1) := by decide +kernel
theorem d_Realm_tellOfficer_11 : decode cX5_tellOfficer 11 = .ok (.iconst 4, 1) := by decide +kernel
theorem d_Realm_tellOfficer_12 : decode cX5_tellOfficer 12 = .ok (.if_icmp .ne 8, 3) := by decide +kernel
theorem d_Realm_tellOfficer_15 : decode cX5_tellOfficer 15 = .ok (.bipush 9, 2) := by decide +kernel
theorem d_Realm_tellOfficer_17 : decode cX5_tellOfficer 17 = .ok (.goto 4, 3) := by decide +kernel
theorem d_Realm_tellOfficer_20 : decode cX5_tellOfficer 20 = .ok (.iconst (-1), 1) := by decide +kernel
theorem d_Realm_tellOfficer_21 : decode cX5_tellOfficer 21 = .ok (.istore 4, 2) := by decide +kernel
theorem d_Realm_tellOfficer_23 : decode cX5_tellOfficer 23 = .ok (.aload_n 0, 1) := by decide +kernel
theorem d_Realm_tellOfficer_24 : decode cX5_tellOfficer 24 = .ok (.iload_n 2, 1) := by decide +kernel
theorem d_Realm_tellOfficer_25 : decode cX5_tellOfficer 25 = .ok (.invokevirtual 87, 3) := by decide +kernel
theorem d_Realm_tellOfficer_28 : decode cX5_tellOfficer 28 = .ok (.ifCond .eq 12, 3) := by decide +kernel
theorem d_Realm_tellOfficer_31 : decode cX5_tellOfficer 31 = .ok (.iload_n 3, 1) := by decide +kernel
theorem d_Realm_tellOfficer_32 : decode cX5_tellOfficer 32 = .ok (.iload 4, 2) := by decide +kernel
theorem d_Realm_tellOfficer_34 : decode cX5_tellOfficer 34 = .ok (.invokestatic 83, 3) := by decide +kernel
theorem d_Realm_tellOfficer_37 : decode cX5_tellOfficer 37 = .ok (.ifCond .ne 5, 3) := by decide +kernel
theorem d_Realm_tellOfficer_40 : decode cX5_tellOfficer 40 = .ok (.iconst 0, 1) := by decide +kernel
theorem d_Realm_tellOfficer_41 : decode cX5_tellOfficer 41 = .ok (.ireturn, 1) := by decide +kernel
theorem d_Realm_tellOfficer_42 : decode cX5_tellOfficer 42 = .ok (.iload_n 1, 1) := by decide +kernel
theorem d_Realm_tellOfficer_43 : decode cX5_tellOfficer 43 = .ok (.iconst 3, 1) := by decide +kernel
theorem d_Realm_tellOfficer_44 : decode cX5_tellOfficer 44 = .ok (.if_icmp .ne 10, 3) := by decide +kernel
theorem d_Realm_tellOfficer_47 : decode cX5_tellOfficer 47 = .ok (.aload_n 0, 1) := by decide +kernel
theorem d_Realm_tellOfficer_48 : decode cX5_tellOfficer 48 = .ok (.getfield 52, 3) := by decide +kernel
theorem d_Realm_tellOfficer_51 : decode cX5_tellOfficer 51 = .ok (.goto 7, 3) := by decide +kernel
theorem d_Realm_tellOfficer_54 : decode cX5_tellOfficer 54 = .ok (.aload_n 0, 1) := by decide +kernel
theorem d_Realm_tellOfficer_55 : decode cX5_tellOfficer 55 = .ok (.getfield 49, 3) := by decide +kernel
theorem d_Realm_tellOfficer_58 : decode cX5_tellOfficer 58 = .ok (.astore 5, 2) := by decide +kernel
theorem d_Realm_tellOfficer_60 : decode cX5_tellOfficer 60 = .ok (.aload 5, 2) := by decide +kernel
theorem d_Realm_tellOfficer_62 : decode cX5_tellOfficer 62 = .ok (.iload_n 2, 1) := by decide +kernel
theorem d_Realm_tellOfficer_63 : decode cX5_tellOfficer 63 = .ok (.iload_n 3, 1) := by decide +kernel
theorem d_Realm_tellOfficer_64 : decode cX5_tellOfficer 64 = .ok (.iastore, 1) := by decide +kernel
theorem d_Realm_tellOfficer_65 : decode cX5_tellOfficer 65 = .ok (.iconst 1, 1) := by decide +kernel
theorem d_Realm_tellOfficer_66 : decode cX5_tellOfficer 66 = .ok (.ireturn, 1) := by decide +kernel
theorem d_Realm_isTraveller_0 : decode cX5_isTraveller 0 = .ok (.iload_n 1, 1) := by decide +kernel
theorem d_Realm_isTraveller_1 : decode cX5_isTraveller 1 = .ok (.ifCond .lt 15, 3) := by decide +kernel
theorem d_Realm_isTraveller_4 : decode cX5_isTraveller 4 = .ok (.iload_n 1, 1) := by decide +kernel
theorem d_Realm_isTraveller_5 : decode cX5_isTraveller 5 = .ok (.aload_n 0, 1) := by decide +kernel
theorem d_Realm_isTraveller_6 : decode cX5_isTraveller 6 = .ok (.getfield 15, 3) := by decide +kernel
theorem d_Realm_isTraveller_9 : decode cX5_isTraveller 9 = .ok (.if_icmp .ge 7, 3) := by decide +kernel
theorem d_Realm_isTraveller_12 : decode cX5_isTraveller 12 = .ok (.iconst 1, 1) := by decide +kernel
theorem d_Realm_isTraveller_13 : decode cX5_isTraveller 13 = .ok (.goto 4, 3) := by decide +kernel
theorem d_Realm_isTraveller_16 : decode cX5_isTraveller 16 = .ok (.iconst 0, 1) := by decide +kernel
theorem d_Realm_isTraveller_17 : decode cX5_isTraveller 17 = .ok (.ireturn, 1) := by decide +kernel
theorem d_Realm_tellTraveller_0 : decode cX5_tellTraveller 0 = .ok (.iload_n 1, 1) := by decide +kernel
theorem d_Realm_tellTraveller_1 : decode cX5_tellTraveller 1 = .ok (.ifCond .ne 9, 3) := by decide +kernel
theorem d_Realm_tellTraveller_4 : decode cX5_tellTraveller 4 = .ok (.sipush 9999, 3) := by decide +kernel
theorem d_Realm_tellTraveller_7 : decode cX5_tellTraveller 7 = .ok (.goto 24, 3) := by decide +kernel
theorem d_Realm_tellTraveller_10 : decode cX5_tellTraveller 10 = .ok (.iload_n 1, 1) := by decide +kernel
theorem d_Realm_tellTraveller_11 : decode cX5_tellTraveller 11 = .ok (.iconst 1, 1) := by decide +kernel
theorem d_Realm_tellTraveller_12 : decode cX5_tellTraveller 12 = .ok (.if_icmp .ne 8, 3) := by decide +kernel
theorem d_Realm_tellTraveller_15 : decode cX5_tellTraveller 15 = .ok (.bipush 99, 2) := by decide +kernel
theorem d_Realm_tellTraveller_17 : decode cX5_tellTraveller 17 = .ok (.goto 14, 3) := by decide +kernel
theorem d_Realm_tellTraveller_20 : decode cX5_tellTraveller 20 = .ok (.iload_n 1, 1) := by decide +kernel
theorem d_Realm_tellTraveller_21 : decode cX5_tellTraveller 21 = .ok (.iconst 2, 1) := by decide +kernel
theorem d_Realm_tellTraveller_22 : decode cX5_tellTraveller 22 = .ok (.if_icmp .ne 8, 3) := by decide +kernel
theorem d_Realm_tellTraveller_25 : decode cX5_tellTraveller 25 = .ok (.bipush 9, 2) := by decide +kernel
theorem d_Realm_tellTraveller_27 : decode cX5_tellTraveller 27 = .ok (.goto 4, 3) := by decide +kernel
theorem d_Realm_tellTraveller_30 : decode cX5_tellTraveller 30 = .ok (.iconst (-1), 1) := by decide +kernel
theorem d_Realm_tellTraveller_31 : decode cX5_tellTraveller 31 = .ok (.istore 4, 2) := by decide +kernel
theorem d_Realm_tellTraveller_33 : decode cX5_tellTraveller 33 = .ok (.aload_n 0, 1) := by decide +kernel
theorem d_Realm_tellTraveller_34 : decode cX5_tellTraveller 34 = .ok (.iload_n 2, 1) := by decide +kernel
theorem d_Realm_tellTraveller_35 : decode cX5_tellTraveller 35 = .ok (.invokevirtual 79, 3) := by decide +kernel
theorem d_Realm_tellTraveller_38 : decode cX5_tellTraveller 38 = .ok (.ifCond .eq 12, 3) := by decide +kernel
theorem d_Realm_tellTraveller_41 : decode cX5_tellTraveller 41 = .ok (.iload_n 3, 1) := by decide +kernel
theorem d_Realm_tellTraveller_42 : decode cX5_tellTraveller 42 = .ok (.iload 4, 2) := by decide +kernel
theorem d_Realm_tellTraveller_44 : decode cX5_tellTraveller 44 = .ok (.invokestatic 83, 3) := by decide +kernel
theorem d_Realm_tellTraveller_47 : decode cX5_tellTraveller 47 = .ok (.ifCond .ne 5, 3) := by decide +kernel
theorem d_Realm_tellTraveller_50 : decode cX5_tellTraveller 50 = .ok (.iconst 0, 1) := by decide +kernel
theorem d_Realm_tellTraveller_51 : decode cX5_tellTraveller 51 = .ok (.ireturn, 1) := by decide +kernel
theorem d_Realm_tellTraveller_52 : decode cX5_tellTraveller 52 = .ok (.iload_n 1, 1) := by decide +kernel
theorem d_Realm_tellTraveller_53 : decode cX5_tellTraveller 53 = .ok (.ifCond .ne 10, 3) := by decide +kernel
theorem d_Realm_tellTraveller_56 : decode cX5_tellTraveller 56 = .ok (.aload_n 0, 1) := by decide +kernel
theorem d_Realm_tellTraveller_57 : decode cX5_tellTraveller 57 = .ok (.getfield 25, 3) := by decide +kernel
theorem d_Realm_tellTraveller_60 : decode cX5_tellTraveller 60 = .ok (.goto 19, 3) := by decide +kernel
theorem d_Realm_tellTraveller_63 : decode cX5_tellTraveller 63 = .ok (.iload_n 1, 1) := by decide +kernel
theorem d_Realm_tellTraveller_64 : decode cX5_tellTraveller 64 = .ok (.iconst 1, 1) := by decide +kernel
theorem d_Realm_tellTraveller_65 : decode cX5_tellTraveller 65 = .ok (.if_icmp .ne 10, 3) := by decide +kernel
theorem d_Realm_tellTraveller_68 : decode cX5_tellTraveller 68 = .ok (.aload_n 0, 1) := by decide +kernel
theorem d_Realm_tellTraveller_69 : decode cX5_tellTraveller 69 = .ok (.getfield 28, 3) := by decide +kernel
theorem d_Realm_tellTraveller_72 : decode cX5_tellTraveller 72 = .ok (.goto 7, 3) := by decide +kernel
theorem d_Realm_tellTraveller_75 : decode cX5_tellTraveller 75 = .ok (.aload_n 0, 1) := by decide +kernel
theorem d_Realm_tellTraveller_76 : decode cX5_tellTraveller 76 = .ok (.getfield 22, 3) := by decide +kernel
theorem d_Realm_tellTraveller_79 : decode cX5_tellTraveller 79 = .ok (.astore 5, 2) := by decide +kernel
theorem d_Realm_tellTraveller_81 : decode cX5_tellTraveller 81 = .ok (.aload 5, 2) := by decide +kernel
theorem d_Realm_tellTraveller_83 : decode cX5_tellTraveller 83 = .ok (.iload_n 2, 1) := by decide +kernel
theorem d_Realm_tellTraveller_84 : decode cX5_tellTraveller 84 = .ok (.iload_n 3, 1) := by decide +kernel
theorem d_Realm_tellTraveller_85 : decode cX5_tellTraveller 85 = .ok (.iastore, 1) := by decide +kernel
theorem d_Realm_tellTraveller_86 : decode cX5_tellTraveller 86 = .ok (.iconst 1, 1) := by decide +kernel
theorem d_Realm_tellTraveller_87 : decode cX5_tellTraveller 87 = .ok (.ireturn, 1) := by decide +kernel
theorem d_Tc_set_0 : decode cX8_set 0 = .ok (.iload_n 1, 1) := by decide +kernel
theorem d_Tc_set_1 : decode cX8_set 1 = .ok (.iconst 3, 1) := by decide +kernel
theorem d_Tc_set_2 : decode cX8_set 2 = .ok (.if_icmp .lt 19, 3) := by decide +kernel
theorem d_Tc_set_5 : decode cX8_set 5 = .ok (.aload_n 0, 1) := by decide +kernel
theorem d_Tc_set_6 : decode cX8_set 6 = .ok (.getfield 10, 3) := by decide +kernel
theorem d_Tc_set_9 : decode cX8_set 9 = .ok (.getfield 47, 3) := by decide +kernel
theorem d_Tc_set_12 : decode cX8_set 12 = .ok (.iload_n 1, 1) := by decide +kernel
theorem d_Tc_set_13 : decode cX8_set 13 = .ok (.iload_n 2, 1) := by decide +kernel
theorem d_Tc_set_14 : decode cX8_set 14 = .ok (.iload_n 3, 1) := by decide +kernel
theorem d_Tc_set_15 : decode cX8_set 15 = .ok (.invokevirtual 68, 3) := by decide +kernel
theorem d_Tc_set_18 : decode cX8_set 18 = .ok (.goto 16, 3) := by decide +kernel
theorem d_Tc_set_21 : decode cX8_set 21 = .ok (.aload_n 0, 1) := by decide +kernel
theorem d_Tc_set_22 : decode cX8_set 22 = .ok (.getfield 10, 3) := by decide +kernel
theorem d_Tc_set_25 : decode cX8_set 25 = .ok (.getfield 47, 3) := by decide +kernel
theorem d_Tc_set_28 : decode cX8_set 28 = .ok (.iload_n 1, 1) := by decide +kernel
theorem d_Tc_set_29 : decode cX8_set 29 = .ok (.iload_n 2, 1) := by decide +kernel
theorem d_Tc_set_30 : decode cX8_set 30 = .ok (.iload_n 3, 1) := by decide +kernel
theorem d_Tc_set_31 : decode cX8_set 31 = .ok (.invokevirtual 72, 3) := by decide +kernel
theorem d_Tc_set_34 : decode cX8_set 34 = .ok (.istore 4, 2) := by decide +kernel
theorem d_Tc_set_36 : decode cX8_set 36 = .ok (.iload 4, 2) := by decide +kernel
theorem d_Tc_set_38 : decode cX8_set 38 = .ok (.ifCond .eq 10, 3) := by decide +kernel
theorem d_Tc_set_41 : decode cX8_set 41 = .ok (.aload_n 0, 1) := by decide +kernel
theorem d_Tc_set_42 : decode cX8_set 42 = .ok (.getfield 19, 3) := by decide +kernel
theorem d_Tc_set_45 : decode cX8_set 45 = .ok (.invokevirtual 54, 3) := by decide +kernel
theorem d_Tc_set_48 : decode cX8_set 48 = .ok (.iload 4, 2) := by decide +kernel
theorem d_Tc_set_50 : decode cX8_set 50 = .ok (.ireturn, 1) := by decide +kernel
theorem d_Realm_isOpen_0 : decode cX5_isOpen 0 = .ok (.aload_n 0, 1) := by decide +kernel
theorem d_Realm_isOpen_1 : decode cX5_isOpen 1 = .ok (.getfield 55, 3) := by decide +kernel
theorem d_Realm_isOpen_4 : decode cX5_isOpen 4 = .ok (.iload_n 1, 1) := by decide +kernel
theorem d_Realm_isOpen_5 : decode cX5_isOpen 5 = .ok (.ishr, 1) := by decide +kernel
theorem d_Realm_isOpen_6 : decode cX5_isOpen 6 = .ok (.iconst 1, 1) := by decide +kernel
theorem d_Realm_isOpen_7 : decode cX5_isOpen 7 = .ok (.iand, 1) := by decide +kernel
theorem d_Realm_isOpen_8 : decode cX5_isOpen 8 = .ok (.iconst 1, 1) := by decide +kernel
theorem d_Realm_isOpen_9 : decode cX5_isOpen 9 = .ok (.if_icmp .ne 7, 3) := by decide +kernel
theorem d_Realm_isOpen_12 : decode cX5_isOpen 12 = .ok (.iconst 1, 1) := by decide +kernel
theorem d_Realm_isOpen_13 : decode cX5_isOpen 13 = .ok (.goto 4, 3) := by decide +kernel
theorem d_Realm_isOpen_16 : decode cX5_isOpen 16 = .ok (.iconst 0, 1) := by decide +kernel
theorem d_Realm_isOpen_17 : decode cX5_isOpen 17 = .ok (.ireturn, 1) := by decide +kernel
theorem d_Realm_isInside_0 : decode cX5_isInside 0 = .ok (.aload_n 0, 1) := by decide +kernel
theorem d_Realm_isInside_1 : decode cX5_isInside 1 = .ok (.iload_n 1, 1) := by decide +kernel
theorem d_Realm_isInside_2 : decode cX5_isInside 2 = .ok (.invokevirtual 79, 3) := by decide +kernel
theorem d_Realm_isInside_5 : decode cX5_isInside 5 = .ok (.ifCond .eq 18, 3) := by decide +kernel
theorem d_Realm_isInside_8 : decode cX5_isInside 8 = .ok (.aload_n 0, 1) := by decide +kernel
theorem d_Realm_isInside_9 : decode cX5_isInside 9 = .ok (.getfield 34, 3) := by decide +kernel
theorem d_Realm_isInside_12 : decode cX5_isInside 12 = .ok (.iload_n 1, 1) := by decide +kernel
theorem d_Realm_isInside_13 : decode cX5_isInside 13 = .ok (.ishr, 1) := by decide +kernel
theorem d_Realm_isInside_14 : decode cX5_isInside 14 = .ok (.iconst 1, 1) := by decide +kernel
theorem d_Realm_isInside_15 : decode cX5_isInside 15 = .ok (.iand, 1) := by decide +kernel
theorem d_Realm_isInside_16 : decode cX5_isInside 16 = .ok (.ifCond .ne 7, 3) := by decide +kernel
theorem d_Realm_isInside_19 : decode cX5_isInside 19 = .ok (.iconst 1, 1) := by decide +kernel
theorem d_Realm_isInside_20 : decode cX5_isInside 20 = .ok (.goto 4, 3) := by decide +kernel
theorem d_Realm_isInside_23 : decode cX5_isInside 23 = .ok (.iconst 0, 1) := by decide +kernel
theorem d_Realm_isInside_24 : decode cX5_isInside 24 = .ok (.ireturn, 1) := by decide +kernel
theorem d_Realm_canDo_0 : decode cX5_canDo 0 = .ok (.iload_n 1, 1) := by decide +kernel
theorem d_Realm_canDo_1 : decode cX5_canDo 1 = .ok (.tableswitch 139 0 5 #[39, 61, 67, 73, 95, 117], 39) := by decide +kernel
theorem d_Realm_canDo_40 : decode cX5_canDo 40 = .ok (.aload_n 0, 1) := by decide +kernel
theorem d_Realm_canDo_41 : decode cX5_canDo 41 = .ok (.iload_n 2, 1) := by decide +kernel
theorem d_Realm_canDo_42 : decode cX5_canDo 42 = .ok (.invokevirtual 90, 3) := by decide +kernel
theorem d_Realm_canDo_45 : decode cX5_canDo 45 = .ok (.ifCond .eq 15, 3) := by decide +kernel
theorem d_Realm_canDo_48 : decode cX5_canDo 48 = .ok (.iload_n 3, 1) := by decide +kernel
theorem d_Realm_canDo_49 : decode cX5_canDo 49 = .ok (.iconst 3, 1) := by decide +kernel
theorem d_Realm_canDo_50 : decode cX5_canDo 50 = .ok (.invokestatic 83, 3) := by decide +kernel
theorem d_Realm_canDo_53 : decode cX5_canDo 53 = .ok (.ifCond .eq 7, 3) := by decide +kernel
theorem d_Realm_canDo_56 : decode cX5_canDo 56 = .ok (.iconst 1, 1) := by decide +kernel
theorem d_Realm_canDo_57 : decode cX5_canDo 57 = .ok (.goto 4, 3) := by decide +kernel
theorem d_Realm_canDo_60 : decode cX5_canDo 60 = .ok (.iconst 0, 1) := by decide +kernel
theorem d_Realm_canDo_61 : decode cX5_canDo 61 = .ok (.ireturn, 1) := by decide +kernel
theorem d_Realm_canDo_62 : decode cX5_canDo 62 = .ok (.aload_n 0, 1) := by decide +kernel
theorem d_Realm_canDo_63 : decode cX5_canDo 63 = .ok (.iload_n 2, 1) := by decide +kernel
theorem d_Realm_canDo_64 : decode cX5_canDo 64 = .ok (.invokevirtual 90, 3) := by decide +kernel
theorem d_Realm_canDo_67 : decode cX5_canDo 67 = .ok (.ireturn, 1) := by decide +kernel
theorem d_Realm_canDo_68 : decode cX5_canDo 68 = .ok (.aload_n 0, 1) := by decide +kernel
theorem d_Realm_canDo_69 : decode cX5_canDo 69 = .ok (.iload_n 2, 1) := by decide +kernel
theorem d_Realm_canDo_70 : decode cX5_canDo 70 = .ok (.invokevirtual 90, 3) := by decide +kernel
theorem d_Realm_canDo_73 : decode cX5_canDo 73 = .ok (.ireturn, 1) := by decide +kernel
theorem d_Realm_canDo_74 : decode cX5_canDo 74 = .ok (.aload_n 0, 1) := by decide +kernel
theorem d_Realm_canDo_75 : decode cX5_canDo 75 = .ok (.iload_n 2, 1) := by decide +kernel
theorem d_Realm_canDo_76 : decode cX5_canDo 76 = .ok (.invokevirtual 87, 3) := by decide +kernel
theorem d_Realm_canDo_79 : decode cX5_canDo 79 = .ok (.ifCond .eq 15, 3) := by decide +kernel
theorem d_Realm_canDo_82 : decode cX5_canDo 82 = .ok (.iload_n 3, 1) := by decide +kernel
theorem d_Realm_canDo_83 : decode cX5_canDo 83 = .ok (.iconst 3, 1) := by decide +kernel
theorem d_Realm_canDo_84 : decode cX5_canDo 84 = .ok (.invokestatic 83, 3) := by decide +kernel
theorem d_Realm_canDo_87 : decode cX5_canDo 87 = .ok (.ifCond .eq 7, 3) := by decide +kernel
theorem d_Realm_canDo_90 : decode cX5_canDo 90 = .ok (.iconst 1, 1) := by decide +kernel
theorem d_Realm_canDo_91 : decode cX5_canDo 91 = .ok (.goto 4, 3) := by decide +kernel
theorem d_Realm_canDo_94 : decode cX5_canDo 94 = .ok (.iconst 0, 1) := by decide +kernel
theorem d_Realm_canDo_95 : decode cX5_canDo 95 = .ok (.ireturn, 1) := by decide +kernel
theorem d_Realm_canDo_96 : decode cX5_canDo 96 = .ok (.iload_n 2, 1) := by decide +kernel
theorem d_Realm_canDo_97 : decode cX5_canDo 97 = .ok (.iconst 3, 1) := by decide +kernel
theorem d_Realm_canDo_98 : decode cX5_canDo 98 = .ok (.invokestatic 83, 3) := by decide +kernel
theorem d_Realm_canDo_101 : decode cX5_canDo 101 = .ok (.ifCond .eq 15, 3) := by decide +kernel
theorem d_Realm_canDo_104 : decode cX5_canDo 104 = .ok (.aload_n 0, 1) := by decide +kernel
theorem d_Realm_canDo_105 : decode cX5_canDo 105 = .ok (.iload_n 2, 1) := by decide +kernel
theorem d_Realm_canDo_106 : decode cX5_canDo 106 = .ok (.invokevirtual 93, 3) := by decide +kernel
theorem d_Realm_canDo_109 : decode cX5_canDo 109 = .ok (.ifCond .ne 7, 3) := by decide +kernel
theorem d_Realm_canDo_112 : decode cX5_canDo 112 = .ok (.iconst 1, 1) := by decide +kernel
theorem d_Realm_canDo_113 : decode cX5_canDo 113 = .ok (.goto 4, 3) := by decide +kernel
theorem d_Realm_canDo_116 : decode cX5_canDo 116 = .ok (.iconst 0, 1) := by decide +kernel
theorem d_Realm_canDo_117 : decode cX5_canDo 117 = .ok (.ireturn, 1) := by decide +kernel
theorem d_Realm_canDo_118 : decode cX5_canDo 118 = .ok (.iload_n 2, 1) := by decide +kernel
theorem d_Realm_canDo_119 : decode cX5_canDo 119 = .ok (.iconst 3, 1) := by decide +kernel
theorem d_Realm_canDo_120 : decode cX5_canDo 120 = .ok (.invokestatic 83, 3) := by decide +kernel
theorem d_Realm_canDo_123 : decode cX5_canDo 123 = .ok (.ifCond .eq 15, 3) := by decide +kernel
theorem d_Realm_canDo_126 : decode cX5_canDo 126 = .ok (.aload_n 0, 1) := by decide +kernel
theorem d_Realm_canDo_127 : decode cX5_canDo 127 = .ok (.iload_n 2, 1) := by decide +kernel
theorem d_Realm_canDo_128 : decode cX5_canDo 128 = .ok (.invokevirtual 93, 3) := by decide +kernel
theorem d_Realm_canDo_131 : decode cX5_canDo 131 = .ok (.ifCond .eq 7, 3) := by decide +kernel
theorem d_Realm_canDo_134 : decode cX5_canDo 134 = .ok (.iconst 1, 1) := by decide +kernel
theorem d_Realm_canDo_135 : decode cX5_canDo 135 = .ok (.goto 4, 3) := by decide +kernel
theorem d_Realm_canDo_138 : decode cX5_canDo 138 = .ok (.iconst 0, 1) := by decide +kernel
theorem d_Realm_canDo_139 : decode cX5_canDo 139 = .ok (.ireturn, 1) := by decide +kernel
theorem d_Realm_canDo_140 : decode cX5_canDo 140 = .ok (.iconst 0, 1) := by decide +kernel
theorem d_Realm_canDo_141 : decode cX5_canDo 141 = .ok (.ireturn, 1) := by decide +kernel
theorem d_Realm_copyFrom_0 : decode cX5_copyFrom 0 = .ok (.aload_n 0, 1) := by decide +kernel
theorem d_Realm_copyFrom_1 : decode cX5_copyFrom 1 = .ok (.aload_n 1, 1) := by decide +kernel
theorem d_Realm_copyFrom_2 : decode cX5_copyFrom 2 = .ok (.getfield 9, 3) := by decide +kernel
theorem d_Realm_copyFrom_5 : decode cX5_copyFrom 5 = .ok (.putfield 9, 3) := by decide +kernel
theorem d_Realm_copyFrom_8 : decode cX5_copyFrom 8 = .ok (.aload_n 0, 1) := by decide +kernel
theorem d_Realm_copyFrom_9 : decode cX5_copyFrom 9 = .ok (.aload_n 1, 1) := by decide +kernel
theorem d_Realm_copyFrom_10 : decode cX5_copyFrom 10 = .ok (.getfield 15, 3) := by decide +kernel
theorem d_Realm_copyFrom_13 : decode cX5_copyFrom 13 = .ok (.putfield 15, 3) := by decide +kernel
theorem d_Realm_copyFrom_16 : decode cX5_copyFrom 16 = .ok (.aload_n 1, 1) := by decide +kernel
theorem d_Realm_copyFrom_17 : decode cX5_copyFrom 17 = .ok (.getfield 18, 3) := by decide +kernel
theorem d_Realm_copyFrom_20 : decode cX5_copyFrom 20 = .ok (.iconst 0, 1) := by decide +kernel
theorem d_Realm_copyFrom_21 : decode cX5_copyFrom 21 = .ok (.aload_n 0, 1) := by decide +kernel
theorem d_Realm_copyFrom_22 : decode cX5_copyFrom 22 = .ok (.getfield 18, 3) := by decide +kernel
theorem d_Realm_copyFrom_25 : decode cX5_copyFrom 25 = .ok (.iconst 0, 1) := by decide +kernel
theorem d_Realm_copyFrom_26 : decode cX5_copyFrom 26 = .ok (.bipush 12, 2) := by decide +kernel
theorem d_Realm_copyFrom_28 : decode cX5_copyFrom 28 = .ok (.invokestatic 73, 3) := by decide +kernel
theorem d_Realm_copyFrom_31 : decode cX5_copyFrom 31 = .ok (.aload_n 1, 1) := by decide +kernel
theorem d_Realm_copyFrom_32 : decode cX5_copyFrom 32 = .ok (.getfield 22, 3) := by decide +kernel
theorem d_Realm_copyFrom_35 : decode cX5_copyFrom 35 = .ok (.iconst 0, 1) := by decide +kernel
theorem d_Realm_copyFrom_36 : decode cX5_copyFrom 36 = .ok (.aload_n 0, 1) := by decide +kernel
theorem d_Realm_copyFrom_37 : decode cX5_copyFrom 37 = .ok (.getfield 22, 3) := by decide +kernel
theorem d_Realm_copyFrom_40 : decode cX5_copyFrom 40 = .ok (.iconst 0, 1) := by decide +kernel
theorem d_Realm_copyFrom_41 : decode cX5_copyFrom 41 = .ok (.bipush 12, 2) := by decide +kernel
theorem d_Realm_copyFrom_43 : decode cX5_copyFrom 43 = .ok (.invokestatic 73, 3) := by decide +kernel
theorem d_Realm_copyFrom_46 : decode cX5_copyFrom 46 = .ok (.aload_n 1, 1) := by decide +kernel
theorem d_Realm_copyFrom_47 : decode cX5_copyFrom 47 = .ok (.getfield 25, 3) := by decide +kernel
theorem d_Realm_copyFrom_50 : decode cX5_copyFrom 50 = .ok (.iconst 0, 1) := by decide +kernel
theorem d_Realm_copyFrom_51 : decode cX5_copyFrom 51 = .ok (.aload_n 0, 1) := by decide +kernel
theorem d_Realm_copyFrom_52 : decode cX5_copyFrom 52 = .ok (.getfield 25, 3) := by decide +kernel
theorem d_Realm_copyFrom_55 : decode cX5_copyFrom 55 = .ok (.iconst 0, 1) := by decide +kernel
theorem d_Realm_copyFrom_56 : decode cX5_copyFrom 56 = .ok (.bipush 12, 2) := by decide +kernel
theorem d_Realm_copyFrom_58 : decode cX5_copyFrom 58 = .ok (.invokestatic 73, 3) := by decide +kernel
theorem d_Realm_copyFrom_61 : decode cX5_copyFrom 61 = .ok (.aload_n 1, 1) := by decide +kernel
theorem d_Realm_copyFrom_62 : decode cX5_copyFrom 62 = .ok (.getfield 28, 3) := by decide +kernel
theorem d_Realm_copyFrom_65 : decode cX5_copyFrom 65 = .ok (.iconst 0, 1) := by decide +kernel
theorem d_Realm_copyFrom_66 : decode cX5_copyFrom 66 = .ok (.aload_n 0, 1) := by decide +kernel
theorem d_Realm_copyFrom_67 : decode cX5_copyFrom 67 = .ok (.getfield 28, 3) := by decide +kernel
theorem d_Realm_copyFrom_70 : decode cX5_copyFrom 70 = .ok (.iconst 0, 1) := by decide +kernel
theorem d_Realm_copyFrom_71 : decode cX5_copyFrom 71 = .ok (.bipush 12, 2) := by decide +kernel
theorem d_Realm_copyFrom_73 : decode cX5_copyFrom 73 = .ok (.invokestatic 73, 3) := by decide +kernel
theorem d_Realm_copyFrom_76 : decode cX5_copyFrom 76 = .ok (.aload_n 1, 1) := by decide +kernel
theorem d_Realm_copyFrom_77 : decode cX5_copyFrom 77 = .ok (.getfield 31, 3) := by decide +kernel
theorem d_Realm_copyFrom_80 : decode cX5_copyFrom 80 = .ok (.iconst 0, 1) := by decide +kernel
theorem d_Realm_copyFrom_81 : decode cX5_copyFrom 81 = .ok (.aload_n 0, 1) := by decide +kernel
theorem d_Realm_copyFrom_82 : decode cX5_copyFrom 82 = .ok (.getfield 31, 3) := by decide +kernel
theorem d_Realm_copyFrom_85 : decode cX5_copyFrom 85 = .ok (.iconst 0, 1) := by decide +kernel
theorem d_Realm_copyFrom_86 : decode cX5_copyFrom 86 = .ok (.bipush 12, 2) := by decide +kernel
theorem d_Realm_copyFrom_88 : decode cX5_copyFrom 88 = .ok (.invokestatic 73, 3) := by decide +kernel
theorem d_Realm_copyFrom_91 : decode cX5_copyFrom 91 = .ok (.aload_n 0, 1) := by decide +kernel
theorem d_Realm_copyFrom_92 : decode cX5_copyFrom 92 = .ok (.aload_n 1, 1) := by decide +kernel
theorem d_Realm_copyFrom_93 : decode cX5_copyFrom 93 = .ok (.getfield 34, 3) := by decide +kernel
theorem d_Realm_copyFrom_96 : decode cX5_copyFrom 96 = .ok (.putfield 34, 3) := by decide +kernel
theorem d_Realm_copyFrom_99 : decode cX5_copyFrom 99 = .ok (.aload_n 0, 1) := by decide +kernel
theorem d_Realm_copyFrom_100 : decode cX5_copyFrom 100 = .ok (.aload_n 1, 1) := by decide +kernel
theorem d_Realm_copyFrom_101 : decode cX5_copyFrom 101 = .ok (.getfield 37, 3) := by decide +kernel
theorem d_Realm_copyFrom_104 : decode cX5_copyFrom 104 = .ok (.putfield 37, 3) := by decide +kernel
theorem d_Realm_copyFrom_107 : decode cX5_copyFrom 107 = .ok (.aload_n 0, 1) := by decide +kernel
theorem d_Realm_copyFrom_108 : decode cX5_copyFrom 108 = .ok (.aload_n 1, 1) := by decide +kernel
theorem d_Realm_copyFrom_109 : decode cX5_copyFrom 109 = .ok (.getfield 40, 3) := by decide +kernel
theorem d_Realm_copyFrom_112 : decode cX5_copyFrom 112 = .ok (.putfield 40, 3) := by decide +kernel
theorem d_Realm_copyFrom_115 : decode cX5_copyFrom 115 = .ok (.aload_n 1, 1) := by decide +kernel
theorem d_Realm_copyFrom_116 : decode cX5_copyFrom 116 = .ok (.getfield 43, 3) := by decide +kernel
theorem d_Realm_copyFrom_119 : decode cX5_copyFrom 119 = .ok (.iconst 0, 1) := by decide +kernel
theorem d_Realm_copyFrom_120 : decode cX5_copyFrom 120 = .ok (.aload_n 0, 1) := by decide +kernel
theorem d_Realm_copyFrom_121 : decode cX5_copyFrom 121 = .ok (.getfield 43, 3) := by decide +kernel
theorem d_Realm_copyFrom_124 : decode cX5_copyFrom 124 = .ok (.iconst 0, 1) := by decide +kernel
theorem d_Realm_copyFrom_125 : decode cX5_copyFrom 125 = .ok (.bipush 6, 2) := by decide +kernel
theorem d_Realm_copyFrom_127 : decode cX5_copyFrom 127 = .ok (.invokestatic 73, 3) := by decide +kernel
theorem d_Realm_copyFrom_130 : decode cX5_copyFrom 130 = .ok (.aload_n 1, 1) := by decide +kernel
theorem d_Realm_copyFrom_131 : decode cX5_copyFrom 131 = .ok (.getfield 46, 3) := by decide +kernel
theorem d_Realm_copyFrom_134 : decode cX5_copyFrom 134 = .ok (.iconst 0, 1) := by decide +kernel
theorem d_Realm_copyFrom_135 : decode cX5_copyFrom 135 = .ok (.aload_n 0, 1) := by decide +kernel
theorem d_Realm_copyFrom_136 : decode cX5_copyFrom 136 = .ok (.getfield 46, 3) := by decide +kernel
theorem d_Realm_copyFrom_139 : decode cX5_copyFrom 139 = .ok (.iconst 0, 1) := by decide +kernel
theorem d_Realm_copyFrom_140 : decode cX5_copyFrom 140 = .ok (.bipush 6, 2) := by decide +kernel
theorem d_Realm_copyFrom_142 : decode cX5_copyFrom 142 = .ok (.invokestatic 73, 3) := by decide +kernel
theorem d_Realm_copyFrom_145 : decode cX5_copyFrom 145 = .ok (.aload_n 1, 1) := by decide +kernel
theorem d_Realm_copyFrom_146 : decode cX5_copyFrom 146 = .ok (.getfield 49, 3) := by decide +kernel
theorem d_Realm_copyFrom_149 : decode cX5_copyFrom 149 = .ok (.iconst 0, 1) := by decide +kernel
theorem d_Realm_copyFrom_150 : decode cX5_copyFrom 150 = .ok (.aload_n 0, 1) := by decide +kernel
theorem d_Realm_copyFrom_151 : decode cX5_copyFrom 151 = .ok (.getfield 49, 3) := by decide +kernel
theorem d_Realm_copyFrom_154 : decode cX5_copyFrom 154 = .ok (.iconst 0, 1) := by decide +kernel
theorem d_Realm_copyFrom_155 : decode cX5_copyFrom 155 = .ok (.bipush 6, 2) := by decide +kernel
theorem d_Realm_copyFrom_157 : decode cX5_copyFrom 157 = .ok (.invokestatic 73, 3) := by decide +kernel
theorem d_Realm_copyFrom_160 : decode cX5_copyFrom 160 = .ok (.aload_n 1, 1) := by decide +kernel
theorem d_Realm_copyFrom_161 : decode cX5_copyFrom 161 = .ok (.getfield 52, 3) := by decide +kernel
theorem d_Realm_copyFrom_164 : decode cX5_copyFrom 164 = .ok (.iconst 0, 1) := by decide +kernel
theorem d_Realm_copyFrom_165 : decode cX5_copyFrom 165 = .ok (.aload_n 0, 1) := by decide +kernel
theorem d_Realm_copyFrom_166 : decode cX5_copyFrom 166 = .ok (.getfield 52, 3) := by decide +kernel
theorem d_Realm_copyFrom_169 : decode cX5_copyFrom 169 = .ok (.iconst 0, 1) := by decide +kernel
theorem d_Realm_copyFrom_170 : decode cX5_copyFrom 170 = .ok (.bipush 6, 2) := by decide +kernel
theorem d_Realm_copyFrom_172 : decode cX5_copyFrom 172 = .ok (.invokestatic 73, 3) := by decide +kernel
theorem d_Realm_copyFrom_175 : decode cX5_copyFrom 175 = .ok (.aload_n 0, 1) := by decide +kernel
theorem d_Realm_copyFrom_176 : decode cX5_copyFrom 176 = .ok (.aload_n 1, 1) := by decide +kernel
theorem d_Realm_copyFrom_177 : decode cX5_copyFrom 177 = .ok (.getfield 55, 3) := by decide +kernel
theorem d_Realm_copyFrom_180 : decode cX5_copyFrom 180 = .ok (.putfield 55, 3) := by decide +kernel
theorem d_Realm_copyFrom_183 : decode cX5_copyFrom 183 = .ok (.aload_n 0, 1) := by decide +kernel
theorem d_Realm_copyFrom_184 : decode cX5_copyFrom 184 = .ok (.aload_n 1, 1) := by decide +kernel
theorem d_Realm_copyFrom_185 : decode cX5_copyFrom 185 = .ok (.getfield 58, 3) := by decide +kernel
theorem d_Realm_copyFrom_188 : decode cX5_copyFrom 188 = .ok (.putfield 58, 3) := by decide +kernel
theorem d_Realm_copyFrom_191 : decode cX5_copyFrom 191 = .ok (.aload_n 0, 1) := by decide +kernel
theorem d_Realm_copyFrom_192 : decode cX5_copyFrom 192 = .ok (.aload_n 1, 1) := by decide +kernel
theorem d_Realm_copyFrom_193 : decode cX5_copyFrom 193 = .ok (.getfield 61, 3) := by decide +kernel
theorem d_Realm_copyFrom_196 : decode cX5_copyFrom 196 = .ok (.putfield 61, 3) := by decide +kernel
theorem d_Realm_copyFrom_199 : decode cX5_copyFrom 199 = .ok (.aload_n 0, 1) := by decide +kernel
theorem d_Realm_copyFrom_200 : decode cX5_copyFrom 200 = .ok (.aload_n 1, 1) := by decide +kernel
theorem d_Realm_copyFrom_201 : decode cX5_copyFrom 201 = .ok (.getfield 64, 3) := by decide +kernel
theorem d_Realm_copyFrom_204 : decode cX5_copyFrom 204 = .ok (.putfield 64, 3) := by decide +kernel
theorem d_Realm_copyFrom_207 : decode cX5_copyFrom 207 = .ok (.aload_n 0, 1) := by decide +kernel
theorem d_Realm_copyFrom_208 : decode cX5_copyFrom 208 = .ok (.aload_n 1, 1) := by decide +kernel
theorem d_Realm_copyFrom_209 : decode cX5_copyFrom 209 = .ok (.getfield 67, 3) := by decide +kernel
theorem d_Realm_copyFrom_212 : decode cX5_copyFrom 212 = .ok (.putfield 67, 3) := by decide +kernel
theorem d_Realm_copyFrom_215 : decode cX5_copyFrom 215 = .ok (.aload_n 0, 1) := by decide +kernel
theorem d_Realm_copyFrom_216 : decode cX5_copyFrom 216 = .ok (.aload_n 1, 1) := by decide +kernel
theorem d_Realm_copyFrom_217 : decode cX5_copyFrom 217 = .ok (.getfield 70, 3) := by decide +kernel
theorem d_Realm_copyFrom_220 : decode cX5_copyFrom 220 = .ok (.putfield 70, 3) := by decide +kernel
theorem d_Realm_copyFrom_223 : decode cX5_copyFrom 223 = .ok (.return_, 1) := by decide +kernel
theorem d_Log_keep_0 : decode cX3_keep 0 = .ok (.aload_n 0, 1) := by decide +kernel
theorem d_Log_keep_1 : decode cX3_keep 1 = .ok (.getfield 11, 3) := by decide +kernel
theorem d_Log_keep_4 : decode cX3_keep 4 = .ok (.aload_n 0, 1) := by decide +kernel
theorem d_Log_keep_5 : decode cX3_keep 5 = .ok (.getfield 17, 3) := by decide +kernel
theorem d_Log_keep_8 : decode cX3_keep 8 = .ok (.aaload, 1) := by decide +kernel
theorem d_Log_keep_9 : decode cX3_keep 9 = .ok (.astore_n 2, 1) := by decide +kernel
theorem d_Log_keep_10 : decode cX3_keep 10 = .ok (.aload_n 2, 1) := by decide +kernel
theorem d_Log_keep_11 : decode cX3_keep 11 = .ok (.ifnull 8, 3) := by decide +kernel
theorem d_Log_keep_14 : decode cX3_keep 14 = .ok (.aload_n 2, 1) := by decide +kernel
theorem d_Log_keep_15 : decode cX3_keep 15 = .ok (.aload_n 1, 1) := by decide +kernel
theorem d_Log_keep_16 : decode cX3_keep 16 = .ok (.invokevirtual 25, 3) := by decide +kernel
theorem d_Log_keep_19 : decode cX3_keep 19 = .ok (.aload_n 0, 1) := by decide +kernel
theorem d_Log_keep_20 : decode cX3_keep 20 = .ok (.aload_n 0, 1) := by decide +kernel
theorem d_Log_keep_21 : decode cX3_keep 21 = .ok (.getfield 17, 3) := by decide +kernel
theorem d_Log_keep_24 : decode cX3_keep 24 = .ok (.iconst 1, 1) := by decide +kernel
theorem d_Log_keep_25 : decode cX3_keep 25 = .ok (.iadd, 1) := by decide +kernel
theorem d_Log_keep_26 : decode cX3_keep 26 = .ok (.bipush 6, 2) := by decide +kernel
theorem d_Log_keep_28 : decode cX3_keep 28 = .ok (.irem, 1) := by decide +kernel
theorem d_Log_keep_29 : decode cX3_keep 29 = .ok (.putfield 17, 3) := by decide +kernel
theorem d_Log_keep_32 : decode cX3_keep 32 = .ok (.aload_n 0, 1) := by decide +kernel
theorem d_Log_keep_33 : decode cX3_keep 33 = .ok (.bipush 6, 2) := by decide +kernel
theorem d_Log_keep_35 : decode cX3_keep 35 = .ok (.aload_n 0, 1) := by decide +kernel
theorem d_Log_keep_36 : decode cX3_keep 36 = .ok (.getfield 21, 3) := by decide +kernel
theorem d_Log_keep_39 : decode cX3_keep 39 = .ok (.iconst 1, 1) := by decide +kernel
theorem d_Log_keep_40 : decode cX3_keep 40 = .ok (.iadd, 1) := by decide +kernel
theorem d_Log_keep_41 : decode cX3_keep 41 = .ok (.invokestatic 29, 3) := by decide +kernel
theorem d_Log_keep_44 : decode cX3_keep 44 = .ok (.putfield 21, 3) := by decide +kernel
theorem d_Log_keep_47 : decode cX3_keep 47 = .ok (.return_, 1) := by decide +kernel
theorem d_Realm_perform_0 : decode cX5_perform 0 = .ok (.aload_n 0, 1) := by decide +kernel
theorem d_Realm_perform_1 : decode cX5_perform 1 = .ok (.iload_n 1, 1) := by decide +kernel
theorem d_Realm_perform_2 : decode cX5_perform 2 = .ok (.iload_n 2, 1) := by decide +kernel
theorem d_Realm_perform_3 : decode cX5_perform 3 = .ok (.iload_n 3, 1) := by decide +kernel
theorem d_Realm_perform_4 : decode cX5_perform 4 = .ok (.invokevirtual 96, 3) := by decide +kernel
theorem d_Realm_perform_7 : decode cX5_perform 7 = .ok (.ifCond .ne 4, 3) := by decide +kernel
theorem d_Realm_perform_10 : decode cX5_perform 10 = .ok (.return_, 1) := by decide +kernel
theorem d_Realm_perform_11 : decode cX5_perform 11 = .ok (.iload_n 1, 1) := by decide +kernel
theorem d_Realm_perform_12 : decode cX5_perform 12 = .ok (.ifCond .ne 13, 3) := by decide +kernel
theorem d_Realm_perform_15 : decode cX5_perform 15 = .ok (.aload_n 0, 1) := by decide +kernel
theorem d_Realm_perform_16 : decode cX5_perform 16 = .ok (.getfield 31, 3) := by decide +kernel
theorem d_Realm_perform_19 : decode cX5_perform 19 = .ok (.iload_n 2, 1) := by decide +kernel
theorem d_Realm_perform_20 : decode cX5_perform 20 = .ok (.iload_n 3, 1) := by decide +kernel
theorem d_Realm_perform_21 : decode cX5_perform 21 = .ok (.iastore, 1) := by decide +kernel
theorem d_Realm_perform_22 : decode cX5_perform 22 = .ok (.goto 80, 3) := by decide +kernel
theorem d_Realm_perform_25 : decode cX5_perform 25 = .ok (.iload_n 1, 1) := by decide +kernel
theorem d_Realm_perform_26 : decode cX5_perform 26 = .ok (.iconst 1, 1) := by decide +kernel
theorem d_Realm_perform_27 : decode cX5_perform 27 = .ok (.if_icmp .ne 20, 3) := by decide +kernel
theorem d_Realm_perform_30 : decode cX5_perform 30 = .ok (.aload_n 0, 1) := by decide +kernel
theorem d_Realm_perform_31 : decode cX5_perform 31 = .ok (.getfield 28, 3) := by decide +kernel
theorem d_Realm_perform_34 : decode cX5_perform 34 = .ok (.iload_n 2, 1) := by decide +kernel
theorem d_Realm_perform_35 : decode cX5_perform 35 = .ok (.aload_n 0, 1) := by decide +kernel
theorem d_Realm_perform_36 : decode cX5_perform 36 = .ok (.getfield 28, 3) := by decide +kernel
theorem d_Realm_perform_39 : decode cX5_perform 39 = .ok (.iload_n 2, 1) := by decide +kernel
theorem d_Realm_perform_40 : decode cX5_perform 40 = .ok (.iaload, 1) := by decide +kernel
theorem d_Realm_perform_41 : decode cX5_perform 41 = .ok (.iconst 2, 1) := by decide +kernel
theorem d_Realm_perform_42 : decode cX5_perform 42 = .ok (.idiv, 1) := by decide +kernel
theorem d_Realm_perform_43 : decode cX5_perform 43 = .ok (.iastore, 1) := by decide +kernel
theorem d_Realm_perform_44 : decode cX5_perform 44 = .ok (.goto 58, 3) := by decide +kernel
theorem d_Realm_perform_47 : decode cX5_perform 47 = .ok (.iload_n 1, 1) := by decide +kernel
theorem d_Realm_perform_48 : decode cX5_perform 48 = .ok (.iconst 2, 1) := by decide +kernel
theorem d_Realm_perform_49 : decode cX5_perform 49 = .ok (.if_icmp .ne 26, 3) := by decide +kernel
theorem d_Realm_perform_52 : decode cX5_perform 52 = .ok (.aload_n 0, 1) := by decide +kernel
theorem d_Realm_perform_53 : decode cX5_perform 53 = .ok (.getfield 28, 3) := by decide +kernel
theorem d_Realm_perform_56 : decode cX5_perform 56 = .ok (.iload_n 2, 1) := by decide +kernel
theorem d_Realm_perform_57 : decode cX5_perform 57 = .ok (.bipush 99, 2) := by decide +kernel
theorem d_Realm_perform_59 : decode cX5_perform 59 = .ok (.aload_n 0, 1) := by decide +kernel
theorem d_Realm_perform_60 : decode cX5_perform 60 = .ok (.getfield 28, 3) := by decide +kernel
theorem d_Realm_perform_63 : decode cX5_perform 63 = .ok (.iload_n 2, 1) := by decide +kernel
theorem d_Realm_perform_64 : decode cX5_perform 64 = .ok (.iaload, 1) := by decide +kernel
theorem d_Realm_perform_65 : decode cX5_perform 65 = .ok (.bipush 20, 2) := by decide +kernel
theorem d_Realm_perform_67 : decode cX5_perform 67 = .ok (.iadd, 1) := by decide +kernel
theorem d_Realm_perform_68 : decode cX5_perform 68 = .ok (.invokestatic 100, 3) := by decide +kernel
theorem d_Realm_perform_71 : decode cX5_perform 71 = .ok (.iastore, 1) := by decide +kernel
theorem d_Realm_perform_72 : decode cX5_perform 72 = .ok (.goto 30, 3) := by decide +kernel
theorem d_Realm_perform_75 : decode cX5_perform 75 = .ok (.iload_n 1, 1) := by decide +kernel
theorem d_Realm_perform_76 : decode cX5_perform 76 = .ok (.iconst 3, 1) := by decide +kernel
theorem d_Realm_perform_77 : decode cX5_perform 77 = .ok (.if_icmp .ne 13, 3) := by decide +kernel
theorem d_Realm_perform_80 : decode cX5_perform 80 = .ok (.aload_n 0, 1) := by decide +kernel
theorem d_Realm_perform_81 : decode cX5_perform 81 = .ok (.getfield 43, 3) := by decide +kernel
theorem d_Realm_perform_84 : decode cX5_perform 84 = .ok (.iload_n 2, 1) := by decide +kernel
theorem d_Realm_perform_85 : decode cX5_perform 85 = .ok (.iload_n 3, 1) := by decide +kernel
theorem d_Realm_perform_86 : decode cX5_perform 86 = .ok (.iastore, 1) := by decide +kernel
theorem d_Realm_perform_87 : decode cX5_perform 87 = .ok (.goto 15, 3) := by decide +kernel
theorem d_Realm_perform_90 : decode cX5_perform 90 = .ok (.aload_n 0, 1) := by decide +kernel
theorem d_Realm_perform_91 : decode cX5_perform 91 = .ok (.dup, 1) := by decide +kernel
theorem d_Realm_perform_92 : decode cX5_perform 92 = .ok (.getfield 55, 3) := by decide +kernel
theorem d_Realm_perform_95 : decode cX5_perform 95 = .ok (.iconst 1, 1) := by decide +kernel
theorem d_Realm_perform_96 : decode cX5_perform 96 = .ok (.iload_n 2, 1) := by decide +kernel
theorem d_Realm_perform_97 : decode cX5_perform 97 = .ok (.ishl, 1) := by decide +kernel
theorem d_Realm_perform_98 : decode cX5_perform 98 = .ok (.ixor, 1) := by decide +kernel
theorem d_Realm_perform_99 : decode cX5_perform 99 = .ok (.putfield 55, 3) := by decide +kernel
theorem d_Realm_perform_102 : decode cX5_perform 102 = .ok (.return_, 1) := by decide +kernel
theorem d_Tc_act_0 : decode cX8_act 0 = .ok (.aload_n 0, 1) := by decide +kernel
theorem d_Tc_act_1 : decode cX8_act 1 = .ok (.getfield 10, 3) := by decide +kernel
theorem d_Tc_act_4 : decode cX8_act 4 = .ok (.getfield 47, 3) := by decide +kernel
theorem d_Tc_act_7 : decode cX8_act 7 = .ok (.iload_n 1, 1) := by decide +kernel
theorem d_Tc_act_8 : decode cX8_act 8 = .ok (.iload_n 2, 1) := by decide +kernel
theorem d_Tc_act_9 : decode cX8_act 9 = .ok (.iload_n 3, 1) := by decide +kernel
theorem d_Tc_act_10 : decode cX8_act 10 = .ok (.invokevirtual 75, 3) := by decide +kernel
theorem d_Tc_act_13 : decode cX8_act 13 = .ok (.ifCond .ne 5, 3) := by decide +kernel
theorem d_Tc_act_16 : decode cX8_act 16 = .ok (.iconst 0, 1) := by decide +kernel
theorem d_Tc_act_17 : decode cX8_act 17 = .ok (.ireturn, 1) := by decide +kernel
theorem d_Tc_act_18 : decode cX8_act 18 = .ok (.aload_n 0, 1) := by decide +kernel
theorem d_Tc_act_19 : decode cX8_act 19 = .ok (.getfield 19, 3) := by decide +kernel
theorem d_Tc_act_22 : decode cX8_act 22 = .ok (.aload_n 0, 1) := by decide +kernel
theorem d_Tc_act_23 : decode cX8_act 23 = .ok (.getfield 10, 3) := by decide +kernel
theorem d_Tc_act_26 : decode cX8_act 26 = .ok (.getfield 47, 3) := by decide +kernel
theorem d_Tc_act_29 : decode cX8_act 29 = .ok (.invokevirtual 78, 3) := by decide +kernel
theorem d_Tc_act_32 : decode cX8_act 32 = .ok (.aload_n 0, 1) := by decide +kernel
theorem d_Tc_act_33 : decode cX8_act 33 = .ok (.getfield 10, 3) := by decide +kernel
theorem d_Tc_act_36 : decode cX8_act 36 = .ok (.getfield 47, 3) := by decide +kernel
theorem d_Tc_act_39 : decode cX8_act 39 = .ok (.iload_n 1, 1) := by decide +kernel
theorem d_Tc_act_40 : decode cX8_act 40 = .ok (.iload_n 2, 1) := by decide +kernel
theorem d_Tc_act_41 : decode cX8_act 41 = .ok (.iload_n 3, 1) := by decide +kernel
theorem d_Tc_act_42 : decode cX8_act 42 = .ok (.invokevirtual 82, 3) := by decide +kernel
theorem d_Tc_act_45 : decode cX8_act 45 = .ok (.iconst 1, 1) := by decide +kernel
theorem d_Tc_act_46 : decode cX8_act 46 = .ok (.ireturn, 1) := by decide +kernel
theorem d_Row_get_0 : decode cX6_get 0 = .ok (.iload_n 1, 1) := by decide +kernel
theorem d_Row_get_1 : decode cX6_get 1 = .ok (.ifCond .lt 23, 3) := by decide +kernel
theorem d_Row_get_4 : decode cX6_get 4 = .ok (.iload_n 1, 1) := by decide +kernel
theorem d_Row_get_5 : decode cX6_get 5 = .ok (.aload_n 0, 1) := by decide +kernel
theorem d_Row_get_6 : decode cX6_get 6 = .ok (.getfield 9, 3) := by decide +kernel
theorem d_Row_get_9 : decode cX6_get 9 = .ok (.if_icmp .ge 15, 3) := by decide +kernel
theorem d_Row_get_12 : decode cX6_get 12 = .ok (.iload_n 2, 1) := by decide +kernel
theorem d_Row_get_13 : decode cX6_get 13 = .ok (.ifCond .lt 11, 3) := by decide +kernel
theorem d_Row_get_16 : decode cX6_get 16 = .ok (.iload_n 2, 1) := by decide +kernel
theorem d_Row_get_17 : decode cX6_get 17 = .ok (.aload_n 0, 1) := by decide +kernel
theorem d_Row_get_18 : decode cX6_get 18 = .ok (.getfield 15, 3) := by decide +kernel
theorem d_Row_get_21 : decode cX6_get 21 = .ok (.if_icmp .lt 5, 3) := by decide +kernel
theorem d_Row_get_24 : decode cX6_get 24 = .ok (.iconst (-1), 1) := by decide +kernel
theorem d_Row_get_25 : decode cX6_get 25 = .ok (.ireturn, 1) := by decide +kernel
theorem d_Row_get_26 : decode cX6_get 26 = .ok (.aload_n 0, 1) := by decide +kernel
theorem d_Row_get_27 : decode cX6_get 27 = .ok (.getfield 18, 3) := by decide +kernel
theorem d_Row_get_30 : decode cX6_get 30 = .ok (.iload_n 1, 1) := by decide +kernel
theorem d_Row_get_31 : decode cX6_get 31 = .ok (.aload_n 0, 1) := by decide +kernel
theorem d_Row_get_32 : decode cX6_get 32 = .ok (.getfield 15, 3) := by decide +kernel
theorem d_Row_get_35 : decode cX6_get 35 = .ok (.imul, 1) := by decide +kernel
theorem d_Row_get_36 : decode cX6_get 36 = .ok (.iload_n 2, 1) := by decide +kernel
theorem d_Row_get_37 : decode cX6_get 37 = .ok (.iadd, 1) := by decide +kernel
theorem d_Row_get_38 : decode cX6_get 38 = .ok (.iaload, 1) := by decide +kernel
theorem d_Row_get_39 : decode cX6_get 39 = .ok (.ireturn, 1) := by decide +kernel
theorem d_Land_kinOf_0 : decode cX1_kinOf 0 = .ok (.iconst 0, 1) := by decide +kernel
theorem d_Land_kinOf_1 : decode cX1_kinOf 1 = .ok (.istore_n 2, 1) := by decide +kernel
theorem d_Land_kinOf_2 : decode cX1_kinOf 2 = .ok (.iconst 0, 1) := by decide +kernel
theorem d_Land_kinOf_3 : decode cX1_kinOf 3 = .ok (.istore_n 3, 1) := by decide +kernel
theorem d_Land_kinOf_4 : decode cX1_kinOf 4 = .ok (.iload_n 3, 1) := by decide +kernel
theorem d_Land_kinOf_5 : decode cX1_kinOf 5 = .ok (.aload_n 0, 1) := by decide +kernel
theorem d_Land_kinOf_6 : decode cX1_kinOf 6 = .ok (.getfield 34, 3) := by decide +kernel
theorem d_Land_kinOf_9 : decode cX1_kinOf 9 = .ok (.getfield 74, 3) := by decide +kernel
theorem d_Land_kinOf_12 : decode cX1_kinOf 12 = .ok (.if_icmp .ge 66, 3) := by decide +kernel
theorem d_Land_kinOf_15 : decode cX1_kinOf 15 = .ok (.aload_n 0, 1) := by decide +kernel
theorem d_Land_kinOf_16 : decode cX1_kinOf 16 = .ok (.getfield 34, 3) := by decide +kernel
theorem d_Land_kinOf_19 : decode cX1_kinOf 19 = .ok (.iload_n 3, 1) := by decide +kernel
theorem d_Land_kinOf_20 : decode cX1_kinOf 20 = .ok (.iconst 0, 1) := by decide +kernel
theorem d_Land_kinOf_21 : decode cX1_kinOf 21 = .ok (.invokevirtual 78, 3) := by decide +kernel
theorem d_Land_kinOf_24 : decode cX1_kinOf 24 = .ok (.iload_n 1, 1) := by decide +kernel
theorem d_Land_kinOf_25 : decode cX1_kinOf 25 = .ok (.if_icmp .ne 20, 3) := by decide +kernel
theorem d_Land_kinOf_28 : decode cX1_kinOf 28 = .ok (.iload_n 2, 1) := by decide +kernel
theorem d_Land_kinOf_29 : decode cX1_kinOf 29 = .ok (.iconst 1, 1) := by decide +kernel
theorem d_Land_kinOf_30 : decode cX1_kinOf 30 = .ok (.aload_n 0, 1) := by decide +kernel
theorem d_Land_kinOf_31 : decode cX1_kinOf 31 = .ok (.getfield 34, 3) := by decide +kernel
theorem d_Land_kinOf_34 : decode cX1_kinOf 34 = .ok (.iload_n 3, 1) := by decide +kernel
theorem d_Land_kinOf_35 : decode cX1_kinOf 35 = .ok (.iconst 1, 1) := by decide +kernel
theorem d_Land_kinOf_36 : decode cX1_kinOf 36 = .ok (.invokevirtual 78, 3) := by decide +kernel
theorem d_Land_kinOf_39 : decode cX1_kinOf 39 = .ok (.ishl, 1) := by decide +kernel
theorem d_Land_kinOf_40 : decode cX1_kinOf 40 = .ok (.ior, 1) := by decide +kernel
theorem d_Land_kinOf_41 : decode cX1_kinOf 41 = .ok (.istore_n 2, 1) := by decide +kernel
theorem d_Land_kinOf_42 : decode cX1_kinOf 42 = .ok (.goto 30, 3) := by decide +kernel
theorem d_Land_kinOf_45 : decode cX1_kinOf 45 = .ok (.aload_n 0, 1) := by decide +kernel
theorem d_Land_kinOf_46 : decode cX1_kinOf 46 = .ok (.getfield 34, 3) := by decide +kernel
theorem d_Land_kinOf_49 : decode cX1_kinOf 49 = .ok (.iload_n 3, 1) := by decide +kernel
theorem d_Land_kinOf_50 : decode cX1_kinOf 50 = .ok (.iconst 1, 1) := by decide +kernel
theorem d_Land_kinOf_51 : decode cX1_kinOf 51 = .ok (.invokevirtual 78, 3) := by decide +kernel
theorem d_Land_kinOf_54 : decode cX1_kinOf 54 = .ok (.iload_n 1, 1) := by decide +kernel
theorem d_Land_kinOf_55 : decode cX1_kinOf 55 = .ok (.if_icmp .ne 17, 3) := by decide +kernel
theorem d_Land_kinOf_58 : decode cX1_kinOf 58 = .ok (.iload_n 2, 1) := by decide +kernel
theorem d_Land_kinOf_59 : decode cX1_kinOf 59 = .ok (.iconst 1, 1) := by decide +kernel
theorem d_Land_kinOf_60 : decode cX1_kinOf 60 = .ok (.aload_n 0, 1) := by decide +kernel
theorem d_Land_kinOf_61 : decode cX1_kinOf 61 = .ok (.getfield 34, 3) := by decide +kernel
theorem d_Land_kinOf_64 : decode cX1_kinOf 64 = .ok (.iload_n 3, 1) := by decide +kernel
theorem d_Land_kinOf_65 : decode cX1_kinOf 65 = .ok (.iconst 0, 1) := by decide +kernel
theorem d_Land_kinOf_66 : decode cX1_kinOf 66 = .ok (.invokevirtual 78, 3) := by decide +kernel
theorem d_Land_kinOf_69 : decode cX1_kinOf 69 = .ok (.ishl, 1) := by decide +kernel
theorem d_Land_kinOf_70 : decode cX1_kinOf 70 = .ok (.ior, 1) := by decide +kernel
theorem d_Land_kinOf_71 : decode cX1_kinOf 71 = .ok (.istore_n 2, 1) := by decide +kernel
theorem d_Land_kinOf_72 : decode cX1_kinOf 72 = .ok (.iinc 3 1, 3) := by decide +kernel
theorem d_Land_kinOf_75 : decode cX1_kinOf 75 = .ok (.goto (-71), 3) := by decide +kernel
theorem d_Land_kinOf_78 : decode cX1_kinOf 78 = .ok (.iload_n 2, 1) := by decide +kernel
theorem d_Land_kinOf_79 : decode cX1_kinOf 79 = .ok (.ireturn, 1) := by decide +kernel
theorem d_Int_bitCount_0 : decode prog_12_method_49_code 0 = .ok (.iload_n 0, 1) := by decide +kernel
theorem d_Int_bitCount_1 : decode prog_12_method_49_code 1 = .ok (.iload_n 0, 1) := by decide +kernel
theorem d_Int_bitCount_2 : decode prog_12_method_49_code 2 = .ok (.iconst 1, 1) := by decide +kernel
theorem d_Int_bitCount_3 : decode prog_12_method_49_code 3 = .ok (.iushr, 1) := by decide +kernel
theorem d_Int_bitCount_4 : decode prog_12_method_49_code 4 = .ok (.ldc_w 265, 3) := by decide +kernel
theorem d_Int_bitCount_7 : decode prog_12_method_49_code 7 = .ok (.iand, 1) := by decide +kernel
theorem d_Int_bitCount_8 : decode prog_12_method_49_code 8 = .ok (.isub, 1) := by decide +kernel
theorem d_Int_bitCount_9 : decode prog_12_method_49_code 9 = .ok (.istore_n 0, 1) := by decide +kernel
theorem d_Int_bitCount_10 : decode prog_12_method_49_code 10 = .ok (.iload_n 0, 1) := by decide +kernel
theorem d_Int_bitCount_11 : decode prog_12_method_49_code 11 = .ok (.ldc_w 266, 3) := by decide +kernel
theorem d_Int_bitCount_14 : decode prog_12_method_49_code 14 = .ok (.iand, 1) := by decide +kernel
theorem d_Int_bitCount_15 : decode prog_12_method_49_code 15 = .ok (.iload_n 0, 1) := by decide +kernel
theorem d_Int_bitCount_16 : decode prog_12_method_49_code 16 = .ok (.iconst 2, 1) := by decide +kernel
theorem d_Int_bitCount_17 : decode prog_12_method_49_code 17 = .ok (.iushr, 1) := by decide +kernel
theorem d_Int_bitCount_18 : decode prog_12_method_49_code 18 = .ok (.ldc_w 266, 3) := by decide +kernel
theorem d_Int_bitCount_21 : decode prog_12_method_49_code 21 = .ok (.iand, 1) := by decide +kernel
theorem d_Int_bitCount_22 : decode prog_12_method_49_code 22 = .ok (.iadd, 1) := by decide +kernel
theorem d_Int_bitCount_23 : decode prog_12_method_49_code 23 = .ok (.istore_n 0, 1) := by decide +kernel
theorem d_Int_bitCount_24 : decode prog_12_method_49_code 24 = .ok (.iload_n 0, 1) := by decide +kernel
theorem d_Int_bitCount_25 : decode prog_12_method_49_code 25 = .ok (.iload_n 0, 1) := by decide +kernel
theorem d_Int_bitCount_26 : decode prog_12_method_49_code 26 = .ok (.iconst 4, 1) := by decide +kernel
theorem d_Int_bitCount_27 : decode prog_12_method_49_code 27 = .ok (.iushr, 1) := by decide +kernel
theorem d_Int_bitCount_28 : decode prog_12_method_49_code 28 = .ok (.iadd, 1) := by decide +kernel
theorem d_Int_bitCount_29 : decode prog_12_method_49_code 29 = .ok (.ldc_w 267, 3) := by decide +kernel
theorem d_Int_bitCount_32 : decode prog_12_method_49_code 32 = .ok (.iand, 1) := by decide +kernel
theorem d_Int_bitCount_33 : decode prog_12_method_49_code 33 = .ok (.istore_n 0, 1) := by decide +kernel
theorem d_Int_bitCount_34 : decode prog_12_method_49_code 34 = .ok (.iload_n 0, 1) := by decide +kernel
theorem d_Int_bitCount_35 : decode prog_12_method_49_code 35 = .ok (.iload_n 0, 1) := by decide +kernel
theorem d_Int_bitCount_36 : decode prog_12_method_49_code 36 = .ok (.bipush 8, 2) := by decide +kernel
theorem d_Int_bitCount_38 : decode prog_12_method_49_code 38 = .ok (.iushr, 1) := by decide +kernel
theorem d_Int_bitCount_39 : decode prog_12_method_49_code 39 = .ok (.iadd, 1) := by decide +kernel
theorem d_Int_bitCount_40 : decode prog_12_method_49_code 40 = .ok (.istore_n 0, 1) := by decide +kernel
theorem d_Int_bitCount_41 : decode prog_12_method_49_code 41 = .ok (.iload_n 0, 1) := by decide +kernel
theorem d_Int_bitCount_42 : decode prog_12_method_49_code 42 = .ok (.iload_n 0, 1) := by decide +kernel
theorem d_Int_bitCount_43 : decode prog_12_method_49_code 43 = .ok (.bipush 16, 2) := by decide +kernel
theorem d_Int_bitCount_45 : decode prog_12_method_49_code 45 = .ok (.iushr, 1) := by decide +kernel
theorem d_Int_bitCount_46 : decode prog_12_method_49_code 46 = .ok (.iadd, 1) := by decide +kernel
theorem d_Int_bitCount_47 : decode prog_12_method_49_code 47 = .ok (.istore_n 0, 1) := by decide +kernel
theorem d_Int_bitCount_48 : decode prog_12_method_49_code 48 = .ok (.iload_n 0, 1) := by decide +kernel
theorem d_Int_bitCount_49 : decode prog_12_method_49_code 49 = .ok (.bipush 63, 2) := by decide +kernel
theorem d_Int_bitCount_51 : decode prog_12_method_49_code 51 = .ok (.iand, 1) := by decide +kernel
theorem d_Int_bitCount_52 : decode prog_12_method_49_code 52 = .ok (.ireturn, 1) := by decide +kernel
theorem d_Law_ask_0 : decode cX2_ask 0 = .ok (.aload_n 1, 1) := by decide +kernel
theorem d_Law_ask_1 : decode cX2_ask 1 = .ok (.iload_n 2, 1) := by decide +kernel
theorem d_Law_ask_2 : decode cX2_ask 2 = .ok (.invokevirtual 48, 3) := by decide +kernel
theorem d_Law_ask_5 : decode cX2_ask 5 = .ok (.ifCond .ne 4, 3) := by decide +kernel
theorem d_Law_ask_8 : decode cX2_ask 8 = .ok (.return_, 1) := by decide +kernel
theorem d_Law_ask_9 : decode cX2_ask 9 = .ok (.aload_n 1, 1) := by decide +kernel
theorem d_Law_ask_10 : decode cX2_ask 10 = .ok (.iload_n 3, 1) := by decide +kernel
theorem d_Law_ask_11 : decode cX2_ask 11 = .ok (.invokevirtual 54, 3) := by decide +kernel
theorem d_Law_ask_14 : decode cX2_ask 14 = .ok (.istore 5, 2) := by decide +kernel
theorem d_Law_ask_16 : decode cX2_ask 16 = .ok (.aload_n 0, 1) := by decide +kernel
theorem d_Law_ask_17 : decode cX2_ask 17 = .ok (.getfield 28, 3) := by decide +kernel
theorem d_Law_ask_20 : decode cX2_ask 20 = .ok (.iconst 0, 1) := by decide +kernel
theorem d_Law_ask_21 : decode cX2_ask 21 = .ok (.aload_n 1, 1) := by decide +kernel
theorem d_Law_ask_22 : decode cX2_ask 22 = .ok (.getfield 57, 3) := by decide +kernel
theorem d_Law_ask_25 : decode cX2_ask 25 = .ok (.iload_n 2, 1) := by decide +kernel
theorem d_Law_ask_26 : decode cX2_ask 26 = .ok (.iaload, 1) := by decide +kernel
theorem d_Law_ask_27 : decode cX2_ask 27 = .ok (.iastore, 1) := by decide +kernel
theorem d_Law_ask_28 : decode cX2_ask 28 = .ok (.aload_n 0, 1) := by decide +kernel
theorem d_Law_ask_29 : decode cX2_ask 29 = .ok (.getfield 28, 3) := by decide +kernel
theorem d_Law_ask_32 : decode cX2_ask 32 = .ok (.iconst 1, 1) := by decide +kernel
theorem d_Law_ask_33 : decode cX2_ask 33 = .ok (.aload_n 1, 1) := by decide +kernel
theorem d_Law_ask_34 : decode cX2_ask 34 = .ok (.getfield 60, 3) := by decide +kernel
theorem d_Law_ask_37 : decode cX2_ask 37 = .ok (.iload_n 2, 1) := by decide +kernel
theorem d_Law_ask_38 : decode cX2_ask 38 = .ok (.iaload, 1) := by decide +kernel
theorem d_Law_ask_39 : decode cX2_ask 39 = .ok (.iastore, 1) := by decide +kernel
theorem d_Law_ask_40 : decode cX2_ask 40 = .ok (.aload_n 0, 1) := by decide +kernel
theorem d_Law_ask_41 : decode cX2_ask 41 = .ok (.getfield 28, 3) := by decide +kernel
theorem d_Law_ask_44 : decode cX2_ask 44 = .ok (.iconst 2, 1) := by decide +kernel
theorem d_Law_ask_45 : decode cX2_ask 45 = .ok (.aload_n 1, 1) := by decide +kernel
theorem d_Law_ask_46 : decode cX2_ask 46 = .ok (.getfield 63, 3) := by decide +kernel
theorem d_Law_ask_49 : decode cX2_ask 49 = .ok (.iload_n 2, 1) := by decide +kernel
theorem d_Law_ask_50 : decode cX2_ask 50 = .ok (.iaload, 1) := by decide +kernel
theorem d_Law_ask_51 : decode cX2_ask 51 = .ok (.iastore, 1) := by decide +kernel
theorem d_Law_ask_52 : decode cX2_ask 52 = .ok (.aload_n 0, 1) := by decide +kernel
theorem d_Law_ask_53 : decode cX2_ask 53 = .ok (.getfield 28, 3) := by decide +kernel
theorem d_Law_ask_56 : decode cX2_ask 56 = .ok (.iconst 3, 1) := by decide +kernel
theorem d_Law_ask_57 : decode cX2_ask 57 = .ok (.aload_n 1, 1) := by decide +kernel
theorem d_Law_ask_58 : decode cX2_ask 58 = .ok (.getfield 66, 3) := by decide +kernel
theorem d_Law_ask_61 : decode cX2_ask 61 = .ok (.iload_n 2, 1) := by decide +kernel
theorem d_Law_ask_62 : decode cX2_ask 62 = .ok (.iaload, 1) := by decide +kernel
theorem d_Law_ask_63 : decode cX2_ask 63 = .ok (.iastore, 1) := by decide +kernel
theorem d_Law_ask_64 : decode cX2_ask 64 = .ok (.aload_n 0, 1) := by decide +kernel
theorem d_Law_ask_65 : decode cX2_ask 65 = .ok (.getfield 28, 3) := by decide +kernel
theorem d_Law_ask_68 : decode cX2_ask 68 = .ok (.iconst 4, 1) := by decide +kernel
theorem d_Law_ask_69 : decode cX2_ask 69 = .ok (.aload_n 1, 1) := by decide +kernel
theorem d_Law_ask_70 : decode cX2_ask 70 = .ok (.getfield 69, 3) := by decide +kernel
theorem d_Law_ask_73 : decode cX2_ask 73 = .ok (.bipush 24, 2) := by decide +kernel
theorem d_Law_ask_75 : decode cX2_ask 75 = .ok (.irem, 1) := by decide +kernel
theorem d_Law_ask_76 : decode cX2_ask 76 = .ok (.iastore, 1) := by decide +kernel
theorem d_Law_ask_77 : decode cX2_ask 77 = .ok (.aload_n 0, 1) := by decide +kernel
theorem d_Law_ask_78 : decode cX2_ask 78 = .ok (.getfield 28, 3) := by decide +kernel
theorem d_Law_ask_81 : decode cX2_ask 81 = .ok (.iconst 5, 1) := by decide +kernel
theorem d_Law_ask_82 : decode cX2_ask 82 = .ok (.iconst 0, 1) := by decide +kernel
theorem d_Law_ask_83 : decode cX2_ask 83 = .ok (.aload_n 1, 1) := by decide +kernel
theorem d_Law_ask_84 : decode cX2_ask 84 = .ok (.getfield 72, 3) := by decide +kernel
theorem d_Law_ask_87 : decode cX2_ask 87 = .ok (.iload_n 2, 1) := by decide +kernel
theorem d_Law_ask_88 : decode cX2_ask 88 = .ok (.iaload, 1) := by decide +kernel
theorem d_Law_ask_89 : decode cX2_ask 89 = .ok (.invokestatic 75, 3) := by decide +kernel
theorem d_Law_ask_92 : decode cX2_ask 92 = .ok (.iastore, 1) := by decide +kernel
theorem d_Law_ask_93 : decode cX2_ask 93 = .ok (.aload_n 0, 1) := by decide +kernel
theorem d_Law_ask_94 : decode cX2_ask 94 = .ok (.getfield 28, 3) := by decide +kernel
theorem d_Law_ask_97 : decode cX2_ask 97 = .ok (.bipush 6, 2) := by decide +kernel
theorem d_Law_ask_99 : decode cX2_ask 99 = .ok (.iload 5, 2) := by decide +kernel
theorem d_Law_ask_101 : decode cX2_ask 101 = .ok (.ifCond .eq 12, 3) := by decide +kernel
theorem d_Law_ask_104 : decode cX2_ask 104 = .ok (.aload_n 1, 1) := by decide +kernel
theorem d_Law_ask_105 : decode cX2_ask 105 = .ok (.getfield 81, 3) := by decide +kernel
theorem d_Law_ask_108 : decode cX2_ask 108 = .ok (.iload_n 3, 1) := by decide +kernel
theorem d_Law_ask_109 : decode cX2_ask 109 = .ok (.iaload, 1) := by decide +kernel
theorem d_Law_ask_110 : decode cX2_ask 110 = .ok (.goto 4, 3) := by decide +kernel
theorem d_Law_ask_113 : decode cX2_ask 113 = .ok (.iconst 0, 1) := by decide +kernel
theorem d_Law_ask_114 : decode cX2_ask 114 = .ok (.iastore, 1) := by decide +kernel
theorem d_Law_ask_115 : decode cX2_ask 115 = .ok (.aload_n 0, 1) := by decide +kernel
theorem d_Law_ask_116 : decode cX2_ask 116 = .ok (.getfield 28, 3) := by decide +kernel
theorem d_Law_ask_119 : decode cX2_ask 119 = .ok (.bipush 7, 2) := by decide +kernel
theorem d_Law_ask_121 : decode cX2_ask 121 = .ok (.iload 5, 2) := by decide +kernel
theorem d_Law_ask_123 : decode cX2_ask 123 = .ok (.ifCond .eq 12, 3) := by decide +kernel
theorem d_Law_ask_126 : decode cX2_ask 126 = .ok (.aload_n 1, 1) := by decide +kernel
theorem d_Law_ask_127 : decode cX2_ask 127 = .ok (.getfield 84, 3) := by decide +kernel
theorem d_Law_ask_130 : decode cX2_ask 130 = .ok (.iload_n 3, 1) := by decide +kernel
theorem d_Law_ask_131 : decode cX2_ask 131 = .ok (.iaload, 1) := by decide +kernel
theorem d_Law_ask_132 : decode cX2_ask 132 = .ok (.goto 4, 3) := by decide +kernel
theorem d_Law_ask_135 : decode cX2_ask 135 = .ok (.iconst 0, 1) := by decide +kernel
theorem d_Law_ask_136 : decode cX2_ask 136 = .ok (.iastore, 1) := by decide +kernel
theorem d_Law_ask_137 : decode cX2_ask 137 = .ok (.aload_n 0, 1) := by decide +kernel
theorem d_Law_ask_138 : decode cX2_ask 138 = .ok (.getfield 28, 3) := by decide +kernel
theorem d_Law_ask_141 : decode cX2_ask 141 = .ok (.bipush 8, 2) := by decide +kernel
theorem d_Law_ask_143 : decode cX2_ask 143 = .ok (.iload 5, 2) := by decide +kernel
theorem d_Law_ask_145 : decode cX2_ask 145 = .ok (.ifCond .eq 12, 3) := by decide +kernel
theorem d_Law_ask_148 : decode cX2_ask 148 = .ok (.aload_n 1, 1) := by decide +kernel
theorem d_Law_ask_149 : decode cX2_ask 149 = .ok (.getfield 87, 3) := by decide +kernel
theorem d_Law_ask_152 : decode cX2_ask 152 = .ok (.iload_n 3, 1) := by decide +kernel
theorem d_Law_ask_153 : decode cX2_ask 153 = .ok (.iaload, 1) := by decide +kernel
theorem d_Law_ask_154 : decode cX2_ask 154 = .ok (.goto 4, 3) := by decide +kernel
theorem d_Law_ask_157 : decode cX2_ask 157 = .ok (.iconst 0, 1) := by decide +kernel
theorem d_Law_ask_158 : decode cX2_ask 158 = .ok (.iastore, 1) := by decide +kernel
theorem d_Law_ask_159 : decode cX2_ask 159 = .ok (.aload_n 0, 1) := by decide +kernel
theorem d_Law_ask_160 : decode cX2_ask 160 = .ok (.getfield 28, 3) := by decide +kernel
theorem d_Law_ask_163 : decode cX2_ask 163 = .ok (.bipush 9, 2) := by decide +kernel
theorem d_Law_ask_165 : decode cX2_ask 165 = .ok (.iload 4, 2) := by decide +kernel
theorem d_Law_ask_167 : decode cX2_ask 167 = .ok (.iastore, 1) := by decide +kernel
theorem d_Law_ask_168 : decode cX2_ask 168 = .ok (.return_, 1) := by decide +kernel
theorem d_Law_joined_0 : decode cX2_joined 0 = .ok (.iload_n 0, 1) := by decide +kernel
theorem d_Law_joined_1 : decode cX2_joined 1 = .ok (.tableswitch 116 (-19) (-11) #[112, 108, 97, 86, 75, 63, 59, 55, 51], 51) := by decide +kernel
theorem d_Law_joined_52 : decode cX2_joined 52 = .ok (.iload_n 1, 1) := by decide +kernel
theorem d_Law_joined_53 : decode cX2_joined 53 = .ok (.iload_n 2, 1) := by decide +kernel
theorem d_Law_joined_54 : decode cX2_joined 54 = .ok (.iadd, 1) := by decide +kernel
theorem d_Law_joined_55 : decode cX2_joined 55 = .ok (.ireturn, 1) := by decide +kernel
theorem d_Law_joined_56 : decode cX2_joined 56 = .ok (.iload_n 1, 1) := by decide +kernel
theorem d_Law_joined_57 : decode cX2_joined 57 = .ok (.iload_n 2, 1) := by decide +kernel
theorem d_Law_joined_58 : decode cX2_joined 58 = .ok (.isub, 1) := by decide +kernel
theorem d_Law_joined_59 : decode cX2_joined 59 = .ok (.ireturn, 1) := by decide +kernel
theorem d_Law_joined_60 : decode cX2_joined 60 = .ok (.iload_n 1, 1) := by decide +kernel
theorem d_Law_joined_61 : decode cX2_joined 61 = .ok (.iload_n 2, 1) := by decide +kernel
theorem d_Law_joined_62 : decode cX2_joined 62 = .ok (.imul, 1) := by decide +kernel
theorem d_Law_joined_63 : decode cX2_joined 63 = .ok (.ireturn, 1) := by decide +kernel
theorem d_Law_joined_64 : decode cX2_joined 64 = .ok (.iload_n 2, 1) := by decide +kernel
theorem d_Law_joined_65 : decode cX2_joined 65 = .ok (.ifCond .ne 7, 3) := by decide +kernel
theorem d_Law_joined_68 : decode cX2_joined 68 = .ok (.iconst 0, 1) := by decide +kernel
theorem d_Law_joined_69 : decode cX2_joined 69 = .ok (.goto 6, 3) := by decide +kernel
theorem d_Law_joined_72 : decode cX2_joined 72 = .ok (.iload_n 1, 1) := by decide +kernel
theorem d_Law_joined_73 : decode cX2_joined 73 = .ok (.iload_n 2, 1) := by decide +kernel
theorem d_Law_joined_74 : decode cX2_joined 74 = .ok (.idiv, 1) := by decide +kernel
theorem d_Law_joined_75 : decode cX2_joined 75 = .ok (.ireturn, 1) := by decide +kernel
theorem d_Law_joined_76 : decode cX2_joined 76 = .ok (.iload_n 1, 1) := by decide +kernel
theorem d_Law_joined_77 : decode cX2_joined 77 = .ok (.iload_n 2, 1) := by decide +kernel
theorem d_Law_joined_78 : decode cX2_joined 78 = .ok (.if_icmp .ge 7, 3) := by decide +kernel
theorem d_Law_joined_81 : decode cX2_joined 81 = .ok (.iconst 1, 1) := by decide +kernel
theorem d_Law_joined_82 : decode cX2_joined 82 = .ok (.goto 4, 3) := by decide +kernel
theorem d_Law_joined_85 : decode cX2_joined 85 = .ok (.iconst 0, 1) := by decide +kernel
theorem d_Law_joined_86 : decode cX2_joined 86 = .ok (.ireturn, 1) := by decide +kernel
theorem d_Law_joined_87 : decode cX2_joined 87 = .ok (.iload_n 1, 1) := by decide +kernel
theorem d_Law_joined_88 : decode cX2_joined 88 = .ok (.iload_n 2, 1) := by decide +kernel
theorem d_Law_joined_89 : decode cX2_joined 89 = .ok (.if_icmp .ne 7, 3) := by decide +kernel
theorem d_Law_joined_92 : decode cX2_joined 92 = .ok (.iconst 1, 1) := by decide +kernel
theorem d_Law_joined_93 : decode cX2_joined 93 = .ok (.goto 4, 3) := by decide +kernel
theorem d_Law_joined_96 : decode cX2_joined 96 = .ok (.iconst 0, 1) := by decide +kernel
theorem d_Law_joined_97 : decode cX2_joined 97 = .ok (.ireturn, 1) := by decide +kernel
theorem d_Law_joined_98 : decode cX2_joined 98 = .ok (.iload_n 1, 1) := by decide +kernel
theorem d_Law_joined_99 : decode cX2_joined 99 = .ok (.iload_n 2, 1) := by decide +kernel
theorem d_Law_joined_100 : decode cX2_joined 100 = .ok (.if_icmp .le 7, 3) := by decide +kernel
theorem d_Law_joined_103 : decode cX2_joined 103 = .ok (.iconst 1, 1) := by decide +kernel
theorem d_Law_joined_104 : decode cX2_joined 104 = .ok (.goto 4, 3) := by decide +kernel
theorem d_Law_joined_107 : decode cX2_joined 107 = .ok (.iconst 0, 1) := by decide +kernel
theorem d_Law_joined_108 : decode cX2_joined 108 = .ok (.ireturn, 1) := by decide +kernel
theorem d_Law_joined_109 : decode cX2_joined 109 = .ok (.iload_n 1, 1) := by decide +kernel
theorem d_Law_joined_110 : decode cX2_joined 110 = .ok (.iload_n 2, 1) := by decide +kernel
theorem d_Law_joined_111 : decode cX2_joined 111 = .ok (.iand, 1) := by decide +kernel
theorem d_Law_joined_112 : decode cX2_joined 112 = .ok (.ireturn, 1) := by decide +kernel
theorem d_Law_joined_113 : decode cX2_joined 113 = .ok (.iload_n 1, 1) := by decide +kernel
theorem d_Law_joined_114 : decode cX2_joined 114 = .ok (.iload_n 2, 1) := by decide +kernel
theorem d_Law_joined_115 : decode cX2_joined 115 = .ok (.ior, 1) := by decide +kernel
theorem d_Law_joined_116 : decode cX2_joined 116 = .ok (.ireturn, 1) := by decide +kernel
theorem d_Law_joined_117 : decode cX2_joined 117 = .ok (.iconst 0, 1) := by decide +kernel
theorem d_Law_joined_118 : decode cX2_joined 118 = .ok (.ireturn, 1) := by decide +kernel
theorem d_Law_reckon_0 : decode cX2_reckon 0 = .ok (.iconst 0, 1) := by decide +kernel
theorem d_Law_reckon_1 : decode cX2_reckon 1 = .ok (.istore_n 3, 1) := by decide +kernel
theorem d_Law_reckon_2 : decode cX2_reckon 2 = .ok (.iconst 0, 1) := by decide +kernel
theorem d_Law_reckon_3 : decode cX2_reckon 3 = .ok (.iload_n 1, 1) := by decide +kernel
theorem d_Law_reckon_4 : decode cX2_reckon 4 = .ok (.invokestatic 75, 3) := by decide +kernel
theorem d_Law_reckon_7 : decode cX2_reckon 7 = .ok (.istore 4, 2) := by decide +kernel
theorem d_Law_reckon_9 : decode cX2_reckon 9 = .ok (.iload 4, 2) := by decide +kernel
theorem d_Law_reckon_11 : decode cX2_reckon 11 = .ok (.iload_n 2, 1) := by decide +kernel
theorem d_Law_reckon_12 : decode cX2_reckon 12 = .ok (.if_icmp .ge 141, 3) := by decide +kernel
theorem d_Law_reckon_15 : decode cX2_reckon 15 = .ok (.iload 4, 2) := by decide +kernel
theorem d_Law_reckon_17 : decode cX2_reckon 17 = .ok (.aload_n 0, 1) := by decide +kernel
theorem d_Law_reckon_18 : decode cX2_reckon 18 = .ok (.getfield 24, 3) := by decide +kernel
theorem d_Law_reckon_21 : decode cX2_reckon 21 = .ok (.if_icmp .ge 132, 3) := by decide +kernel
theorem d_Law_reckon_24 : decode cX2_reckon 24 = .ok (.aload_n 0, 1) := by decide +kernel
theorem d_Law_reckon_25 : decode cX2_reckon 25 = .ok (.getfield 20, 3) := by decide +kernel
theorem d_Law_reckon_28 : decode cX2_reckon 28 = .ok (.iload 4, 2) := by decide +kernel
theorem d_Law_reckon_30 : decode cX2_reckon 30 = .ok (.iaload, 1) := by decide +kernel
theorem d_Law_reckon_31 : decode cX2_reckon 31 = .ok (.istore 5, 2) := by decide +kernel
theorem d_Law_reckon_33 : decode cX2_reckon 33 = .ok (.iload 5, 2) := by decide +kernel
theorem d_Law_reckon_35 : decode cX2_reckon 35 = .ok (.bipush (-10), 2) := by decide +kernel
theorem d_Law_reckon_37 : decode cX2_reckon 37 = .ok (.if_icmp .lt 43, 3) := by decide +kernel
theorem d_Law_reckon_40 : decode cX2_reckon 40 = .ok (.iload_n 3, 1) := by decide +kernel
theorem d_Law_reckon_41 : decode cX2_reckon 41 = .ok (.aload_n 0, 1) := by decide +kernel
theorem d_Law_reckon_42 : decode cX2_reckon 42 = .ok (.getfield 31, 3) := by decide +kernel
theorem d_Law_reckon_45 : decode cX2_reckon 45 = .ok (.arraylength, 1) := by decide +kernel
theorem d_Law_reckon_46 : decode cX2_reckon 46 = .ok (.if_icmp .ge 101, 3) := by decide +kernel
theorem d_Law_reckon_49 : decode cX2_reckon 49 = .ok (.aload_n 0, 1) := by decide +kernel
theorem d_Law_reckon_50 : decode cX2_reckon 50 = .ok (.getfield 31, 3) := by decide +kernel
theorem d_Law_reckon_53 : decode cX2_reckon 53 = .ok (.iload_n 3, 1) := by decide +kernel
theorem d_Law_reckon_54 : decode cX2_reckon 54 = .ok (.iload 5, 2) := by decide +kernel
theorem d_Law_reckon_56 : decode cX2_reckon 56 = .ok (.ifCond .lt 8, 3) := by decide +kernel
theorem d_Law_reckon_59 : decode cX2_reckon 59 = .ok (.iload 5, 2) := by decide +kernel
theorem d_Law_reckon_61 : decode cX2_reckon 61 = .ok (.goto 12, 3) := by decide +kernel
theorem d_Law_reckon_64 : decode cX2_reckon 64 = .ok (.aload_n 0, 1) := by decide +kernel
theorem d_Law_reckon_65 : decode cX2_reckon 65 = .ok (.getfield 28, 3) := by decide +kernel
theorem d_Law_reckon_68 : decode cX2_reckon 68 = .ok (.iconst (-1), 1) := by decide +kernel
theorem d_Law_reckon_69 : decode cX2_reckon 69 = .ok (.iload 5, 2) := by decide +kernel
theorem d_Law_reckon_71 : decode cX2_reckon 71 = .ok (.isub, 1) := by decide +kernel
theorem d_Law_reckon_72 : decode cX2_reckon 72 = .ok (.iaload, 1) := by decide +kernel
theorem d_Law_reckon_73 : decode cX2_reckon 73 = .ok (.iastore, 1) := by decide +kernel
theorem d_Law_reckon_74 : decode cX2_reckon 74 = .ok (.iinc 3 1, 3) := by decide +kernel
theorem d_Law_reckon_77 : decode cX2_reckon 77 = .ok (.goto 70, 3) := by decide +kernel
theorem d_Law_reckon_80 : decode cX2_reckon 80 = .ok (.iload 5, 2) := by decide +kernel
theorem d_Law_reckon_82 : decode cX2_reckon 82 = .ok (.bipush (-20), 2) := by decide +kernel
theorem d_Law_reckon_84 : decode cX2_reckon 84 = .ok (.if_icmp .ne 28, 3) := by decide +kernel
theorem d_Law_reckon_87 : decode cX2_reckon 87 = .ok (.iload_n 3, 1) := by decide +kernel
theorem d_Law_reckon_88 : decode cX2_reckon 88 = .ok (.ifCond .le 59, 3) := by decide +kernel
theorem d_Law_reckon_91 : decode cX2_reckon 91 = .ok (.aload_n 0, 1) := by decide +kernel
theorem d_Law_reckon_92 : decode cX2_reckon 92 = .ok (.getfield 31, 3) := by decide +kernel
theorem d_Law_reckon_95 : decode cX2_reckon 95 = .ok (.iload_n 3, 1) := by decide +kernel
theorem d_Law_reckon_96 : decode cX2_reckon 96 = .ok (.iconst 1, 1) := by decide +kernel
theorem d_Law_reckon_97 : decode cX2_reckon 97 = .ok (.isub, 1) := by decide +kernel
theorem d_Law_reckon_98 : decode cX2_reckon 98 = .ok (.iconst 1, 1) := by decide +kernel
theorem d_Law_reckon_99 : decode cX2_reckon 99 = .ok (.aload_n 0, 1) := by decide +kernel
theorem d_Law_reckon_100 : decode cX2_reckon 100 = .ok (.getfield 31, 3) := by decide +kernel
theorem d_Law_reckon_103 : decode cX2_reckon 103 = .ok (.iload_n 3, 1) := by decide +kernel
theorem d_Law_reckon_104 : decode cX2_reckon 104 = .ok (.iconst 1, 1) := by decide +kernel
theorem d_Law_reckon_105 : decode cX2_reckon 105 = .ok (.isub, 1) := by decide +kernel
theorem d_Law_reckon_106 : decode cX2_reckon 106 = .ok (.iaload, 1) := by decide +kernel
theorem d_Law_reckon_107 : decode cX2_reckon 107 = .ok (.isub, 1) := by decide +kernel
theorem d_Law_reckon_108 : decode cX2_reckon 108 = .ok (.iastore, 1) := by decide +kernel
theorem d_Law_reckon_109 : decode cX2_reckon 109 = .ok (.goto 38, 3) := by decide +kernel
theorem d_Law_reckon_112 : decode cX2_reckon 112 = .ok (.iload_n 3, 1) := by decide +kernel
theorem d_Law_reckon_113 : decode cX2_reckon 113 = .ok (.iconst 1, 1) := by decide +kernel
theorem d_Law_reckon_114 : decode cX2_reckon 114 = .ok (.if_icmp .le 33, 3) := by decide +kernel
theorem d_Law_reckon_117 : decode cX2_reckon 117 = .ok (.iinc 3 (-1), 3) := by decide +kernel
theorem d_Law_reckon_120 : decode cX2_reckon 120 = .ok (.aload_n 0, 1) := by decide +kernel
theorem d_Law_reckon_121 : decode cX2_reckon 121 = .ok (.getfield 31, 3) := by decide +kernel
theorem d_Law_reckon_124 : decode cX2_reckon 124 = .ok (.iload_n 3, 1) := by decide +kernel
theorem d_Law_reckon_125 : decode cX2_reckon 125 = .ok (.iconst 1, 1) := by decide +kernel
theorem d_Law_reckon_126 : decode cX2_reckon 126 = .ok (.isub, 1) := by decide +kernel
theorem d_Law_reckon_127 : decode cX2_reckon 127 = .ok (.iload 5, 2) := by decide +kernel
theorem d_Law_reckon_129 : decode cX2_reckon 129 = .ok (.aload_n 0, 1) := by decide +kernel
theorem d_Law_reckon_130 : decode cX2_reckon 130 = .ok (.getfield 31, 3) := by decide +kernel
theorem d_Law_reckon_133 : decode cX2_reckon 133 = .ok (.iload_n 3, 1) := by decide +kernel
theorem d_Law_reckon_134 : decode cX2_reckon 134 = .ok (.iconst 1, 1) := by decide +kernel
theorem d_Law_reckon_135 : decode cX2_reckon 135 = .ok (.isub, 1) := by decide +kernel
theorem d_Law_reckon_136 : decode cX2_reckon 136 = .ok (.iaload, 1) := by decide +kernel
theorem d_Law_reckon_137 : decode cX2_reckon 137 = .ok (.aload_n 0, 1) := by decide +kernel
theorem d_Law_reckon_138 : decode cX2_reckon 138 = .ok (.getfield 31, 3) := by decide +kernel
theorem d_Law_reckon_141 : decode cX2_reckon 141 = .ok (.iload_n 3, 1) := by decide +kernel
theorem d_Law_reckon_142 : decode cX2_reckon 142 = .ok (.iaload, 1) := by decide +kernel
theorem d_Law_reckon_143 : decode cX2_reckon 143 = .ok (.invokestatic 102, 3) := by decide +kernel
theorem d_Law_reckon_146 : decode cX2_reckon 146 = .ok (.iastore, 1) := by decide +kernel
theorem d_Law_reckon_147 : decode cX2_reckon 147 = .ok (.iinc 4 1, 3) := by decide +kernel
theorem d_Law_reckon_150 : decode cX2_reckon 150 = .ok (.goto (-141), 3) := by decide +kernel
theorem d_Law_reckon_153 : decode cX2_reckon 153 = .ok (.iload_n 3, 1) := by decide +kernel
theorem d_Law_reckon_154 : decode cX2_reckon 154 = .ok (.ifCond .le 14, 3) := by decide +kernel
theorem d_Law_reckon_157 : decode cX2_reckon 157 = .ok (.aload_n 0, 1) := by decide +kernel
theorem d_Law_reckon_158 : decode cX2_reckon 158 = .ok (.getfield 31, 3) := by decide +kernel
theorem d_Law_reckon_161 : decode cX2_reckon 161 = .ok (.iload_n 3, 1) := by decide +kernel
theorem d_Law_reckon_162 : decode cX2_reckon 162 = .ok (.iconst 1, 1) := by decide +kernel
theorem d_Law_reckon_163 : decode cX2_reckon 163 = .ok (.isub, 1) := by decide +kernel
theorem d_Law_reckon_164 : decode cX2_reckon 164 = .ok (.iaload, 1) := by decide +kernel
theorem d_Law_reckon_165 : decode cX2_reckon 165 = .ok (.goto 4, 3) := by decide +kernel
theorem d_Law_reckon_168 : decode cX2_reckon 168 = .ok (.iconst 0, 1) := by decide +kernel
theorem d_Law_reckon_169 : decode cX2_reckon 169 = .ok (.ireturn, 1) := by decide +kernel
theorem d_Tc_held_0 : decode cX8_held 0 = .ok (.iload_n 0, 1) := by decide +kernel
theorem d_Tc_held_1 : decode cX8_held 1 = .ok (.ifCond .ge 7, 3) := by decide +kernel
theorem d_Tc_held_4 : decode cX8_held 4 = .ok (.iconst 0, 1) := by decide +kernel
theorem d_Tc_held_5 : decode cX8_held 5 = .ok (.goto 8, 3) := by decide +kernel
theorem d_Tc_held_8 : decode cX8_held 8 = .ok (.iload_n 0, 1) := by decide +kernel
theorem d_Tc_held_9 : decode cX8_held 9 = .ok (.iload_n 1, 1) := by decide +kernel
theorem d_Tc_held_10 : decode cX8_held 10 = .ok (.invokestatic 354, 3) := by decide +kernel
theorem d_Tc_held_13 : decode cX8_held 13 = .ok (.ireturn, 1) := by decide +kernel
theorem d_Law_tells_0 : decode cX2_tells 0 = .ok (.iconst 0, 1) := by decide +kernel
theorem d_Law_tells_1 : decode cX2_tells 1 = .ok (.istore_n 2, 1) := by decide +kernel
theorem d_Law_tells_2 : decode cX2_tells 2 = .ok (.iload_n 2, 1) := by decide +kernel
theorem d_Law_tells_3 : decode cX2_tells 3 = .ok (.aload_n 0, 1) := by decide +kernel
theorem d_Law_tells_4 : decode cX2_tells 4 = .ok (.getfield 14, 3) := by decide +kernel
theorem d_Law_tells_7 : decode cX2_tells 7 = .ok (.getfield 90, 3) := by decide +kernel
theorem d_Law_tells_10 : decode cX2_tells 10 = .ok (.if_icmp .ge 90, 3) := by decide +kernel
theorem d_Law_tells_13 : decode cX2_tells 13 = .ok (.aload_n 0, 1) := by decide +kernel
theorem d_Law_tells_14 : decode cX2_tells 14 = .ok (.getfield 14, 3) := by decide +kernel
theorem d_Law_tells_17 : decode cX2_tells 17 = .ok (.iload_n 2, 1) := by decide +kernel
theorem d_Law_tells_18 : decode cX2_tells 18 = .ok (.iconst 2, 1) := by decide +kernel
theorem d_Law_tells_19 : decode cX2_tells 19 = .ok (.invokevirtual 93, 3) := by decide +kernel
theorem d_Law_tells_22 : decode cX2_tells 22 = .ok (.istore_n 3, 1) := by decide +kernel
theorem d_Law_tells_23 : decode cX2_tells 23 = .ok (.aload_n 0, 1) := by decide +kernel
theorem d_Law_tells_24 : decode cX2_tells 24 = .ok (.getfield 14, 3) := by decide +kernel
theorem d_Law_tells_27 : decode cX2_tells 27 = .ok (.iload_n 2, 1) := by decide +kernel
theorem d_Law_tells_28 : decode cX2_tells 28 = .ok (.iconst 3, 1) := by decide +kernel
theorem d_Law_tells_29 : decode cX2_tells 29 = .ok (.invokevirtual 93, 3) := by decide +kernel
theorem d_Law_tells_32 : decode cX2_tells 32 = .ok (.istore 4, 2) := by decide +kernel
theorem d_Law_tells_34 : decode cX2_tells 34 = .ok (.aload_n 0, 1) := by decide +kernel
theorem d_Law_tells_35 : decode cX2_tells 35 = .ok (.getfield 14, 3) := by decide +kernel
theorem d_Law_tells_38 : decode cX2_tells 38 = .ok (.iload_n 2, 1) := by decide +kernel
theorem d_Law_tells_39 : decode cX2_tells 39 = .ok (.iconst 0, 1) := by decide +kernel
theorem d_Law_tells_40 : decode cX2_tells 40 = .ok (.invokevirtual 93, 3) := by decide +kernel
theorem d_Law_tells_43 : decode cX2_tells 43 = .ok (.iload_n 1, 1) := by decide +kernel
theorem d_Law_tells_44 : decode cX2_tells 44 = .ok (.if_icmp .ne 50, 3) := by decide +kernel
theorem d_Law_tells_47 : decode cX2_tells 47 = .ok (.iload_n 3, 1) := by decide +kernel
theorem d_Law_tells_48 : decode cX2_tells 48 = .ok (.iload 4, 2) := by decide +kernel
theorem d_Law_tells_50 : decode cX2_tells 50 = .ok (.if_icmp .eq 13, 3) := by decide +kernel
theorem d_Law_tells_53 : decode cX2_tells 53 = .ok (.aload_n 0, 1) := by decide +kernel
theorem d_Law_tells_54 : decode cX2_tells 54 = .ok (.iload_n 3, 1) := by decide +kernel
theorem d_Law_tells_55 : decode cX2_tells 55 = .ok (.iload 4, 2) := by decide +kernel
theorem d_Law_tells_57 : decode cX2_tells 57 = .ok (.invokevirtual 96, 3) := by decide +kernel
theorem d_Law_tells_60 : decode cX2_tells 60 = .ok (.ifCond .eq 34, 3) := by decide +kernel
theorem d_Law_tells_63 : decode cX2_tells 63 = .ok (.aload_n 0, 1) := by decide +kernel
theorem d_Law_tells_64 : decode cX2_tells 64 = .ok (.aload_n 0, 1) := by decide +kernel
theorem d_Law_tells_65 : decode cX2_tells 65 = .ok (.getfield 14, 3) := by decide +kernel
theorem d_Law_tells_68 : decode cX2_tells 68 = .ok (.iload_n 2, 1) := by decide +kernel
theorem d_Law_tells_69 : decode cX2_tells 69 = .ok (.iconst 1, 1) := by decide +kernel
theorem d_Law_tells_70 : decode cX2_tells 70 = .ok (.invokevirtual 93, 3) := by decide +kernel
theorem d_Law_tells_73 : decode cX2_tells 73 = .ok (.iload_n 3, 1) := by decide +kernel
theorem d_Law_tells_74 : decode cX2_tells 74 = .ok (.invokevirtual 96, 3) := by decide +kernel
theorem d_Law_tells_77 : decode cX2_tells 77 = .ok (.iload_n 1, 1) := by decide +kernel
theorem d_Law_tells_78 : decode cX2_tells 78 = .ok (.iconst 2, 1) := by decide +kernel
theorem d_Law_tells_79 : decode cX2_tells 79 = .ok (.if_icmp .ne 9, 3) := by decide +kernel
theorem d_Law_tells_82 : decode cX2_tells 82 = .ok (.sipush 1000, 3) := by decide +kernel
theorem d_Law_tells_85 : decode cX2_tells 85 = .ok (.goto 5, 3) := by decide +kernel
theorem d_Law_tells_88 : decode cX2_tells 88 = .ok (.bipush 99, 2) := by decide +kernel
theorem d_Law_tells_90 : decode cX2_tells 90 = .ok (.invokestatic 99, 3) := by decide +kernel
theorem d_Law_tells_93 : decode cX2_tells 93 = .ok (.ireturn, 1) := by decide +kernel
theorem d_Law_tells_94 : decode cX2_tells 94 = .ok (.iinc 2 1, 3) := by decide +kernel
theorem d_Law_tells_97 : decode cX2_tells 97 = .ok (.goto (-95), 3) := by decide +kernel
theorem d_Law_tells_100 : decode cX2_tells 100 = .ok (.iload_n 1, 1) := by decide +kernel
theorem d_Law_tells_101 : decode cX2_tells 101 = .ok (.ifCond .ne 13, 3) := by decide +kernel
theorem d_Law_tells_104 : decode cX2_tells 104 = .ok (.bipush 9, 2) := by decide +kernel
theorem d_Law_tells_106 : decode cX2_tells 106 = .ok (.aload_n 0, 1) := by decide +kernel
theorem d_Law_tells_107 : decode cX2_tells 107 = .ok (.getfield 28, 3) := by decide +kernel
theorem d_Law_tells_110 : decode cX2_tells 110 = .ok (.iconst 1, 1) := by decide +kernel
theorem d_Law_tells_111 : decode cX2_tells 111 = .ok (.iaload, 1) := by decide +kernel
theorem d_Law_tells_112 : decode cX2_tells 112 = .ok (.isub, 1) := by decide +kernel
theorem d_Law_tells_113 : decode cX2_tells 113 = .ok (.ireturn, 1) := by decide +kernel
theorem d_Law_tells_114 : decode cX2_tells 114 = .ok (.iload_n 1, 1) := by decide +kernel
theorem d_Law_tells_115 : decode cX2_tells 115 = .ok (.iconst 1, 1) := by decide +kernel
theorem d_Law_tells_116 : decode cX2_tells 116 = .ok (.if_icmp .ne 14, 3) := by decide +kernel
theorem d_Law_tells_119 : decode cX2_tells 119 = .ok (.aload_n 0, 1) := by decide +kernel
theorem d_Law_tells_120 : decode cX2_tells 120 = .ok (.getfield 28, 3) := by decide +kernel
theorem d_Law_tells_123 : decode cX2_tells 123 = .ok (.iconst 0, 1) := by decide +kernel
theorem d_Law_tells_124 : decode cX2_tells 124 = .ok (.iaload, 1) := by decide +kernel
theorem d_Law_tells_125 : decode cX2_tells 125 = .ok (.iconst 1, 1) := by decide +kernel
theorem d_Law_tells_126 : decode cX2_tells 126 = .ok (.iadd, 1) := by decide +kernel
theorem d_Law_tells_127 : decode cX2_tells 127 = .ok (.goto 17, 3) := by decide +kernel
theorem d_Law_tells_130 : decode cX2_tells 130 = .ok (.sipush 500, 3) := by decide +kernel
theorem d_Law_tells_133 : decode cX2_tells 133 = .ok (.bipush 50, 2) := by decide +kernel
theorem d_Law_tells_135 : decode cX2_tells 135 = .ok (.aload_n 0, 1) := by decide +kernel
theorem d_Law_tells_136 : decode cX2_tells 136 = .ok (.getfield 28, 3) := by decide +kernel
theorem d_Law_tells_139 : decode cX2_tells 139 = .ok (.bipush 6, 2) := by decide +kernel
theorem d_Law_tells_141 : decode cX2_tells 141 = .ok (.iaload, 1) := by decide +kernel
theorem d_Law_tells_142 : decode cX2_tells 142 = .ok (.imul, 1) := by decide +kernel
theorem d_Law_tells_143 : decode cX2_tells 143 = .ok (.iadd, 1) := by decide +kernel
theorem d_Law_tells_144 : decode cX2_tells 144 = .ok (.ireturn, 1) := by decide +kernel
theorem d_Land_tells_0 : decode cX1_tells 0 = .ok (.aload_n 0, 1) := by decide +kernel
theorem d_Land_tells_1 : decode cX1_tells 1 = .ok (.getfield 25, 3) := by decide +kernel
theorem d_Land_tells_4 : decode cX1_tells 4 = .ok (.aload_n 1, 1) := by decide +kernel
theorem d_Land_tells_5 : decode cX1_tells 5 = .ok (.iload_n 3, 1) := by decide +kernel
theorem d_Land_tells_6 : decode cX1_tells 6 = .ok (.iload 4, 2) := by decide +kernel
theorem d_Land_tells_8 : decode cX1_tells 8 = .ok (.aload_n 0, 1) := by decide +kernel
theorem d_Land_tells_9 : decode cX1_tells 9 = .ok (.iload_n 3, 1) := by decide +kernel
theorem d_Land_tells_10 : decode cX1_tells 10 = .ok (.invokevirtual 82, 3) := by decide +kernel
theorem d_Land_tells_13 : decode cX1_tells 13 = .ok (.aload_n 1, 1) := by decide +kernel
theorem d_Land_tells_14 : decode cX1_tells 14 = .ok (.getfield 86, 3) := by decide +kernel
theorem d_Land_tells_17 : decode cX1_tells 17 = .ok (.iand, 1) := by decide +kernel
theorem d_Land_tells_18 : decode cX1_tells 18 = .ok (.invokestatic 89, 3) := by decide +kernel
theorem d_Land_tells_21 : decode cX1_tells 21 = .ok (.invokevirtual 94, 3) := by decide +kernel
theorem d_Land_tells_24 : decode cX1_tells 24 = .ok (.aload_n 0, 1) := by decide +kernel
theorem d_Land_tells_25 : decode cX1_tells 25 = .ok (.getfield 25, 3) := by decide +kernel
theorem d_Land_tells_28 : decode cX1_tells 28 = .ok (.iload_n 2, 1) := by decide +kernel
theorem d_Land_tells_29 : decode cX1_tells 29 = .ok (.invokevirtual 98, 3) := by decide +kernel
theorem d_Land_tells_32 : decode cX1_tells 32 = .ok (.ireturn, 1) := by decide +kernel
theorem d_Realm_draw_0 : decode cX5_draw 0 = .ok (.aload_n 0, 1) := by decide +kernel
theorem d_Realm_draw_1 : decode cX5_draw 1 = .ok (.aload_n 0, 1) := by decide +kernel
theorem d_Realm_draw_2 : decode cX5_draw 2 = .ok (.getfield 9, 3) := by decide +kernel
theorem d_Realm_draw_5 : decode cX5_draw 5 = .ok (.ldc 106, 2) := by decide +kernel
theorem d_Realm_draw_7 : decode cX5_draw 7 = .ok (.imul, 1) := by decide +kernel
theorem d_Realm_draw_8 : decode cX5_draw 8 = .ok (.ldc 107, 2) := by decide +kernel
theorem d_Realm_draw_10 : decode cX5_draw 10 = .ok (.iadd, 1) := by decide +kernel
theorem d_Realm_draw_11 : decode cX5_draw 11 = .ok (.putfield 9, 3) := by decide +kernel
theorem d_Realm_draw_14 : decode cX5_draw 14 = .ok (.iload_n 1, 1) := by decide +kernel
theorem d_Realm_draw_15 : decode cX5_draw 15 = .ok (.ifCond .le 15, 3) := by decide +kernel
theorem d_Realm_draw_18 : decode cX5_draw 18 = .ok (.aload_n 0, 1) := by decide +kernel
theorem d_Realm_draw_19 : decode cX5_draw 19 = .ok (.getfield 9, 3) := by decide +kernel
theorem d_Realm_draw_22 : decode cX5_draw 22 = .ok (.bipush 8, 2) := by decide +kernel
theorem d_Realm_draw_24 : decode cX5_draw 24 = .ok (.iushr, 1) := by decide +kernel
theorem d_Realm_draw_25 : decode cX5_draw 25 = .ok (.iload_n 1, 1) := by decide +kernel
theorem d_Realm_draw_26 : decode cX5_draw 26 = .ok (.irem, 1) := by decide +kernel
theorem d_Realm_draw_27 : decode cX5_draw 27 = .ok (.goto 4, 3) := by decide +kernel
theorem d_Realm_draw_30 : decode cX5_draw 30 = .ok (.iconst 0, 1) := by decide +kernel
theorem d_Realm_draw_31 : decode cX5_draw 31 = .ok (.ireturn, 1) := by decide +kernel
theorem d_Land_writeBook_0 : decode cX1_writeBook 0 = .ok (.aload_n 1, 1) := by decide +kernel
theorem d_Land_writeBook_1 : decode cX1_writeBook 1 = .ok (.getfield 146, 3) := by decide +kernel
theorem d_Land_writeBook_4 : decode cX1_writeBook 4 = .ok (.iconst 4, 1) := by decide +kernel
theorem d_Land_writeBook_5 : decode cX1_writeBook 5 = .ok (.imul, 1) := by decide +kernel
theorem d_Land_writeBook_6 : decode cX1_writeBook 6 = .ok (.istore 5, 2) := by decide +kernel
theorem d_Land_writeBook_8 : decode cX1_writeBook 8 = .ok (.iload 5, 2) := by decide +kernel
theorem d_Land_writeBook_10 : decode cX1_writeBook 10 = .ok (.ifCond .lt 15, 3) := by decide +kernel
theorem d_Land_writeBook_13 : decode cX1_writeBook 13 = .ok (.iload 5, 2) := by decide +kernel
theorem d_Land_writeBook_15 : decode cX1_writeBook 15 = .ok (.iconst 4, 1) := by decide +kernel
theorem d_Land_writeBook_16 : decode cX1_writeBook 16 = .ok (.iadd, 1) := by decide +kernel
theorem d_Land_writeBook_17 : decode cX1_writeBook 17 = .ok (.aload_n 0, 1) := by decide +kernel
theorem d_Land_writeBook_18 : decode cX1_writeBook 18 = .ok (.getfield 18, 3) := by decide +kernel
theorem d_Land_writeBook_21 : decode cX1_writeBook 21 = .ok (.arraylength, 1) := by decide +kernel
theorem d_Land_writeBook_22 : decode cX1_writeBook 22 = .ok (.if_icmp .le 4, 3) := by decide +kernel
theorem d_Land_writeBook_25 : decode cX1_writeBook 25 = .ok (.return_, 1) := by decide +kernel
theorem d_Land_writeBook_26 : decode cX1_writeBook 26 = .ok (.aload_n 0, 1) := by decide +kernel
theorem d_Land_writeBook_27 : decode cX1_writeBook 27 = .ok (.getfield 18, 3) := by decide +kernel
theorem d_Land_writeBook_30 : decode cX1_writeBook 30 = .ok (.iload 5, 2) := by decide +kernel
theorem d_Land_writeBook_32 : decode cX1_writeBook 32 = .ok (.aload_n 1, 1) := by decide +kernel
theorem d_Land_writeBook_33 : decode cX1_writeBook 33 = .ok (.getfield 149, 3) := by decide +kernel
theorem d_Land_writeBook_36 : decode cX1_writeBook 36 = .ok (.iastore, 1) := by decide +kernel
theorem d_Land_writeBook_37 : decode cX1_writeBook 37 = .ok (.aload_n 0, 1) := by decide +kernel
theorem d_Land_writeBook_38 : decode cX1_writeBook 38 = .ok (.getfield 18, 3) := by decide +kernel
theorem d_Land_writeBook_41 : decode cX1_writeBook 41 = .ok (.iload 5, 2) := by decide +kernel
theorem d_Land_writeBook_43 : decode cX1_writeBook 43 = .ok (.iconst 1, 1) := by decide +kernel
theorem d_Land_writeBook_44 : decode cX1_writeBook 44 = .ok (.iadd, 1) := by decide +kernel
theorem d_Land_writeBook_45 : decode cX1_writeBook 45 = .ok (.iload_n 2, 1) := by decide +kernel
theorem d_Land_writeBook_46 : decode cX1_writeBook 46 = .ok (.iastore, 1) := by decide +kernel
theorem d_Land_writeBook_47 : decode cX1_writeBook 47 = .ok (.aload_n 0, 1) := by decide +kernel
theorem d_Land_writeBook_48 : decode cX1_writeBook 48 = .ok (.getfield 18, 3) := by decide +kernel
theorem d_Land_writeBook_51 : decode cX1_writeBook 51 = .ok (.iload 5, 2) := by decide +kernel
theorem d_Land_writeBook_53 : decode cX1_writeBook 53 = .ok (.iconst 2, 1) := by decide +kernel
theorem d_Land_writeBook_54 : decode cX1_writeBook 54 = .ok (.iadd, 1) := by decide +kernel
theorem d_Land_writeBook_55 : decode cX1_writeBook 55 = .ok (.iload_n 3, 1) := by decide +kernel
theorem d_Land_writeBook_56 : decode cX1_writeBook 56 = .ok (.iastore, 1) := by decide +kernel
theorem d_Land_writeBook_57 : decode cX1_writeBook 57 = .ok (.aload_n 0, 1) := by decide +kernel
theorem d_Land_writeBook_58 : decode cX1_writeBook 58 = .ok (.getfield 18, 3) := by decide +kernel
theorem d_Land_writeBook_61 : decode cX1_writeBook 61 = .ok (.iload 5, 2) := by decide +kernel
theorem d_Land_writeBook_63 : decode cX1_writeBook 63 = .ok (.iconst 3, 1) := by decide +kernel
theorem d_Land_writeBook_64 : decode cX1_writeBook 64 = .ok (.iadd, 1) := by decide +kernel
theorem d_Land_writeBook_65 : decode cX1_writeBook 65 = .ok (.iload 4, 2) := by decide +kernel
theorem d_Land_writeBook_67 : decode cX1_writeBook 67 = .ok (.iastore, 1) := by decide +kernel
theorem d_Land_writeBook_68 : decode cX1_writeBook 68 = .ok (.aload_n 1, 1) := by decide +kernel
theorem d_Land_writeBook_69 : decode cX1_writeBook 69 = .ok (.dup, 1) := by decide +kernel
theorem d_Land_writeBook_70 : decode cX1_writeBook 70 = .ok (.getfield 146, 3) := by decide +kernel
theorem d_Land_writeBook_73 : decode cX1_writeBook 73 = .ok (.iconst 1, 1) := by decide +kernel
theorem d_Land_writeBook_74 : decode cX1_writeBook 74 = .ok (.iadd, 1) := by decide +kernel
theorem d_Land_writeBook_75 : decode cX1_writeBook 75 = .ok (.putfield 146, 3) := by decide +kernel
theorem d_Land_writeBook_78 : decode cX1_writeBook 78 = .ok (.return_, 1) := by decide +kernel
theorem d_Land_weighOne_0 : decode cX1_weighOne 0 = .ok (.aload_n 1, 1) := by decide +kernel
theorem d_Land_weighOne_1 : decode cX1_weighOne 1 = .ok (.iload_n 2, 1) := by decide +kernel
theorem d_Land_weighOne_2 : decode cX1_weighOne 2 = .ok (.invokevirtual 101, 3) := by decide +kernel
theorem d_Land_weighOne_5 : decode cX1_weighOne 5 = .ok (.ifCond .eq 11, 3) := by decide +kernel
theorem d_Land_weighOne_8 : decode cX1_weighOne 8 = .ok (.aload_n 1, 1) := by decide +kernel
theorem d_Land_weighOne_9 : decode cX1_weighOne 9 = .ok (.iload_n 3, 1) := by decide +kernel
theorem d_Land_weighOne_10 : decode cX1_weighOne 10 = .ok (.invokevirtual 105, 3) := by decide +kernel
theorem d_Land_weighOne_13 : decode cX1_weighOne 13 = .ok (.ifCond .ne 5, 3) := by decide +kernel
theorem d_Land_weighOne_16 : decode cX1_weighOne 16 = .ok (.iconst (-1), 1) := by decide +kernel
theorem d_Land_weighOne_17 : decode cX1_weighOne 17 = .ok (.ireturn, 1) := by decide +kernel
theorem d_Land_weighOne_18 : decode cX1_weighOne 18 = .ok (.aload_n 0, 1) := by decide +kernel
theorem d_Land_weighOne_19 : decode cX1_weighOne 19 = .ok (.aload_n 1, 1) := by decide +kernel
theorem d_Land_weighOne_20 : decode cX1_weighOne 20 = .ok (.iconst 2, 1) := by decide +kernel
theorem d_Land_weighOne_21 : decode cX1_weighOne 21 = .ok (.iload_n 2, 1) := by decide +kernel
theorem d_Land_weighOne_22 : decode cX1_weighOne 22 = .ok (.iload_n 3, 1) := by decide +kernel
theorem d_Land_weighOne_23 : decode cX1_weighOne 23 = .ok (.invokevirtual 108, 3) := by decide +kernel
theorem d_Land_weighOne_26 : decode cX1_weighOne 26 = .ok (.istore 5, 2) := by decide +kernel
theorem d_Land_weighOne_28 : decode cX1_weighOne 28 = .ok (.aload_n 0, 1) := by decide +kernel
theorem d_Land_weighOne_29 : decode cX1_weighOne 29 = .ok (.aload_n 1, 1) := by decide +kernel
theorem d_Land_weighOne_30 : decode cX1_weighOne 30 = .ok (.iconst 1, 1) := by decide +kernel
theorem d_Land_weighOne_31 : decode cX1_weighOne 31 = .ok (.iload_n 2, 1) := by decide +kernel
theorem d_Land_weighOne_32 : decode cX1_weighOne 32 = .ok (.iload_n 3, 1) := by decide +kernel
theorem d_Land_weighOne_33 : decode cX1_weighOne 33 = .ok (.invokevirtual 108, 3) := by decide +kernel
theorem d_Land_weighOne_36 : decode cX1_weighOne 36 = .ok (.istore 6, 2) := by decide +kernel
theorem d_Land_weighOne_38 : decode cX1_weighOne 38 = .ok (.aload_n 1, 1) := by decide +kernel
theorem d_Land_weighOne_39 : decode cX1_weighOne 39 = .ok (.getfield 111, 3) := by decide +kernel
theorem d_Land_weighOne_42 : decode cX1_weighOne 42 = .ok (.iload_n 2, 1) := by decide +kernel
theorem d_Land_weighOne_43 : decode cX1_weighOne 43 = .ok (.iaload, 1) := by decide +kernel
theorem d_Land_weighOne_44 : decode cX1_weighOne 44 = .ok (.istore 7, 2) := by decide +kernel
theorem d_Land_weighOne_46 : decode cX1_weighOne 46 = .ok (.iload 4, 2) := by decide +kernel
theorem d_Land_weighOne_48 : decode cX1_weighOne 48 = .ok (.ifCond .eq 19, 3) := by decide +kernel
theorem d_Land_weighOne_51 : decode cX1_weighOne 51 = .ok (.iload 5, 2) := by decide +kernel
theorem d_Land_weighOne_53 : decode cX1_weighOne 53 = .ok (.sipush 500, 3) := by decide +kernel
theorem d_Land_weighOne_56 : decode cX1_weighOne 56 = .ok (.if_icmp .lt 7, 3) := by decide +kernel
theorem d_Land_weighOne_59 : decode cX1_weighOne 59 = .ok (.iconst 1, 1) := by decide +kernel
theorem d_Land_weighOne_60 : decode cX1_weighOne 60 = .ok (.goto 24, 3) := by decide +kernel
theorem d_Land_weighOne_63 : decode cX1_weighOne 63 = .ok (.iconst 0, 1) := by decide +kernel
theorem d_Land_weighOne_64 : decode cX1_weighOne 64 = .ok (.goto 20, 3) := by decide +kernel
theorem d_Land_weighOne_67 : decode cX1_weighOne 67 = .ok (.aload_n 1, 1) := by decide +kernel
theorem d_Land_weighOne_68 : decode cX1_weighOne 68 = .ok (.sipush 1000, 3) := by decide +kernel
theorem d_Land_weighOne_71 : decode cX1_weighOne 71 = .ok (.invokevirtual 114, 3) := by decide +kernel
theorem d_Land_weighOne_74 : decode cX1_weighOne 74 = .ok (.iload 5, 2) := by decide +kernel
theorem d_Land_weighOne_76 : decode cX1_weighOne 76 = .ok (.if_icmp .ge 7, 3) := by decide +kernel
theorem d_Land_weighOne_79 : decode cX1_weighOne 79 = .ok (.iconst 1, 1) := by decide +kernel
theorem d_Land_weighOne_80 : decode cX1_weighOne 80 = .ok (.goto 4, 3) := by decide +kernel
theorem d_Land_weighOne_83 : decode cX1_weighOne 83 = .ok (.iconst 0, 1) := by decide +kernel
theorem d_Land_weighOne_84 : decode cX1_weighOne 84 = .ok (.istore 8, 2) := by decide +kernel
theorem d_Land_weighOne_86 : decode cX1_weighOne 86 = .ok (.iload 8, 2) := by decide +kernel
theorem d_Land_weighOne_88 : decode cX1_weighOne 88 = .ok (.ifCond .eq 11, 3) := by decide +kernel
theorem d_Land_weighOne_91 : decode cX1_weighOne 91 = .ok (.iload 6, 2) := by decide +kernel
theorem d_Land_weighOne_93 : decode cX1_weighOne 93 = .ok (.iload 7, 2) := by decide +kernel
theorem d_Land_weighOne_95 : decode cX1_weighOne 95 = .ok (.imul, 1) := by decide +kernel
theorem d_Land_weighOne_96 : decode cX1_weighOne 96 = .ok (.goto 4, 3) := by decide +kernel
theorem d_Land_weighOne_99 : decode cX1_weighOne 99 = .ok (.iconst 0, 1) := by decide +kernel
theorem d_Land_weighOne_100 : decode cX1_weighOne 100 = .ok (.istore 9, 2) := by decide +kernel
theorem d_Land_weighOne_102 : decode cX1_weighOne 102 = .ok (.iload 8, 2) := by decide +kernel
theorem d_Land_weighOne_104 : decode cX1_weighOne 104 = .ok (.ifCond .eq 17, 3) := by decide +kernel
theorem d_Land_weighOne_107 : decode cX1_weighOne 107 = .ok (.aload_n 1, 1) := by decide +kernel
theorem d_Land_weighOne_108 : decode cX1_weighOne 108 = .ok (.dup, 1) := by decide +kernel
theorem d_Land_weighOne_109 : decode cX1_weighOne 109 = .ok (.getfield 117, 3) := by decide +kernel
theorem d_Land_weighOne_112 : decode cX1_weighOne 112 = .ok (.iload 7, 2) := by decide +kernel
theorem d_Land_weighOne_114 : decode cX1_weighOne 114 = .ok (.iadd, 1) := by decide +kernel
theorem d_Land_weighOne_115 : decode cX1_weighOne 115 = .ok (.putfield 117, 3) := by decide +kernel
theorem d_Land_weighOne_118 : decode cX1_weighOne 118 = .ok (.goto 14, 3) := by decide +kernel
theorem d_Land_weighOne_121 : decode cX1_weighOne 121 = .ok (.aload_n 1, 1) := by decide +kernel
theorem d_Land_weighOne_122 : decode cX1_weighOne 122 = .ok (.dup, 1) := by decide +kernel
theorem d_Land_weighOne_123 : decode cX1_weighOne 123 = .ok (.getfield 120, 3) := by decide +kernel
theorem d_Land_weighOne_126 : decode cX1_weighOne 126 = .ok (.iload 7, 2) := by decide +kernel
theorem d_Land_weighOne_128 : decode cX1_weighOne 128 = .ok (.iadd, 1) := by decide +kernel
theorem d_Land_weighOne_129 : decode cX1_weighOne 129 = .ok (.putfield 120, 3) := by decide +kernel
theorem d_Land_weighOne_132 : decode cX1_weighOne 132 = .ok (.iload 9, 2) := by decide +kernel
theorem d_Land_weighOne_134 : decode cX1_weighOne 134 = .ok (.aload_n 1, 1) := by decide +kernel
theorem d_Land_weighOne_135 : decode cX1_weighOne 135 = .ok (.getfield 123, 3) := by decide +kernel
theorem d_Land_weighOne_138 : decode cX1_weighOne 138 = .ok (.iload_n 2, 1) := by decide +kernel
theorem d_Land_weighOne_139 : decode cX1_weighOne 139 = .ok (.iaload, 1) := by decide +kernel
theorem d_Land_weighOne_140 : decode cX1_weighOne 140 = .ok (.if_icmp .le 7, 3) := by decide +kernel
theorem d_Land_weighOne_143 : decode cX1_weighOne 143 = .ok (.iconst 1, 1) := by decide +kernel
theorem d_Land_weighOne_144 : decode cX1_weighOne 144 = .ok (.goto 4, 3) := by decide +kernel
theorem d_Land_weighOne_147 : decode cX1_weighOne 147 = .ok (.iconst 0, 1) := by decide +kernel
theorem d_Land_weighOne_148 : decode cX1_weighOne 148 = .ok (.istore 10, 2) := by decide +kernel
theorem d_Land_weighOne_150 : decode cX1_weighOne 150 = .ok (.iload 10, 2) := by decide +kernel
theorem d_Land_weighOne_152 : decode cX1_weighOne 152 = .ok (.ifCond .eq 12, 3) := by decide +kernel
theorem d_Land_weighOne_155 : decode cX1_weighOne 155 = .ok (.aload_n 1, 1) := by decide +kernel
theorem d_Land_weighOne_156 : decode cX1_weighOne 156 = .ok (.getfield 123, 3) := by decide +kernel
theorem d_Land_weighOne_159 : decode cX1_weighOne 159 = .ok (.iload_n 2, 1) := by decide +kernel
theorem d_Land_weighOne_160 : decode cX1_weighOne 160 = .ok (.iaload, 1) := by decide +kernel
theorem d_Land_weighOne_161 : decode cX1_weighOne 161 = .ok (.goto 5, 3) := by decide +kernel
theorem d_Land_weighOne_164 : decode cX1_weighOne 164 = .ok (.iload 9, 2) := by decide +kernel
theorem d_Land_weighOne_166 : decode cX1_weighOne 166 = .ok (.istore 11, 2) := by decide +kernel
theorem d_Land_weighOne_168 : decode cX1_weighOne 168 = .ok (.aload_n 1, 1) := by decide +kernel
theorem d_Land_weighOne_169 : decode cX1_weighOne 169 = .ok (.getfield 123, 3) := by decide +kernel
theorem d_Land_weighOne_172 : decode cX1_weighOne 172 = .ok (.iload_n 2, 1) := by decide +kernel
theorem d_Land_weighOne_173 : decode cX1_weighOne 173 = .ok (.dup2, 1) := by decide +kernel
theorem d_Land_weighOne_174 : decode cX1_weighOne 174 = .ok (.iaload, 1) := by decide +kernel
theorem d_Land_weighOne_175 : decode cX1_weighOne 175 = .ok (.iload 11, 2) := by decide +kernel
theorem d_Land_weighOne_177 : decode cX1_weighOne 177 = .ok (.isub, 1) := by decide +kernel
theorem d_Land_weighOne_178 : decode cX1_weighOne 178 = .ok (.iastore, 1) := by decide +kernel
theorem d_Land_weighOne_179 : decode cX1_weighOne 179 = .ok (.aload_n 1, 1) := by decide +kernel
theorem d_Land_weighOne_180 : decode cX1_weighOne 180 = .ok (.dup, 1) := by decide +kernel
theorem d_Land_weighOne_181 : decode cX1_weighOne 181 = .ok (.getfield 126, 3) := by decide +kernel
theorem d_Land_weighOne_184 : decode cX1_weighOne 184 = .ok (.iload 11, 2) := by decide +kernel
theorem d_Land_weighOne_186 : decode cX1_weighOne 186 = .ok (.iadd, 1) := by decide +kernel
theorem d_Land_weighOne_187 : decode cX1_weighOne 187 = .ok (.putfield 126, 3) := by decide +kernel
theorem d_Land_weighOne_190 : decode cX1_weighOne 190 = .ok (.iload 10, 2) := by decide +kernel
theorem d_Land_weighOne_192 : decode cX1_weighOne 192 = .ok (.ifCond .eq 18, 3) := by decide +kernel
theorem d_Land_weighOne_195 : decode cX1_weighOne 195 = .ok (.aload_n 1, 1) := by decide +kernel
theorem d_Land_weighOne_196 : decode cX1_weighOne 196 = .ok (.dup, 1) := by decide +kernel
theorem d_Land_weighOne_197 : decode cX1_weighOne 197 = .ok (.getfield 129, 3) := by decide +kernel
theorem d_Land_weighOne_200 : decode cX1_weighOne 200 = .ok (.iconst 1, 1) := by decide +kernel
theorem d_Land_weighOne_201 : decode cX1_weighOne 201 = .ok (.iload_n 2, 1) := by decide +kernel
theorem d_Land_weighOne_202 : decode cX1_weighOne 202 = .ok (.ishl, 1) := by decide +kernel
theorem d_Land_weighOne_203 : decode cX1_weighOne 203 = .ok (.ior, 1) := by decide +kernel
theorem d_Land_weighOne_204 : decode cX1_weighOne 204 = .ok (.putfield 129, 3) := by decide +kernel
theorem d_Land_weighOne_207 : decode cX1_weighOne 207 = .ok (.goto 36, 3) := by decide +kernel
theorem d_Land_weighOne_210 : decode cX1_weighOne 210 = .ok (.aload_n 1, 1) := by decide +kernel
theorem d_Land_weighOne_211 : decode cX1_weighOne 211 = .ok (.dup, 1) := by decide +kernel
theorem d_Land_weighOne_212 : decode cX1_weighOne 212 = .ok (.getfield 129, 3) := by decide +kernel
theorem d_Land_weighOne_215 : decode cX1_weighOne 215 = .ok (.iconst 1, 1) := by decide +kernel
theorem d_Land_weighOne_216 : decode cX1_weighOne 216 = .ok (.iload_n 2, 1) := by decide +kernel
theorem d_Land_weighOne_217 : decode cX1_weighOne 217 = .ok (.ishl, 1) := by decide +kernel
theorem d_Land_weighOne_218 : decode cX1_weighOne 218 = .ok (.iconst (-1), 1) := by decide +kernel
theorem d_Land_weighOne_219 : decode cX1_weighOne 219 = .ok (.ixor, 1) := by decide +kernel
theorem d_Land_weighOne_220 : decode cX1_weighOne 220 = .ok (.iand, 1) := by decide +kernel
theorem d_Land_weighOne_221 : decode cX1_weighOne 221 = .ok (.putfield 129, 3) := by decide +kernel
theorem d_Land_weighOne_224 : decode cX1_weighOne 224 = .ok (.aload_n 1, 1) := by decide +kernel
theorem d_Land_weighOne_225 : decode cX1_weighOne 225 = .ok (.dup, 1) := by decide +kernel
theorem d_Land_weighOne_226 : decode cX1_weighOne 226 = .ok (.getfield 86, 3) := by decide +kernel
theorem d_Land_weighOne_229 : decode cX1_weighOne 229 = .ok (.iconst 1, 1) := by decide +kernel
theorem d_Land_weighOne_230 : decode cX1_weighOne 230 = .ok (.iload_n 2, 1) := by decide +kernel
theorem d_Land_weighOne_231 : decode cX1_weighOne 231 = .ok (.ishl, 1) := by decide +kernel
theorem d_Land_weighOne_232 : decode cX1_weighOne 232 = .ok (.ior, 1) := by decide +kernel
theorem d_Land_weighOne_233 : decode cX1_weighOne 233 = .ok (.putfield 86, 3) := by decide +kernel
theorem d_Land_weighOne_236 : decode cX1_weighOne 236 = .ok (.aload_n 1, 1) := by decide +kernel
theorem d_Land_weighOne_237 : decode cX1_weighOne 237 = .ok (.getfield 132, 3) := by decide +kernel
theorem d_Land_weighOne_240 : decode cX1_weighOne 240 = .ok (.iload_n 2, 1) := by decide +kernel
theorem d_Land_weighOne_241 : decode cX1_weighOne 241 = .ok (.iconst (-1), 1) := by decide +kernel
theorem d_Land_weighOne_242 : decode cX1_weighOne 242 = .ok (.iastore, 1) := by decide +kernel
theorem d_Land_weighOne_243 : decode cX1_weighOne 243 = .ok (.aload_n 1, 1) := by decide +kernel
theorem d_Land_weighOne_244 : decode cX1_weighOne 244 = .ok (.getfield 111, 3) := by decide +kernel
theorem d_Land_weighOne_247 : decode cX1_weighOne 247 = .ok (.iload_n 2, 1) := by decide +kernel
theorem d_Land_weighOne_248 : decode cX1_weighOne 248 = .ok (.iconst 0, 1) := by decide +kernel
theorem d_Land_weighOne_249 : decode cX1_weighOne 249 = .ok (.iastore, 1) := by decide +kernel
theorem d_Land_weighOne_250 : decode cX1_weighOne 250 = .ok (.aload_n 1, 1) := by decide +kernel
theorem d_Land_weighOne_251 : decode cX1_weighOne 251 = .ok (.getfield 135, 3) := by decide +kernel
theorem d_Land_weighOne_254 : decode cX1_weighOne 254 = .ok (.iload_n 3, 1) := by decide +kernel
theorem d_Land_weighOne_255 : decode cX1_weighOne 255 = .ok (.bipush 9, 2) := by decide +kernel
theorem d_Land_weighOne_257 : decode cX1_weighOne 257 = .ok (.aload_n 1, 1) := by decide +kernel
theorem d_Land_weighOne_258 : decode cX1_weighOne 258 = .ok (.getfield 135, 3) := by decide +kernel
theorem d_Land_weighOne_261 : decode cX1_weighOne 261 = .ok (.iload_n 3, 1) := by decide +kernel
theorem d_Land_weighOne_262 : decode cX1_weighOne 262 = .ok (.iaload, 1) := by decide +kernel
theorem d_Land_weighOne_263 : decode cX1_weighOne 263 = .ok (.iconst 1, 1) := by decide +kernel
theorem d_Land_weighOne_264 : decode cX1_weighOne 264 = .ok (.iadd, 1) := by decide +kernel
theorem d_Land_weighOne_265 : decode cX1_weighOne 265 = .ok (.invokestatic 138, 3) := by decide +kernel
theorem d_Land_weighOne_268 : decode cX1_weighOne 268 = .ok (.iastore, 1) := by decide +kernel
theorem d_Land_weighOne_269 : decode cX1_weighOne 269 = .ok (.iload 4, 2) := by decide +kernel
theorem d_Land_weighOne_271 : decode cX1_weighOne 271 = .ok (.ifCond .ne 62, 3) := by decide +kernel
theorem d_Land_weighOne_274 : decode cX1_weighOne 274 = .ok (.iload 10, 2) := by decide +kernel
theorem d_Land_weighOne_276 : decode cX1_weighOne 276 = .ok (.ifCond .ne 17, 3) := by decide +kernel
theorem d_Land_weighOne_279 : decode cX1_weighOne 279 = .ok (.iload 9, 2) := by decide +kernel
theorem d_Land_weighOne_281 : decode cX1_weighOne 281 = .ok (.ifCond .ne 12, 3) := by decide +kernel
theorem d_Land_weighOne_284 : decode cX1_weighOne 284 = .ok (.iload 7, 2) := by decide +kernel
theorem d_Land_weighOne_286 : decode cX1_weighOne 286 = .ok (.ifCond .le 7, 3) := by decide +kernel
theorem d_Land_weighOne_289 : decode cX1_weighOne 289 = .ok (.iconst 1, 1) := by decide +kernel
theorem d_Land_weighOne_290 : decode cX1_weighOne 290 = .ok (.goto 4, 3) := by decide +kernel
theorem d_Land_weighOne_293 : decode cX1_weighOne 293 = .ok (.iconst 0, 1) := by decide +kernel
theorem d_Land_weighOne_294 : decode cX1_weighOne 294 = .ok (.istore 12, 2) := by decide +kernel
theorem d_Land_weighOne_296 : decode cX1_weighOne 296 = .ok (.aload_n 0, 1) := by decide +kernel
theorem d_Land_weighOne_297 : decode cX1_weighOne 297 = .ok (.aload_n 1, 1) := by decide +kernel
theorem d_Land_weighOne_298 : decode cX1_weighOne 298 = .ok (.iload 10, 2) := by decide +kernel
theorem d_Land_weighOne_300 : decode cX1_weighOne 300 = .ok (.ifCond .eq 7, 3) := by decide +kernel
theorem d_Land_weighOne_303 : decode cX1_weighOne 303 = .ok (.iconst 1, 1) := by decide +kernel
theorem d_Land_weighOne_304 : decode cX1_weighOne 304 = .ok (.goto 13, 3) := by decide +kernel
theorem d_Land_weighOne_307 : decode cX1_weighOne 307 = .ok (.iload 12, 2) := by decide +kernel
theorem d_Land_weighOne_309 : decode cX1_weighOne 309 = .ok (.ifCond .eq 7, 3) := by decide +kernel
theorem d_Land_weighOne_312 : decode cX1_weighOne 312 = .ok (.iconst 2, 1) := by decide +kernel
theorem d_Land_weighOne_313 : decode cX1_weighOne 313 = .ok (.goto 4, 3) := by decide +kernel
theorem d_Land_weighOne_316 : decode cX1_weighOne 316 = .ok (.iconst 0, 1) := by decide +kernel
theorem d_Land_weighOne_317 : decode cX1_weighOne 317 = .ok (.iload_n 2, 1) := by decide +kernel
theorem d_Land_weighOne_318 : decode cX1_weighOne 318 = .ok (.iload 12, 2) := by decide +kernel
theorem d_Land_weighOne_320 : decode cX1_weighOne 320 = .ok (.ifCond .eq 8, 3) := by decide +kernel
theorem d_Land_weighOne_323 : decode cX1_weighOne 323 = .ok (.iload 7, 2) := by decide +kernel
theorem d_Land_weighOne_325 : decode cX1_weighOne 325 = .ok (.goto 5, 3) := by decide +kernel
theorem d_Land_weighOne_328 : decode cX1_weighOne 328 = .ok (.iload 11, 2) := by decide +kernel
theorem d_Land_weighOne_330 : decode cX1_weighOne 330 = .ok (.invokevirtual 143, 3) := by decide +kernel
theorem d_Land_weighOne_333 : decode cX1_weighOne 333 = .ok (.iload 11, 2) := by decide +kernel
theorem d_Land_weighOne_335 : decode cX1_weighOne 335 = .ok (.ireturn, 1) := by decide +kernel
theorem d_Tc_weigh_0 : decode cX8_weigh 0 = .ok (.aload_n 0, 1) := by decide +kernel
theorem d_Tc_weigh_1 : decode cX8_weigh 1 = .ok (.getfield 10, 3) := by decide +kernel
theorem d_Tc_weigh_4 : decode cX8_weigh 4 = .ok (.getfield 47, 3) := by decide +kernel
theorem d_Tc_weigh_7 : decode cX8_weigh 7 = .ok (.iload_n 1, 1) := by decide +kernel
theorem d_Tc_weigh_8 : decode cX8_weigh 8 = .ok (.invokevirtual 86, 3) := by decide +kernel
theorem d_Tc_weigh_11 : decode cX8_weigh 11 = .ok (.ifCond .eq 17, 3) := by decide +kernel
theorem d_Tc_weigh_14 : decode cX8_weigh 14 = .ok (.aload_n 0, 1) := by decide +kernel
theorem d_Tc_weigh_15 : decode cX8_weigh 15 = .ok (.getfield 10, 3) := by decide +kernel
theorem d_Tc_weigh_18 : decode cX8_weigh 18 = .ok (.getfield 47, 3) := by decide +kernel
theorem d_Tc_weigh_21 : decode cX8_weigh 21 = .ok (.iload_n 2, 1) := by decide +kernel
theorem d_Tc_weigh_22 : decode cX8_weigh 22 = .ok (.invokevirtual 90, 3) := by decide +kernel
theorem d_Tc_weigh_25 : decode cX8_weigh 25 = .ok (.ifCond .ne 5, 3) := by decide +kernel
theorem d_Tc_weigh_28 : decode cX8_weigh 28 = .ok (.iconst (-1), 1) := by decide +kernel
theorem d_Tc_weigh_29 : decode cX8_weigh 29 = .ok (.ireturn, 1) := by decide +kernel
theorem d_Tc_weigh_30 : decode cX8_weigh 30 = .ok (.aload_n 0, 1) := by decide +kernel
theorem d_Tc_weigh_31 : decode cX8_weigh 31 = .ok (.getfield 19, 3) := by decide +kernel
theorem d_Tc_weigh_34 : decode cX8_weigh 34 = .ok (.aload_n 0, 1) := by decide +kernel
theorem d_Tc_weigh_35 : decode cX8_weigh 35 = .ok (.getfield 10, 3) := by decide +kernel
theorem d_Tc_weigh_38 : decode cX8_weigh 38 = .ok (.getfield 47, 3) := by decide +kernel
theorem d_Tc_weigh_41 : decode cX8_weigh 41 = .ok (.invokevirtual 78, 3) := by decide +kernel
theorem d_Tc_weigh_44 : decode cX8_weigh 44 = .ok (.aload_n 0, 1) := by decide +kernel
theorem d_Tc_weigh_45 : decode cX8_weigh 45 = .ok (.getfield 10, 3) := by decide +kernel
theorem d_Tc_weigh_48 : decode cX8_weigh 48 = .ok (.aload_n 0, 1) := by decide +kernel
theorem d_Tc_weigh_49 : decode cX8_weigh 49 = .ok (.getfield 10, 3) := by decide +kernel
theorem d_Tc_weigh_52 : decode cX8_weigh 52 = .ok (.getfield 47, 3) := by decide +kernel
theorem d_Tc_weigh_55 : decode cX8_weigh 55 = .ok (.iload_n 1, 1) := by decide +kernel
theorem d_Tc_weigh_56 : decode cX8_weigh 56 = .ok (.iload_n 2, 1) := by decide +kernel
theorem d_Tc_weigh_57 : decode cX8_weigh 57 = .ok (.iconst 0, 1) := by decide +kernel
theorem d_Tc_weigh_58 : decode cX8_weigh 58 = .ok (.invokevirtual 93, 3) := by decide +kernel
theorem d_Tc_weigh_61 : decode cX8_weigh 61 = .ok (.ireturn, 1) := by decide +kernel
theorem d_Realm_firstAt_0 : decode cX5_firstAt 0 = .ok (.iconst 0, 1) := by decide +kernel
theorem d_Realm_firstAt_1 : decode cX5_firstAt 1 = .ok (.istore_n 3, 1) := by decide +kernel
theorem d_Realm_firstAt_2 : decode cX5_firstAt 2 = .ok (.iload_n 3, 1) := by decide +kernel
theorem d_Realm_firstAt_3 : decode cX5_firstAt 3 = .ok (.aload_n 0, 1) := by decide +kernel
theorem d_Realm_firstAt_4 : decode cX5_firstAt 4 = .ok (.getfield 15, 3) := by decide +kernel
theorem d_Realm_firstAt_7 : decode cX5_firstAt 7 = .ok (.if_icmp .ge 34, 3) := by decide +kernel
theorem d_Realm_firstAt_10 : decode cX5_firstAt 10 = .ok (.aload_n 0, 1) := by decide +kernel
theorem d_Realm_firstAt_11 : decode cX5_firstAt 11 = .ok (.getfield 31, 3) := by decide +kernel
theorem d_Realm_firstAt_14 : decode cX5_firstAt 14 = .ok (.iload_n 3, 1) := by decide +kernel
theorem d_Realm_firstAt_15 : decode cX5_firstAt 15 = .ok (.iaload, 1) := by decide +kernel
theorem d_Realm_firstAt_16 : decode cX5_firstAt 16 = .ok (.iload_n 1, 1) := by decide +kernel
theorem d_Realm_firstAt_17 : decode cX5_firstAt 17 = .ok (.if_icmp .ne 18, 3) := by decide +kernel
theorem d_Realm_firstAt_20 : decode cX5_firstAt 20 = .ok (.aload_n 0, 1) := by decide +kernel
theorem d_Realm_firstAt_21 : decode cX5_firstAt 21 = .ok (.getfield 34, 3) := by decide +kernel
theorem d_Realm_firstAt_24 : decode cX5_firstAt 24 = .ok (.iload_n 2, 1) := by decide +kernel
theorem d_Realm_firstAt_25 : decode cX5_firstAt 25 = .ok (.ior, 1) := by decide +kernel
theorem d_Realm_firstAt_26 : decode cX5_firstAt 26 = .ok (.iload_n 3, 1) := by decide +kernel
theorem d_Realm_firstAt_27 : decode cX5_firstAt 27 = .ok (.ishr, 1) := by decide +kernel
theorem d_Realm_firstAt_28 : decode cX5_firstAt 28 = .ok (.iconst 1, 1) := by decide +kernel
theorem d_Realm_firstAt_29 : decode cX5_firstAt 29 = .ok (.iand, 1) := by decide +kernel
theorem d_Realm_firstAt_30 : decode cX5_firstAt 30 = .ok (.ifCond .ne 5, 3) := by decide +kernel
theorem d_Realm_firstAt_33 : decode cX5_firstAt 33 = .ok (.iload_n 3, 1) := by decide +kernel
theorem d_Realm_firstAt_34 : decode cX5_firstAt 34 = .ok (.ireturn, 1) := by decide +kernel
theorem d_Realm_firstAt_35 : decode cX5_firstAt 35 = .ok (.iinc 3 1, 3) := by decide +kernel
theorem d_Realm_firstAt_38 : decode cX5_firstAt 38 = .ok (.goto (-36), 3) := by decide +kernel
theorem d_Realm_firstAt_41 : decode cX5_firstAt 41 = .ok (.iconst (-1), 1) := by decide +kernel
theorem d_Realm_firstAt_42 : decode cX5_firstAt 42 = .ok (.ireturn, 1) := by decide +kernel
theorem d_Realm_rest_0 : decode cX5_rest 0 = .ok (.iconst 0, 1) := by decide +kernel
theorem d_Realm_rest_1 : decode cX5_rest 1 = .ok (.istore_n 2, 1) := by decide +kernel
theorem d_Realm_rest_2 : decode cX5_rest 2 = .ok (.iload_n 2, 1) := by decide +kernel
theorem d_Realm_rest_3 : decode cX5_rest 3 = .ok (.aload_n 0, 1) := by decide +kernel
theorem d_Realm_rest_4 : decode cX5_rest 4 = .ok (.getfield 40, 3) := by decide +kernel
theorem d_Realm_rest_7 : decode cX5_rest 7 = .ok (.if_icmp .ge 36, 3) := by decide +kernel
theorem d_Realm_rest_10 : decode cX5_rest 10 = .ok (.iload_n 1, 1) := by decide +kernel
theorem d_Realm_rest_11 : decode cX5_rest 11 = .ok (.iload_n 2, 1) := by decide +kernel
theorem d_Realm_rest_12 : decode cX5_rest 12 = .ok (.ishr, 1) := by decide +kernel
theorem d_Realm_rest_13 : decode cX5_rest 13 = .ok (.iconst 1, 1) := by decide +kernel
theorem d_Realm_rest_14 : decode cX5_rest 14 = .ok (.iand, 1) := by decide +kernel
theorem d_Realm_rest_15 : decode cX5_rest 15 = .ok (.ifCond .ne 22, 3) := by decide +kernel
theorem d_Realm_rest_18 : decode cX5_rest 18 = .ok (.aload_n 0, 1) := by decide +kernel
theorem d_Realm_rest_19 : decode cX5_rest 19 = .ok (.getfield 52, 3) := by decide +kernel
theorem d_Realm_rest_22 : decode cX5_rest 22 = .ok (.iload_n 2, 1) := by decide +kernel
theorem d_Realm_rest_23 : decode cX5_rest 23 = .ok (.iaload, 1) := by decide +kernel
theorem d_Realm_rest_24 : decode cX5_rest 24 = .ok (.ifCond .le 13, 3) := by decide +kernel
theorem d_Realm_rest_27 : decode cX5_rest 27 = .ok (.aload_n 0, 1) := by decide +kernel
theorem d_Realm_rest_28 : decode cX5_rest 28 = .ok (.getfield 52, 3) := by decide +kernel
theorem d_Realm_rest_31 : decode cX5_rest 31 = .ok (.iload_n 2, 1) := by decide +kernel
theorem d_Realm_rest_32 : decode cX5_rest 32 = .ok (.dup2, 1) := by decide +kernel
theorem d_Realm_rest_33 : decode cX5_rest 33 = .ok (.iaload, 1) := by decide +kernel
theorem d_Realm_rest_34 : decode cX5_rest 34 = .ok (.iconst 1, 1) := by decide +kernel
theorem d_Realm_rest_35 : decode cX5_rest 35 = .ok (.isub, 1) := by decide +kernel
theorem d_Realm_rest_36 : decode cX5_rest 36 = .ok (.iastore, 1) := by decide +kernel
theorem d_Realm_rest_37 : decode cX5_rest 37 = .ok (.iinc 2 1, 3) := by decide +kernel
theorem d_Realm_rest_40 : decode cX5_rest 40 = .ok (.goto (-38), 3) := by decide +kernel
theorem d_Realm_rest_43 : decode cX5_rest 43 = .ok (.return_, 1) := by decide +kernel
theorem d_Land_passHour_0 : decode cX1_passHour 0 = .ok (.iconst 0, 1) := by decide +kernel
theorem d_Land_passHour_1 : decode cX1_passHour 1 = .ok (.istore_n 3, 1) := by decide +kernel
theorem d_Land_passHour_2 : decode cX1_passHour 2 = .ok (.iload_n 3, 1) := by decide +kernel
theorem d_Land_passHour_3 : decode cX1_passHour 3 = .ok (.aload_n 0, 1) := by decide +kernel
theorem d_Land_passHour_4 : decode cX1_passHour 4 = .ok (.getfield 38, 3) := by decide +kernel
theorem d_Land_passHour_7 : decode cX1_passHour 7 = .ok (.getfield 74, 3) := by decide +kernel
theorem d_Land_passHour_10 : decode cX1_passHour 10 = .ok (.if_icmp .ge 56, 3) := by decide +kernel
theorem d_Land_passHour_13 : decode cX1_passHour 13 = .ok (.aload_n 0, 1) := by decide +kernel
theorem d_Land_passHour_14 : decode cX1_passHour 14 = .ok (.getfield 38, 3) := by decide +kernel
theorem d_Land_passHour_17 : decode cX1_passHour 17 = .ok (.iload_n 3, 1) := by decide +kernel
theorem d_Land_passHour_18 : decode cX1_passHour 18 = .ok (.iconst 0, 1) := by decide +kernel
theorem d_Land_passHour_19 : decode cX1_passHour 19 = .ok (.invokevirtual 78, 3) := by decide +kernel
theorem d_Land_passHour_22 : decode cX1_passHour 22 = .ok (.aload_n 1, 1) := by decide +kernel
theorem d_Land_passHour_23 : decode cX1_passHour 23 = .ok (.getfield 149, 3) := by decide +kernel
theorem d_Land_passHour_26 : decode cX1_passHour 26 = .ok (.if_icmp .ne 34, 3) := by decide +kernel
theorem d_Land_passHour_29 : decode cX1_passHour 29 = .ok (.aload_n 1, 1) := by decide +kernel
theorem d_Land_passHour_30 : decode cX1_passHour 30 = .ok (.aload_n 0, 1) := by decide +kernel
theorem d_Land_passHour_31 : decode cX1_passHour 31 = .ok (.getfield 38, 3) := by decide +kernel
theorem d_Land_passHour_34 : decode cX1_passHour 34 = .ok (.iload_n 3, 1) := by decide +kernel
theorem d_Land_passHour_35 : decode cX1_passHour 35 = .ok (.iconst 1, 1) := by decide +kernel
theorem d_Land_passHour_36 : decode cX1_passHour 36 = .ok (.invokevirtual 78, 3) := by decide +kernel
theorem d_Land_passHour_39 : decode cX1_passHour 39 = .ok (.aload_n 0, 1) := by decide +kernel
theorem d_Land_passHour_40 : decode cX1_passHour 40 = .ok (.getfield 38, 3) := by decide +kernel
theorem d_Land_passHour_43 : decode cX1_passHour 43 = .ok (.iload_n 3, 1) := by decide +kernel
theorem d_Land_passHour_44 : decode cX1_passHour 44 = .ok (.iconst 2, 1) := by decide +kernel
theorem d_Land_passHour_45 : decode cX1_passHour 45 = .ok (.invokevirtual 78, 3) := by decide +kernel
theorem d_Land_passHour_48 : decode cX1_passHour 48 = .ok (.aload_n 0, 1) := by decide +kernel
theorem d_Land_passHour_49 : decode cX1_passHour 49 = .ok (.getfield 38, 3) := by decide +kernel
theorem d_Land_passHour_52 : decode cX1_passHour 52 = .ok (.iload_n 3, 1) := by decide +kernel
theorem d_Land_passHour_53 : decode cX1_passHour 53 = .ok (.iconst 3, 1) := by decide +kernel
theorem d_Land_passHour_54 : decode cX1_passHour 54 = .ok (.invokevirtual 78, 3) := by decide +kernel
theorem d_Land_passHour_57 : decode cX1_passHour 57 = .ok (.invokevirtual 152, 3) := by decide +kernel
theorem d_Land_passHour_60 : decode cX1_passHour 60 = .ok (.iinc 3 1, 3) := by decide +kernel
theorem d_Land_passHour_63 : decode cX1_passHour 63 = .ok (.goto (-61), 3) := by decide +kernel
theorem d_Land_passHour_66 : decode cX1_passHour 66 = .ok (.iconst 0, 1) := by decide +kernel
theorem d_Land_passHour_67 : decode cX1_passHour 67 = .ok (.istore_n 3, 1) := by decide +kernel
theorem d_Land_passHour_68 : decode cX1_passHour 68 = .ok (.iconst 0, 1) := by decide +kernel
theorem d_Land_passHour_69 : decode cX1_passHour 69 = .ok (.istore 4, 2) := by decide +kernel
theorem d_Land_passHour_71 : decode cX1_passHour 71 = .ok (.iconst 0, 1) := by decide +kernel
theorem d_Land_passHour_72 : decode cX1_passHour 72 = .ok (.istore 5, 2) := by decide +kernel
theorem d_Land_passHour_74 : decode cX1_passHour 74 = .ok (.iload 5, 2) := by decide +kernel
theorem d_Land_passHour_76 : decode cX1_passHour 76 = .ok (.aload_n 1, 1) := by decide +kernel
theorem d_Land_passHour_77 : decode cX1_passHour 77 = .ok (.getfield 156, 3) := by decide +kernel
theorem d_Land_passHour_80 : decode cX1_passHour 80 = .ok (.if_icmp .ge 98, 3) := by decide +kernel
theorem d_Land_passHour_83 : decode cX1_passHour 83 = .ok (.aload_n 1, 1) := by decide +kernel
theorem d_Land_passHour_84 : decode cX1_passHour 84 = .ok (.getfield 135, 3) := by decide +kernel
theorem d_Land_passHour_87 : decode cX1_passHour 87 = .ok (.iload 5, 2) := by decide +kernel
theorem d_Land_passHour_89 : decode cX1_passHour 89 = .ok (.iaload, 1) := by decide +kernel
theorem d_Land_passHour_90 : decode cX1_passHour 90 = .ok (.bipush 9, 2) := by decide +kernel
theorem d_Land_passHour_92 : decode cX1_passHour 92 = .ok (.if_icmp .ge 21, 3) := by decide +kernel
theorem d_Land_passHour_95 : decode cX1_passHour 95 = .ok (.aload_n 1, 1) := by decide +kernel
theorem d_Land_passHour_96 : decode cX1_passHour 96 = .ok (.aload_n 1, 1) := by decide +kernel
theorem d_Land_passHour_97 : decode cX1_passHour 97 = .ok (.getfield 159, 3) := by decide +kernel
theorem d_Land_passHour_100 : decode cX1_passHour 100 = .ok (.iload 5, 2) := by decide +kernel
theorem d_Land_passHour_102 : decode cX1_passHour 102 = .ok (.iaload, 1) := by decide +kernel
theorem d_Land_passHour_103 : decode cX1_passHour 103 = .ok (.invokevirtual 162, 3) := by decide +kernel
theorem d_Land_passHour_106 : decode cX1_passHour 106 = .ok (.ifCond .eq 7, 3) := by decide +kernel
theorem d_Land_passHour_109 : decode cX1_passHour 109 = .ok (.iconst 1, 1) := by decide +kernel
theorem d_Land_passHour_110 : decode cX1_passHour 110 = .ok (.goto 4, 3) := by decide +kernel
theorem d_Land_passHour_113 : decode cX1_passHour 113 = .ok (.iconst 0, 1) := by decide +kernel
theorem d_Land_passHour_114 : decode cX1_passHour 114 = .ok (.istore 6, 2) := by decide +kernel
theorem d_Land_passHour_116 : decode cX1_passHour 116 = .ok (.iload 6, 2) := by decide +kernel
theorem d_Land_passHour_118 : decode cX1_passHour 118 = .ok (.ifCond .eq 18, 3) := by decide +kernel
theorem d_Land_passHour_121 : decode cX1_passHour 121 = .ok (.aload_n 1, 1) := by decide +kernel
theorem d_Land_passHour_122 : decode cX1_passHour 122 = .ok (.aload_n 1, 1) := by decide +kernel
theorem d_Land_passHour_123 : decode cX1_passHour 123 = .ok (.getfield 159, 3) := by decide +kernel
theorem d_Land_passHour_126 : decode cX1_passHour 126 = .ok (.iload 5, 2) := by decide +kernel
theorem d_Land_passHour_128 : decode cX1_passHour 128 = .ok (.iaload, 1) := by decide +kernel
theorem d_Land_passHour_129 : decode cX1_passHour 129 = .ok (.iload_n 3, 1) := by decide +kernel
theorem d_Land_passHour_130 : decode cX1_passHour 130 = .ok (.invokevirtual 165, 3) := by decide +kernel
theorem d_Land_passHour_133 : decode cX1_passHour 133 = .ok (.goto 4, 3) := by decide +kernel
theorem d_Land_passHour_136 : decode cX1_passHour 136 = .ok (.iconst (-1), 1) := by decide +kernel
theorem d_Land_passHour_137 : decode cX1_passHour 137 = .ok (.istore 7, 2) := by decide +kernel
theorem d_Land_passHour_139 : decode cX1_passHour 139 = .ok (.iload 7, 2) := by decide +kernel
theorem d_Land_passHour_141 : decode cX1_passHour 141 = .ok (.iconst (-1), 1) := by decide +kernel
theorem d_Land_passHour_142 : decode cX1_passHour 142 = .ok (.if_icmp .eq 30, 3) := by decide +kernel
theorem d_Land_passHour_145 : decode cX1_passHour 145 = .ok (.aload_n 0, 1) := by decide +kernel
theorem d_Land_passHour_146 : decode cX1_passHour 146 = .ok (.aload_n 1, 1) := by decide +kernel
theorem d_Land_passHour_147 : decode cX1_passHour 147 = .ok (.iload 7, 2) := by decide +kernel
theorem d_Land_passHour_149 : decode cX1_passHour 149 = .ok (.iload 5, 2) := by decide +kernel
theorem d_Land_passHour_151 : decode cX1_passHour 151 = .ok (.iload_n 2, 1) := by decide +kernel
theorem d_Land_passHour_152 : decode cX1_passHour 152 = .ok (.invokevirtual 168, 3) := by decide +kernel
theorem d_Land_passHour_155 : decode cX1_passHour 155 = .ok (.pop, 1) := by decide +kernel
theorem d_Land_passHour_156 : decode cX1_passHour 156 = .ok (.iload_n 3, 1) := by decide +kernel
theorem d_Land_passHour_157 : decode cX1_passHour 157 = .ok (.iconst 1, 1) := by decide +kernel
theorem d_Land_passHour_158 : decode cX1_passHour 158 = .ok (.iload 7, 2) := by decide +kernel
theorem d_Land_passHour_160 : decode cX1_passHour 160 = .ok (.ishl, 1) := by decide +kernel
theorem d_Land_passHour_161 : decode cX1_passHour 161 = .ok (.ior, 1) := by decide +kernel
theorem d_Land_passHour_162 : decode cX1_passHour 162 = .ok (.istore_n 3, 1) := by decide +kernel
theorem d_Land_passHour_163 : decode cX1_passHour 163 = .ok (.iload 4, 2) := by decide +kernel
theorem d_Land_passHour_165 : decode cX1_passHour 165 = .ok (.iconst 1, 1) := by decide +kernel
theorem d_Land_passHour_166 : decode cX1_passHour 166 = .ok (.iload 5, 2) := by decide +kernel
theorem d_Land_passHour_168 : decode cX1_passHour 168 = .ok (.ishl, 1) := by decide +kernel
theorem d_Land_passHour_169 : decode cX1_passHour 169 = .ok (.ior, 1) := by decide +kernel
theorem d_Land_passHour_170 : decode cX1_passHour 170 = .ok (.istore 4, 2) := by decide +kernel
theorem d_Land_passHour_172 : decode cX1_passHour 172 = .ok (.iinc 5 1, 3) := by decide +kernel
theorem d_Land_passHour_175 : decode cX1_passHour 175 = .ok (.goto (-101), 3) := by decide +kernel
theorem d_Land_passHour_178 : decode cX1_passHour 178 = .ok (.iconst 0, 1) := by decide +kernel
theorem d_Land_passHour_179 : decode cX1_passHour 179 = .ok (.istore 5, 2) := by decide +kernel
theorem d_Land_passHour_181 : decode cX1_passHour 181 = .ok (.iload 5, 2) := by decide +kernel
theorem d_Land_passHour_183 : decode cX1_passHour 183 = .ok (.aload_n 1, 1) := by decide +kernel
theorem d_Land_passHour_184 : decode cX1_passHour 184 = .ok (.getfield 172, 3) := by decide +kernel
theorem d_Land_passHour_187 : decode cX1_passHour 187 = .ok (.if_icmp .ge 47, 3) := by decide +kernel
theorem d_Land_passHour_190 : decode cX1_passHour 190 = .ok (.aload_n 1, 1) := by decide +kernel
theorem d_Land_passHour_191 : decode cX1_passHour 191 = .ok (.iload 5, 2) := by decide +kernel
theorem d_Land_passHour_193 : decode cX1_passHour 193 = .ok (.invokevirtual 101, 3) := by decide +kernel
theorem d_Land_passHour_196 : decode cX1_passHour 196 = .ok (.ifCond .eq 32, 3) := by decide +kernel
theorem d_Land_passHour_199 : decode cX1_passHour 199 = .ok (.aload_n 1, 1) := by decide +kernel
theorem d_Land_passHour_200 : decode cX1_passHour 200 = .ok (.getfield 111, 3) := by decide +kernel
theorem d_Land_passHour_203 : decode cX1_passHour 203 = .ok (.iload 5, 2) := by decide +kernel
theorem d_Land_passHour_205 : decode cX1_passHour 205 = .ok (.bipush 99, 2) := by decide +kernel
theorem d_Land_passHour_207 : decode cX1_passHour 207 = .ok (.aload_n 1, 1) := by decide +kernel
theorem d_Land_passHour_208 : decode cX1_passHour 208 = .ok (.getfield 111, 3) := by decide +kernel
theorem d_Land_passHour_211 : decode cX1_passHour 211 = .ok (.iload 5, 2) := by decide +kernel
theorem d_Land_passHour_213 : decode cX1_passHour 213 = .ok (.iaload, 1) := by decide +kernel
theorem d_Land_passHour_214 : decode cX1_passHour 214 = .ok (.aload_n 0, 1) := by decide +kernel
theorem d_Land_passHour_215 : decode cX1_passHour 215 = .ok (.aload_n 1, 1) := by decide +kernel
theorem d_Land_passHour_216 : decode cX1_passHour 216 = .ok (.iconst 0, 1) := by decide +kernel
theorem d_Land_passHour_217 : decode cX1_passHour 217 = .ok (.iload 5, 2) := by decide +kernel
theorem d_Land_passHour_219 : decode cX1_passHour 219 = .ok (.iconst (-1), 1) := by decide +kernel
theorem d_Land_passHour_220 : decode cX1_passHour 220 = .ok (.invokevirtual 108, 3) := by decide +kernel
theorem d_Land_passHour_223 : decode cX1_passHour 223 = .ok (.iadd, 1) := by decide +kernel
theorem d_Land_passHour_224 : decode cX1_passHour 224 = .ok (.invokestatic 138, 3) := by decide +kernel
theorem d_Land_passHour_227 : decode cX1_passHour 227 = .ok (.iastore, 1) := by decide +kernel
theorem d_Land_passHour_228 : decode cX1_passHour 228 = .ok (.iinc 5 1, 3) := by decide +kernel
theorem d_Land_passHour_231 : decode cX1_passHour 231 = .ok (.goto (-50), 3) := by decide +kernel
theorem d_Land_passHour_234 : decode cX1_passHour 234 = .ok (.aload_n 1, 1) := by decide +kernel
theorem d_Land_passHour_235 : decode cX1_passHour 235 = .ok (.iload 4, 2) := by decide +kernel
theorem d_Land_passHour_237 : decode cX1_passHour 237 = .ok (.invokevirtual 175, 3) := by decide +kernel
theorem d_Land_passHour_240 : decode cX1_passHour 240 = .ok (.aload_n 1, 1) := by decide +kernel
theorem d_Land_passHour_241 : decode cX1_passHour 241 = .ok (.dup, 1) := by decide +kernel
theorem d_Land_passHour_242 : decode cX1_passHour 242 = .ok (.getfield 149, 3) := by decide +kernel
theorem d_Land_passHour_245 : decode cX1_passHour 245 = .ok (.iconst 1, 1) := by decide +kernel
theorem d_Land_passHour_246 : decode cX1_passHour 246 = .ok (.iadd, 1) := by decide +kernel
theorem d_Land_passHour_247 : decode cX1_passHour 247 = .ok (.putfield 149, 3) := by decide +kernel
theorem d_Land_passHour_250 : decode cX1_passHour 250 = .ok (.return_, 1) := by decide +kernel
theorem d_Tc_hours_0 : decode cX8_hours 0 = .ok (.aload_n 0, 1) := by decide +kernel
theorem d_Tc_hours_1 : decode cX8_hours 1 = .ok (.getfield 10, 3) := by decide +kernel
theorem d_Tc_hours_4 : decode cX8_hours 4 = .ok (.getfield 47, 3) := by decide +kernel
theorem d_Tc_hours_7 : decode cX8_hours 7 = .ok (.astore_n 2, 1) := by decide +kernel
theorem d_Tc_hours_8 : decode cX8_hours 8 = .ok (.iload_n 1, 1) := by decide +kernel
theorem d_Tc_hours_9 : decode cX8_hours 9 = .ok (.iconst 1, 1) := by decide +kernel
theorem d_Tc_hours_10 : decode cX8_hours 10 = .ok (.if_icmp .lt 21, 3) := by decide +kernel
theorem d_Tc_hours_13 : decode cX8_hours 13 = .ok (.iload_n 1, 1) := by decide +kernel
theorem d_Tc_hours_14 : decode cX8_hours 14 = .ok (.bipush 60, 2) := by decide +kernel
theorem d_Tc_hours_16 : decode cX8_hours 16 = .ok (.if_icmp .gt 15, 3) := by decide +kernel
theorem d_Tc_hours_19 : decode cX8_hours 19 = .ok (.aload_n 2, 1) := by decide +kernel
theorem d_Tc_hours_20 : decode cX8_hours 20 = .ok (.getfield 97, 3) := by decide +kernel
theorem d_Tc_hours_23 : decode cX8_hours 23 = .ok (.iload_n 1, 1) := by decide +kernel
theorem d_Tc_hours_24 : decode cX8_hours 24 = .ok (.iadd, 1) := by decide +kernel
theorem d_Tc_hours_25 : decode cX8_hours 25 = .ok (.sipush 9999, 3) := by decide +kernel
theorem d_Tc_hours_28 : decode cX8_hours 28 = .ok (.if_icmp .le 5, 3) := by decide +kernel
theorem d_Tc_hours_31 : decode cX8_hours 31 = .ok (.iconst (-1), 1) := by decide +kernel
theorem d_Tc_hours_32 : decode cX8_hours 32 = .ok (.ireturn, 1) := by decide +kernel
theorem d_Tc_hours_33 : decode cX8_hours 33 = .ok (.aload_n 2, 1) := by decide +kernel
theorem d_Tc_hours_34 : decode cX8_hours 34 = .ok (.getfield 100, 3) := by decide +kernel
theorem d_Tc_hours_37 : decode cX8_hours 37 = .ok (.invokestatic 103, 3) := by decide +kernel
theorem d_Tc_hours_40 : decode cX8_hours 40 = .ok (.istore_n 3, 1) := by decide +kernel
theorem d_Tc_hours_41 : decode cX8_hours 41 = .ok (.iconst 0, 1) := by decide +kernel
theorem d_Tc_hours_42 : decode cX8_hours 42 = .ok (.istore 4, 2) := by decide +kernel
theorem d_Tc_hours_44 : decode cX8_hours 44 = .ok (.iload 4, 2) := by decide +kernel
theorem d_Tc_hours_46 : decode cX8_hours 46 = .ok (.iload_n 1, 1) := by decide +kernel
theorem d_Tc_hours_47 : decode cX8_hours 47 = .ok (.if_icmp .ge 26, 3) := by decide +kernel
theorem d_Tc_hours_50 : decode cX8_hours 50 = .ok (.aload_n 0, 1) := by decide +kernel
theorem d_Tc_hours_51 : decode cX8_hours 51 = .ok (.getfield 19, 3) := by decide +kernel
theorem d_Tc_hours_54 : decode cX8_hours 54 = .ok (.aload_n 2, 1) := by decide +kernel
theorem d_Tc_hours_55 : decode cX8_hours 55 = .ok (.invokevirtual 78, 3) := by decide +kernel
theorem d_Tc_hours_58 : decode cX8_hours 58 = .ok (.aload_n 0, 1) := by decide +kernel
theorem d_Tc_hours_59 : decode cX8_hours 59 = .ok (.getfield 10, 3) := by decide +kernel
theorem d_Tc_hours_62 : decode cX8_hours 62 = .ok (.aload_n 2, 1) := by decide +kernel
theorem d_Tc_hours_63 : decode cX8_hours 63 = .ok (.iconst 0, 1) := by decide +kernel
theorem d_Tc_hours_64 : decode cX8_hours 64 = .ok (.invokevirtual 109, 3) := by decide +kernel
theorem d_Tc_hours_67 : decode cX8_hours 67 = .ok (.iinc 4 1, 3) := by decide +kernel
theorem d_Tc_hours_70 : decode cX8_hours 70 = .ok (.goto (-26), 3) := by decide +kernel
theorem d_Tc_hours_73 : decode cX8_hours 73 = .ok (.aload_n 2, 1) := by decide +kernel
theorem d_Tc_hours_74 : decode cX8_hours 74 = .ok (.getfield 100, 3) := by decide +kernel
theorem d_Tc_hours_77 : decode cX8_hours 77 = .ok (.invokestatic 103, 3) := by decide +kernel
theorem d_Tc_hours_80 : decode cX8_hours 80 = .ok (.iload_n 3, 1) := by decide +kernel
theorem d_Tc_hours_81 : decode cX8_hours 81 = .ok (.isub, 1) := by decide +kernel
theorem d_Tc_hours_82 : decode cX8_hours 82 = .ok (.ireturn, 1) := by decide +kernel
theorem d_Reader_append_0 : decode cX4_append 0 = .ok (.bipush 24, 2) := by decide +kernel
theorem d_Reader_append_2 : decode cX4_append 2 = .ok (.istore_n 2, 1) := by decide +kernel
theorem d_Reader_append_3 : decode cX4_append 3 = .ok (.iload_n 2, 1) := by decide +kernel
theorem d_Reader_append_4 : decode cX4_append 4 = .ok (.ifCond .lt 47, 3) := by decide +kernel
theorem d_Reader_append_7 : decode cX4_append 7 = .ok (.aload_n 0, 1) := by decide +kernel
theorem d_Reader_append_8 : decode cX4_append 8 = .ok (.getfield 15, 3) := by decide +kernel
theorem d_Reader_append_11 : decode cX4_append 11 = .ok (.aload_n 0, 1) := by decide +kernel
theorem d_Reader_append_12 : decode cX4_append 12 = .ok (.getfield 11, 3) := by decide +kernel
theorem d_Reader_append_15 : decode cX4_append 15 = .ok (.arraylength, 1) := by decide +kernel
theorem d_Reader_append_16 : decode cX4_append 16 = .ok (.if_icmp .ge 29, 3) := by decide +kernel
theorem d_Reader_append_19 : decode cX4_append 19 = .ok (.aload_n 0, 1) := by decide +kernel
theorem d_Reader_append_20 : decode cX4_append 20 = .ok (.getfield 11, 3) := by decide +kernel
theorem d_Reader_append_23 : decode cX4_append 23 = .ok (.aload_n 0, 1) := by decide +kernel
theorem d_Reader_append_24 : decode cX4_append 24 = .ok (.getfield 15, 3) := by decide +kernel
theorem d_Reader_append_27 : decode cX4_append 27 = .ok (.iload_n 1, 1) := by decide +kernel
theorem d_Reader_append_28 : decode cX4_append 28 = .ok (.iload_n 2, 1) := by decide +kernel
theorem d_Reader_append_29 : decode cX4_append 29 = .ok (.ishr, 1) := by decide +kernel
theorem d_Reader_append_30 : decode cX4_append 30 = .ok (.sipush 255, 3) := by decide +kernel
theorem d_Reader_append_33 : decode cX4_append 33 = .ok (.iand, 1) := by decide +kernel
theorem d_Reader_append_34 : decode cX4_append 34 = .ok (.iastore, 1) := by decide +kernel
theorem d_Reader_append_35 : decode cX4_append 35 = .ok (.aload_n 0, 1) := by decide +kernel
theorem d_Reader_append_36 : decode cX4_append 36 = .ok (.dup, 1) := by decide +kernel
theorem d_Reader_append_37 : decode cX4_append 37 = .ok (.getfield 15, 3) := by decide +kernel
theorem d_Reader_append_40 : decode cX4_append 40 = .ok (.iconst 1, 1) := by decide +kernel
theorem d_Reader_append_41 : decode cX4_append 41 = .ok (.iadd, 1) := by decide +kernel
theorem d_Reader_append_42 : decode cX4_append 42 = .ok (.putfield 15, 3) := by decide +kernel
theorem d_Reader_append_45 : decode cX4_append 45 = .ok (.iinc 2 (-8), 3) := by decide +kernel
theorem d_Reader_append_48 : decode cX4_append 48 = .ok (.goto (-45), 3) := by decide +kernel
theorem d_Reader_append_51 : decode cX4_append 51 = .ok (.return_, 1) := by decide +kernel
theorem d_Tc_feed_0 : decode cX8_feed 0 = .ok (.aload_n 0, 1) := by decide +kernel
theorem d_Tc_feed_1 : decode cX8_feed 1 = .ok (.getfield 26, 3) := by decide +kernel
theorem d_Tc_feed_4 : decode cX8_feed 4 = .ok (.getfield 113, 3) := by decide +kernel
theorem d_Tc_feed_7 : decode cX8_feed 7 = .ok (.bipush 20, 2) := by decide +kernel
theorem d_Tc_feed_9 : decode cX8_feed 9 = .ok (.iadd, 1) := by decide +kernel
theorem d_Tc_feed_10 : decode cX8_feed 10 = .ok (.sipush 400, 3) := by decide +kernel
theorem d_Tc_feed_13 : decode cX8_feed 13 = .ok (.if_icmp .le 5, 3) := by decide +kernel
theorem d_Tc_feed_16 : decode cX8_feed 16 = .ok (.iconst (-1), 1) := by decide +kernel
theorem d_Tc_feed_17 : decode cX8_feed 17 = .ok (.ireturn, 1) := by decide +kernel
theorem d_Tc_feed_18 : decode cX8_feed 18 = .ok (.aload_n 0, 1) := by decide +kernel
theorem d_Tc_feed_19 : decode cX8_feed 19 = .ok (.getfield 26, 3) := by decide +kernel
theorem d_Tc_feed_22 : decode cX8_feed 22 = .ok (.iload_n 1, 1) := by decide +kernel
theorem d_Tc_feed_23 : decode cX8_feed 23 = .ok (.invokevirtual 116, 3) := by decide +kernel
theorem d_Tc_feed_26 : decode cX8_feed 26 = .ok (.aload_n 0, 1) := by decide +kernel
theorem d_Tc_feed_27 : decode cX8_feed 27 = .ok (.getfield 26, 3) := by decide +kernel
theorem d_Tc_feed_30 : decode cX8_feed 30 = .ok (.iload_n 2, 1) := by decide +kernel
theorem d_Tc_feed_31 : decode cX8_feed 31 = .ok (.invokevirtual 116, 3) := by decide +kernel
theorem d_Tc_feed_34 : decode cX8_feed 34 = .ok (.aload_n 0, 1) := by decide +kernel
theorem d_Tc_feed_35 : decode cX8_feed 35 = .ok (.getfield 26, 3) := by decide +kernel
theorem d_Tc_feed_38 : decode cX8_feed 38 = .ok (.iload_n 3, 1) := by decide +kernel
theorem d_Tc_feed_39 : decode cX8_feed 39 = .ok (.invokevirtual 116, 3) := by decide +kernel
theorem d_Tc_feed_42 : decode cX8_feed 42 = .ok (.aload_n 0, 1) := by decide +kernel
theorem d_Tc_feed_43 : decode cX8_feed 43 = .ok (.getfield 26, 3) := by decide +kernel
theorem d_Tc_feed_46 : decode cX8_feed 46 = .ok (.iload 4, 2) := by decide +kernel
theorem d_Tc_feed_48 : decode cX8_feed 48 = .ok (.invokevirtual 116, 3) := by decide +kernel
theorem d_Tc_feed_51 : decode cX8_feed 51 = .ok (.aload_n 0, 1) := by decide +kernel
theorem d_Tc_feed_52 : decode cX8_feed 52 = .ok (.getfield 26, 3) := by decide +kernel
theorem d_Tc_feed_55 : decode cX8_feed 55 = .ok (.iload 5, 2) := by decide +kernel
theorem d_Tc_feed_57 : decode cX8_feed 57 = .ok (.invokevirtual 116, 3) := by decide +kernel
theorem d_Tc_feed_60 : decode cX8_feed 60 = .ok (.aload_n 0, 1) := by decide +kernel
theorem d_Tc_feed_61 : decode cX8_feed 61 = .ok (.getfield 26, 3) := by decide +kernel
theorem d_Tc_feed_64 : decode cX8_feed 64 = .ok (.getfield 113, 3) := by decide +kernel
theorem d_Tc_feed_67 : decode cX8_feed 67 = .ok (.ireturn, 1) := by decide +kernel
theorem d_Tc_end_0 : decode cX8_end 0 = .ok (.iload_n 1, 1) := by decide +kernel
theorem d_Tc_end_1 : decode cX8_end 1 = .ok (.ifCond .lt 14, 3) := by decide +kernel
theorem d_Tc_end_4 : decode cX8_end 4 = .ok (.iload_n 1, 1) := by decide +kernel
theorem d_Tc_end_5 : decode cX8_end 5 = .ok (.aload_n 0, 1) := by decide +kernel
theorem d_Tc_end_6 : decode cX8_end 6 = .ok (.getfield 26, 3) := by decide +kernel
theorem d_Tc_end_9 : decode cX8_end 9 = .ok (.getfield 113, 3) := by decide +kernel
theorem d_Tc_end_12 : decode cX8_end 12 = .ok (.if_icmp .le 5, 3) := by decide +kernel
theorem d_Tc_end_15 : decode cX8_end 15 = .ok (.iconst 0, 1) := by decide +kernel
theorem d_Tc_end_16 : decode cX8_end 16 = .ok (.ireturn, 1) := by decide +kernel
theorem d_Tc_end_17 : decode cX8_end 17 = .ok (.aload_n 0, 1) := by decide +kernel
theorem d_Tc_end_18 : decode cX8_end 18 = .ok (.getfield 26, 3) := by decide +kernel
theorem d_Tc_end_21 : decode cX8_end 21 = .ok (.iload_n 1, 1) := by decide +kernel
theorem d_Tc_end_22 : decode cX8_end 22 = .ok (.putfield 113, 3) := by decide +kernel
theorem d_Tc_end_25 : decode cX8_end 25 = .ok (.iconst 1, 1) := by decide +kernel
theorem d_Tc_end_26 : decode cX8_end 26 = .ok (.ireturn, 1) := by decide +kernel
theorem d_Row_copyFrom_0 : decode cX6_copyFrom 0 = .ok (.aload_n 0, 1) := by decide +kernel
theorem d_Row_copyFrom_1 : decode cX6_copyFrom 1 = .ok (.aload_n 1, 1) := by decide +kernel
theorem d_Row_copyFrom_2 : decode cX6_copyFrom 2 = .ok (.getfield 9, 3) := by decide +kernel
theorem d_Row_copyFrom_5 : decode cX6_copyFrom 5 = .ok (.putfield 9, 3) := by decide +kernel
theorem d_Row_copyFrom_8 : decode cX6_copyFrom 8 = .ok (.aload_n 1, 1) := by decide +kernel
theorem d_Row_copyFrom_9 : decode cX6_copyFrom 9 = .ok (.getfield 18, 3) := by decide +kernel
theorem d_Row_copyFrom_12 : decode cX6_copyFrom 12 = .ok (.iconst 0, 1) := by decide +kernel
theorem d_Row_copyFrom_13 : decode cX6_copyFrom 13 = .ok (.aload_n 0, 1) := by decide +kernel
theorem d_Row_copyFrom_14 : decode cX6_copyFrom 14 = .ok (.getfield 18, 3) := by decide +kernel
theorem d_Row_copyFrom_17 : decode cX6_copyFrom 17 = .ok (.iconst 0, 1) := by decide +kernel
theorem d_Row_copyFrom_18 : decode cX6_copyFrom 18 = .ok (.aload_n 0, 1) := by decide +kernel
theorem d_Row_copyFrom_19 : decode cX6_copyFrom 19 = .ok (.getfield 18, 3) := by decide +kernel
theorem d_Row_copyFrom_22 : decode cX6_copyFrom 22 = .ok (.arraylength, 1) := by decide +kernel
theorem d_Row_copyFrom_23 : decode cX6_copyFrom 23 = .ok (.aload_n 1, 1) := by decide +kernel
theorem d_Row_copyFrom_24 : decode cX6_copyFrom 24 = .ok (.getfield 18, 3) := by decide +kernel
theorem d_Row_copyFrom_27 : decode cX6_copyFrom 27 = .ok (.arraylength, 1) := by decide +kernel
theorem d_Row_copyFrom_28 : decode cX6_copyFrom 28 = .ok (.invokestatic 22, 3) := by decide +kernel
theorem d_Row_copyFrom_31 : decode cX6_copyFrom 31 = .ok (.invokestatic 28, 3) := by decide +kernel
theorem d_Row_copyFrom_34 : decode cX6_copyFrom 34 = .ok (.return_, 1) := by decide +kernel
theorem d_Reader_isLetter_0 : decode cX4_isLetter 0 = .ok (.iload_n 0, 1) := by decide +kernel
theorem d_Reader_isLetter_1 : decode cX4_isLetter 1 = .ok (.bipush 97, 2) := by decide +kernel
theorem d_Reader_isLetter_3 : decode cX4_isLetter 3 = .ok (.if_icmp .lt 9, 3) := by decide +kernel
theorem d_Reader_isLetter_6 : decode cX4_isLetter 6 = .ok (.iload_n 0, 1) := by decide +kernel
theorem d_Reader_isLetter_7 : decode cX4_isLetter 7 = .ok (.bipush 122, 2) := by decide +kernel
theorem d_Reader_isLetter_9 : decode cX4_isLetter 9 = .ok (.if_icmp .le 15, 3) := by decide +kernel
theorem d_Reader_isLetter_12 : decode cX4_isLetter 12 = .ok (.iload_n 0, 1) := by decide +kernel
theorem d_Reader_isLetter_13 : decode cX4_isLetter 13 = .ok (.bipush 65, 2) := by decide +kernel
theorem d_Reader_isLetter_15 : decode cX4_isLetter 15 = .ok (.if_icmp .lt 13, 3) := by decide +kernel
theorem d_Reader_isLetter_18 : decode cX4_isLetter 18 = .ok (.iload_n 0, 1) := by decide +kernel
theorem d_Reader_isLetter_19 : decode cX4_isLetter 19 = .ok (.bipush 90, 2) := by decide +kernel
theorem d_Reader_isLetter_21 : decode cX4_isLetter 21 = .ok (.if_icmp .gt 7, 3) := by decide +kernel
theorem d_Reader_isLetter_24 : decode cX4_isLetter 24 = .ok (.iconst 1, 1) := by decide +kernel
theorem d_Reader_isLetter_25 : decode cX4_isLetter 25 = .ok (.goto 4, 3) := by decide +kernel
theorem d_Reader_isLetter_28 : decode cX4_isLetter 28 = .ok (.iconst 0, 1) := by decide +kernel
theorem d_Reader_isLetter_29 : decode cX4_isLetter 29 = .ok (.ireturn, 1) := by decide +kernel
theorem d_Reader_isDigit_0 : decode cX4_isDigit 0 = .ok (.iload_n 0, 1) := by decide +kernel
theorem d_Reader_isDigit_1 : decode cX4_isDigit 1 = .ok (.bipush 48, 2) := by decide +kernel
theorem d_Reader_isDigit_3 : decode cX4_isDigit 3 = .ok (.if_icmp .lt 13, 3) := by decide +kernel
theorem d_Reader_isDigit_6 : decode cX4_isDigit 6 = .ok (.iload_n 0, 1) := by decide +kernel
theorem d_Reader_isDigit_7 : decode cX4_isDigit 7 = .ok (.bipush 57, 2) := by decide +kernel
theorem d_Reader_isDigit_9 : decode cX4_isDigit 9 = .ok (.if_icmp .gt 7, 3) := by decide +kernel
theorem d_Reader_isDigit_12 : decode cX4_isDigit 12 = .ok (.iconst 1, 1) := by decide +kernel
theorem d_Reader_isDigit_13 : decode cX4_isDigit 13 = .ok (.goto 4, 3) := by decide +kernel
theorem d_Reader_isDigit_16 : decode cX4_isDigit 16 = .ok (.iconst 0, 1) := by decide +kernel
theorem d_Reader_isDigit_17 : decode cX4_isDigit 17 = .ok (.ireturn, 1) := by decide +kernel
theorem d_Str_coder_0 : decode prog_14_method_152_code 0 = .ok (.getstatic 38, 3) := by decide +kernel
theorem d_Str_coder_3 : decode prog_14_method_152_code 3 = .ok (.ifCond .eq 10, 3) := by decide +kernel
theorem d_Str_coder_6 : decode prog_14_method_152_code 6 = .ok (.aload_n 0, 1) := by decide +kernel
theorem d_Str_coder_7 : decode prog_14_method_152_code 7 = .ok (.getfield 15, 3) := by decide +kernel
theorem d_Str_coder_10 : decode prog_14_method_152_code 10 = .ok (.goto 4, 3) := by decide +kernel
theorem d_Str_coder_13 : decode prog_14_method_152_code 13 = .ok (.iconst 1, 1) := by decide +kernel
theorem d_Str_coder_14 : decode prog_14_method_152_code 14 = .ok (.ireturn, 1) := by decide +kernel
theorem d_Str_length_0 : decode prog_14_method_54_code 0 = .ok (.aload_n 0, 1) := by decide +kernel
theorem d_Str_length_1 : decode prog_14_method_54_code 1 = .ok (.getfield 9, 3) := by decide +kernel
theorem d_Str_length_4 : decode prog_14_method_54_code 4 = .ok (.arraylength, 1) := by decide +kernel
theorem d_Str_length_5 : decode prog_14_method_54_code 5 = .ok (.aload_n 0, 1) := by decide +kernel
theorem d_Str_length_6 : decode prog_14_method_54_code 6 = .ok (.invokevirtual 335, 3) := by decide +kernel
theorem d_Str_length_9 : decode prog_14_method_54_code 9 = .ok (.ishr, 1) := by decide +kernel
theorem d_Str_length_10 : decode prog_14_method_54_code 10 = .ok (.ireturn, 1) := by decide +kernel
theorem d_Str_isLatin1_0 : decode prog_14_method_154_code 0 = .ok (.getstatic 38, 3) := by decide +kernel
theorem d_Str_isLatin1_3 : decode prog_14_method_154_code 3 = .ok (.ifCond .eq 14, 3) := by decide +kernel
theorem d_Str_isLatin1_6 : decode prog_14_method_154_code 6 = .ok (.aload_n 0, 1) := by decide +kernel
theorem d_Str_isLatin1_7 : decode prog_14_method_154_code 7 = .ok (.getfield 15, 3) := by decide +kernel
theorem d_Str_isLatin1_10 : decode prog_14_method_154_code 10 = .ok (.ifCond .ne 7, 3) := by decide +kernel
theorem d_Str_isLatin1_13 : decode prog_14_method_154_code 13 = .ok (.iconst 1, 1) := by decide +kernel
theorem d_Str_isLatin1_14 : decode prog_14_method_154_code 14 = .ok (.goto 4, 3) := by decide +kernel
theorem d_Str_isLatin1_17 : decode prog_14_method_154_code 17 = .ok (.iconst 0, 1) := by decide +kernel
theorem d_Str_isLatin1_18 : decode prog_14_method_154_code 18 = .ok (.ireturn, 1) := by decide +kernel
theorem d_Lat_charAt_0 : decode prog_15_method_2_code 0 = .ok (.iload_n 1, 1) := by decide +kernel
theorem d_Lat_charAt_1 : decode prog_15_method_2_code 1 = .ok (.aload_n 0, 1) := by decide +kernel
theorem d_Lat_charAt_2 : decode prog_15_method_2_code 2 = .ok (.arraylength, 1) := by decide +kernel
theorem d_Lat_charAt_3 : decode prog_15_method_2_code 3 = .ok (.invokestatic 9, 3) := by decide +kernel
theorem d_Lat_charAt_6 : decode prog_15_method_2_code 6 = .ok (.aload_n 0, 1) := by decide +kernel
theorem d_Lat_charAt_7 : decode prog_15_method_2_code 7 = .ok (.iload_n 1, 1) := by decide +kernel
theorem d_Lat_charAt_8 : decode prog_15_method_2_code 8 = .ok (.baload, 1) := by decide +kernel
theorem d_Lat_charAt_9 : decode prog_15_method_2_code 9 = .ok (.sipush 255, 3) := by decide +kernel
theorem d_Lat_charAt_12 : decode prog_15_method_2_code 12 = .ok (.iand, 1) := by decide +kernel
theorem d_Lat_charAt_13 : decode prog_15_method_2_code 13 = .ok (.i2c, 1) := by decide +kernel
theorem d_Lat_charAt_14 : decode prog_15_method_2_code 14 = .ok (.ireturn, 1) := by decide +kernel
theorem d_Str_charAt_0 : decode prog_14_method_56_code 0 = .ok (.aload_n 0, 1) := by decide +kernel
theorem d_Str_charAt_1 : decode prog_14_method_56_code 1 = .ok (.invokevirtual 492, 3) := by decide +kernel
theorem d_Str_charAt_4 : decode prog_14_method_56_code 4 = .ok (.ifCond .eq 12, 3) := by decide +kernel
theorem d_Str_charAt_7 : decode prog_14_method_56_code 7 = .ok (.aload_n 0, 1) := by decide +kernel
theorem d_Str_charAt_8 : decode prog_14_method_56_code 8 = .ok (.getfield 9, 3) := by decide +kernel
theorem d_Str_charAt_11 : decode prog_14_method_56_code 11 = .ok (.iload_n 1, 1) := by decide +kernel
theorem d_Str_charAt_12 : decode prog_14_method_56_code 12 = .ok (.invokestatic 495, 3) := by decide +kernel
theorem d_Str_charAt_15 : decode prog_14_method_56_code 15 = .ok (.ireturn, 1) := by decide +kernel
theorem d_Str_charAt_16 : decode prog_14_method_56_code 16 = .ok (.aload_n 0, 1) := by decide +kernel
theorem d_Str_charAt_17 : decode prog_14_method_56_code 17 = .ok (.getfield 9, 3) := by decide +kernel
theorem d_Str_charAt_20 : decode prog_14_method_56_code 20 = .ok (.iload_n 1, 1) := by decide +kernel
theorem d_Str_charAt_21 : decode prog_14_method_56_code 21 = .ok (.invokestatic 498, 3) := by decide +kernel
theorem d_Reader_wordOf_0 : decode cX4_wordOf 0 = .ok (.iconst 0, 1) := by decide +kernel
theorem d_Reader_wordOf_1 : decode cX4_wordOf 1 = .ok (.istore_n 3, 1) := by decide +kernel
theorem d_Reader_wordOf_2 : decode cX4_wordOf 2 = .ok (.iload_n 1, 1) := by decide +kernel
theorem d_Reader_wordOf_3 : decode cX4_wordOf 3 = .ok (.istore 4, 2) := by decide +kernel
theorem d_Reader_wordOf_5 : decode cX4_wordOf 5 = .ok (.iconst 1, 1) := by decide +kernel
theorem d_Reader_wordOf_6 : decode cX4_wordOf 6 = .ok (.istore 5, 2) := by decide +kernel
theorem d_Reader_wordOf_8 : decode cX4_wordOf 8 = .ok (.iconst 0, 1) := by decide +kernel
theorem d_Reader_wordOf_9 : decode cX4_wordOf 9 = .ok (.istore 6, 2) := by decide +kernel
theorem d_Reader_wordOf_11 : decode cX4_wordOf 11 = .ok (.iload 6, 2) := by decide +kernel
theorem d_Reader_wordOf_13 : decode cX4_wordOf 13 = .ok (.ldc 93, 2) := by decide +kernel
theorem d_Reader_wordOf_15 : decode cX4_wordOf 15 = .ok (.invokevirtual 95, 3) := by decide +kernel
theorem d_Reader_wordOf_18 : decode cX4_wordOf 18 = .ok (.if_icmp .ge 97, 3) := by decide +kernel
theorem d_Reader_wordOf_21 : decode cX4_wordOf 21 = .ok (.ldc 93, 2) := by decide +kernel
theorem d_Reader_wordOf_23 : decode cX4_wordOf 23 = .ok (.iload 6, 2) := by decide +kernel
theorem d_Reader_wordOf_25 : decode cX4_wordOf 25 = .ok (.invokevirtual 99, 3) := by decide +kernel
theorem d_Reader_wordOf_28 : decode cX4_wordOf 28 = .ok (.istore 7, 2) := by decide +kernel
theorem d_Reader_wordOf_30 : decode cX4_wordOf 30 = .ok (.iload 7, 2) := by decide +kernel
theorem d_Reader_wordOf_32 : decode cX4_wordOf 32 = .ok (.bipush 32, 2) := by decide +kernel
theorem d_Reader_wordOf_34 : decode cX4_wordOf 34 = .ok (.if_icmp .eq 49, 3) := by decide +kernel
theorem d_Reader_wordOf_37 : decode cX4_wordOf 37 = .ok (.iload 5, 2) := by decide +kernel
theorem d_Reader_wordOf_39 : decode cX4_wordOf 39 = .ok (.ifCond .eq 35, 3) := by decide +kernel
theorem d_Reader_wordOf_42 : decode cX4_wordOf 42 = .ok (.iload 4, 2) := by decide +kernel
theorem d_Reader_wordOf_44 : decode cX4_wordOf 44 = .ok (.iload_n 2, 1) := by decide +kernel
theorem d_Reader_wordOf_45 : decode cX4_wordOf 45 = .ok (.if_icmp .ge 29, 3) := by decide +kernel
theorem d_Reader_wordOf_48 : decode cX4_wordOf 48 = .ok (.iload 4, 2) := by decide +kernel
theorem d_Reader_wordOf_50 : decode cX4_wordOf 50 = .ok (.aload_n 0, 1) := by decide +kernel
theorem d_Reader_wordOf_51 : decode cX4_wordOf 51 = .ok (.getfield 11, 3) := by decide +kernel
theorem d_Reader_wordOf_54 : decode cX4_wordOf 54 = .ok (.arraylength, 1) := by decide +kernel
theorem d_Reader_wordOf_55 : decode cX4_wordOf 55 = .ok (.if_icmp .ge 19, 3) := by decide +kernel
theorem d_Reader_wordOf_58 : decode cX4_wordOf 58 = .ok (.aload_n 0, 1) := by decide +kernel
theorem d_Reader_wordOf_59 : decode cX4_wordOf 59 = .ok (.getfield 11, 3) := by decide +kernel
theorem d_Reader_wordOf_62 : decode cX4_wordOf 62 = .ok (.iload 4, 2) := by decide +kernel
theorem d_Reader_wordOf_64 : decode cX4_wordOf 64 = .ok (.iaload, 1) := by decide +kernel
theorem d_Reader_wordOf_65 : decode cX4_wordOf 65 = .ok (.iload 7, 2) := by decide +kernel
theorem d_Reader_wordOf_67 : decode cX4_wordOf 67 = .ok (.if_icmp .ne 7, 3) := by decide +kernel
theorem d_Reader_wordOf_70 : decode cX4_wordOf 70 = .ok (.iconst 1, 1) := by decide +kernel
theorem d_Reader_wordOf_71 : decode cX4_wordOf 71 = .ok (.goto 4, 3) := by decide +kernel
theorem d_Reader_wordOf_74 : decode cX4_wordOf 74 = .ok (.iconst 0, 1) := by decide +kernel
theorem d_Reader_wordOf_75 : decode cX4_wordOf 75 = .ok (.istore 5, 2) := by decide +kernel
theorem d_Reader_wordOf_77 : decode cX4_wordOf 77 = .ok (.iinc 4 1, 3) := by decide +kernel
theorem d_Reader_wordOf_80 : decode cX4_wordOf 80 = .ok (.goto 29, 3) := by decide +kernel
theorem d_Reader_wordOf_83 : decode cX4_wordOf 83 = .ok (.iload 5, 2) := by decide +kernel
theorem d_Reader_wordOf_85 : decode cX4_wordOf 85 = .ok (.ifCond .eq 15, 3) := by decide +kernel
theorem d_Reader_wordOf_88 : decode cX4_wordOf 88 = .ok (.iload 4, 2) := by decide +kernel
theorem d_Reader_wordOf_90 : decode cX4_wordOf 90 = .ok (.iload_n 2, 1) := by decide +kernel
theorem d_Reader_wordOf_91 : decode cX4_wordOf 91 = .ok (.if_icmp .ne 9, 3) := by decide +kernel
theorem d_Reader_wordOf_94 : decode cX4_wordOf 94 = .ok (.sipush 20000, 3) := by decide +kernel
theorem d_Reader_wordOf_97 : decode cX4_wordOf 97 = .ok (.iload_n 3, 1) := by decide +kernel
theorem d_Reader_wordOf_98 : decode cX4_wordOf 98 = .ok (.iadd, 1) := by decide +kernel
theorem d_Reader_wordOf_99 : decode cX4_wordOf 99 = .ok (.ireturn, 1) := by decide +kernel
theorem d_Reader_wordOf_100 : decode cX4_wordOf 100 = .ok (.iinc 3 1, 3) := by decide +kernel
theorem d_Reader_wordOf_103 : decode cX4_wordOf 103 = .ok (.iload_n 1, 1) := by decide +kernel
theorem d_Reader_wordOf_104 : decode cX4_wordOf 104 = .ok (.istore 4, 2) := by decide +kernel
theorem d_Reader_wordOf_106 : decode cX4_wordOf 106 = .ok (.iconst 1, 1) := by decide +kernel
theorem d_Reader_wordOf_107 : decode cX4_wordOf 107 = .ok (.istore 5, 2) := by decide +kernel
theorem d_Reader_wordOf_109 : decode cX4_wordOf 109 = .ok (.iinc 6 1, 3) := by decide +kernel
theorem d_Reader_wordOf_112 : decode cX4_wordOf 112 = .ok (.goto (-101), 3) := by decide +kernel
theorem d_Reader_wordOf_115 : decode cX4_wordOf 115 = .ok (.bipush (-2), 2) := by decide +kernel
theorem d_Reader_wordOf_117 : decode cX4_wordOf 117 = .ok (.ireturn, 1) := by decide +kernel
theorem d_Reader_numberOf_0 : decode cX4_numberOf 0 = .ok (.iload_n 2, 1) := by decide +kernel
theorem d_Reader_numberOf_1 : decode cX4_numberOf 1 = .ok (.iload_n 1, 1) := by decide +kernel
theorem d_Reader_numberOf_2 : decode cX4_numberOf 2 = .ok (.isub, 1) := by decide +kernel
theorem d_Reader_numberOf_3 : decode cX4_numberOf 3 = .ok (.iconst 4, 1) := by decide +kernel
theorem d_Reader_numberOf_4 : decode cX4_numberOf 4 = .ok (.if_icmp .le 6, 3) := by decide +kernel
theorem d_Reader_numberOf_7 : decode cX4_numberOf 7 = .ok (.bipush (-2), 2) := by decide +kernel
theorem d_Reader_numberOf_9 : decode cX4_numberOf 9 = .ok (.ireturn, 1) := by decide +kernel
theorem d_Reader_numberOf_10 : decode cX4_numberOf 10 = .ok (.iconst 0, 1) := by decide +kernel
theorem d_Reader_numberOf_11 : decode cX4_numberOf 11 = .ok (.istore_n 3, 1) := by decide +kernel
theorem d_Reader_numberOf_12 : decode cX4_numberOf 12 = .ok (.iload_n 1, 1) := by decide +kernel
theorem d_Reader_numberOf_13 : decode cX4_numberOf 13 = .ok (.istore 4, 2) := by decide +kernel
theorem d_Reader_numberOf_15 : decode cX4_numberOf 15 = .ok (.iload 4, 2) := by decide +kernel
theorem d_Reader_numberOf_17 : decode cX4_numberOf 17 = .ok (.iload_n 2, 1) := by decide +kernel
theorem d_Reader_numberOf_18 : decode cX4_numberOf 18 = .ok (.if_icmp .ge 35, 3) := by decide +kernel
theorem d_Reader_numberOf_21 : decode cX4_numberOf 21 = .ok (.iload 4, 2) := by decide +kernel
theorem d_Reader_numberOf_23 : decode cX4_numberOf 23 = .ok (.aload_n 0, 1) := by decide +kernel
theorem d_Reader_numberOf_24 : decode cX4_numberOf 24 = .ok (.getfield 11, 3) := by decide +kernel
theorem d_Reader_numberOf_27 : decode cX4_numberOf 27 = .ok (.arraylength, 1) := by decide +kernel
theorem d_Reader_numberOf_28 : decode cX4_numberOf 28 = .ok (.if_icmp .ge 25, 3) := by decide +kernel
theorem d_Reader_numberOf_31 : decode cX4_numberOf 31 = .ok (.iload_n 3, 1) := by decide +kernel
theorem d_Reader_numberOf_32 : decode cX4_numberOf 32 = .ok (.bipush 10, 2) := by decide +kernel
theorem d_Reader_numberOf_34 : decode cX4_numberOf 34 = .ok (.imul, 1) := by decide +kernel
theorem d_Reader_numberOf_35 : decode cX4_numberOf 35 = .ok (.aload_n 0, 1) := by decide +kernel
theorem d_Reader_numberOf_36 : decode cX4_numberOf 36 = .ok (.getfield 11, 3) := by decide +kernel
theorem d_Reader_numberOf_39 : decode cX4_numberOf 39 = .ok (.iload 4, 2) := by decide +kernel
theorem d_Reader_numberOf_41 : decode cX4_numberOf 41 = .ok (.iaload, 1) := by decide +kernel
theorem d_Reader_numberOf_42 : decode cX4_numberOf 42 = .ok (.iadd, 1) := by decide +kernel
theorem d_Reader_numberOf_43 : decode cX4_numberOf 43 = .ok (.bipush 48, 2) := by decide +kernel
theorem d_Reader_numberOf_45 : decode cX4_numberOf 45 = .ok (.isub, 1) := by decide +kernel
theorem d_Reader_numberOf_46 : decode cX4_numberOf 46 = .ok (.istore_n 3, 1) := by decide +kernel
theorem d_Reader_numberOf_47 : decode cX4_numberOf 47 = .ok (.iinc 4 1, 3) := by decide +kernel
theorem d_Reader_numberOf_50 : decode cX4_numberOf 50 = .ok (.goto (-35), 3) := by decide +kernel
theorem d_Reader_numberOf_53 : decode cX4_numberOf 53 = .ok (.iload_n 3, 1) := by decide +kernel
theorem d_Reader_numberOf_54 : decode cX4_numberOf 54 = .ok (.ireturn, 1) := by decide +kernel
theorem d_Reader_scan_0 : decode cX4_scan 0 = .ok (.iconst 0, 1) := by decide +kernel
theorem d_Reader_scan_1 : decode cX4_scan 1 = .ok (.istore_n 1, 1) := by decide +kernel
theorem d_Reader_scan_2 : decode cX4_scan 2 = .ok (.iconst 0, 1) := by decide +kernel
theorem d_Reader_scan_3 : decode cX4_scan 3 = .ok (.istore_n 2, 1) := by decide +kernel
theorem d_Reader_scan_4 : decode cX4_scan 4 = .ok (.iload_n 2, 1) := by decide +kernel
theorem d_Reader_scan_5 : decode cX4_scan 5 = .ok (.aload_n 0, 1) := by decide +kernel
theorem d_Reader_scan_6 : decode cX4_scan 6 = .ok (.getfield 15, 3) := by decide +kernel
theorem d_Reader_scan_9 : decode cX4_scan 9 = .ok (.if_icmp .ge 154, 3) := by decide +kernel
theorem d_Reader_scan_12 : decode cX4_scan 12 = .ok (.iload_n 1, 1) := by decide +kernel
theorem d_Reader_scan_13 : decode cX4_scan 13 = .ok (.sipush 400, 3) := by decide +kernel
theorem d_Reader_scan_16 : decode cX4_scan 16 = .ok (.if_icmp .ge 147, 3) := by decide +kernel
theorem d_Reader_scan_19 : decode cX4_scan 19 = .ok (.aload_n 0, 1) := by decide +kernel
theorem d_Reader_scan_20 : decode cX4_scan 20 = .ok (.getfield 11, 3) := by decide +kernel
theorem d_Reader_scan_23 : decode cX4_scan 23 = .ok (.iload_n 2, 1) := by decide +kernel
theorem d_Reader_scan_24 : decode cX4_scan 24 = .ok (.iaload, 1) := by decide +kernel
theorem d_Reader_scan_25 : decode cX4_scan 25 = .ok (.istore_n 3, 1) := by decide +kernel
theorem d_Reader_scan_26 : decode cX4_scan 26 = .ok (.iload_n 2, 1) := by decide +kernel
theorem d_Reader_scan_27 : decode cX4_scan 27 = .ok (.iconst 1, 1) := by decide +kernel
theorem d_Reader_scan_28 : decode cX4_scan 28 = .ok (.iadd, 1) := by decide +kernel
theorem d_Reader_scan_29 : decode cX4_scan 29 = .ok (.istore 4, 2) := by decide +kernel
theorem d_Reader_scan_31 : decode cX4_scan 31 = .ok (.iload_n 3, 1) := by decide +kernel
theorem d_Reader_scan_32 : decode cX4_scan 32 = .ok (.bipush 32, 2) := by decide +kernel
theorem d_Reader_scan_34 : decode cX4_scan 34 = .ok (.if_icmp .eq 123, 3) := by decide +kernel
theorem d_Reader_scan_37 : decode cX4_scan 37 = .ok (.iload_n 3, 1) := by decide +kernel
theorem d_Reader_scan_38 : decode cX4_scan 38 = .ok (.bipush 10, 2) := by decide +kernel
theorem d_Reader_scan_40 : decode cX4_scan 40 = .ok (.if_icmp .eq 117, 3) := by decide +kernel
theorem d_Reader_scan_43 : decode cX4_scan 43 = .ok (.iload_n 3, 1) := by decide +kernel
theorem d_Reader_scan_44 : decode cX4_scan 44 = .ok (.invokestatic 80, 3) := by decide +kernel
theorem d_Reader_scan_47 : decode cX4_scan 47 = .ok (.istore 5, 2) := by decide +kernel
theorem d_Reader_scan_49 : decode cX4_scan 49 = .ok (.iload_n 3, 1) := by decide +kernel
theorem d_Reader_scan_50 : decode cX4_scan 50 = .ok (.invokestatic 83, 3) := by decide +kernel
theorem d_Reader_scan_53 : decode cX4_scan 53 = .ok (.istore 6, 2) := by decide +kernel
theorem d_Reader_scan_55 : decode cX4_scan 55 = .ok (.iload 4, 2) := by decide +kernel
theorem d_Reader_scan_57 : decode cX4_scan 57 = .ok (.aload_n 0, 1) := by decide +kernel
theorem d_Reader_scan_58 : decode cX4_scan 58 = .ok (.getfield 15, 3) := by decide +kernel
theorem d_Reader_scan_61 : decode cX4_scan 61 = .ok (.if_icmp .ge 45, 3) := by decide +kernel
theorem d_Reader_scan_64 : decode cX4_scan 64 = .ok (.iload 5, 2) := by decide +kernel
theorem d_Reader_scan_66 : decode cX4_scan 66 = .ok (.ifCond .eq 16, 3) := by decide +kernel
theorem d_Reader_scan_69 : decode cX4_scan 69 = .ok (.aload_n 0, 1) := by decide +kernel
theorem d_Reader_scan_70 : decode cX4_scan 70 = .ok (.getfield 11, 3) := by decide +kernel
theorem d_Reader_scan_73 : decode cX4_scan 73 = .ok (.iload 4, 2) := by decide +kernel
theorem d_Reader_scan_75 : decode cX4_scan 75 = .ok (.iaload, 1) := by decide +kernel
theorem d_Reader_scan_76 : decode cX4_scan 76 = .ok (.invokestatic 80, 3) := by decide +kernel
theorem d_Reader_scan_79 : decode cX4_scan 79 = .ok (.ifCond .ne 21, 3) := by decide +kernel
theorem d_Reader_scan_82 : decode cX4_scan 82 = .ok (.iload 6, 2) := by decide +kernel
theorem d_Reader_scan_84 : decode cX4_scan 84 = .ok (.ifCond .eq 22, 3) := by decide +kernel
theorem d_Reader_scan_87 : decode cX4_scan 87 = .ok (.aload_n 0, 1) := by decide +kernel
theorem d_Reader_scan_88 : decode cX4_scan 88 = .ok (.getfield 11, 3) := by decide +kernel
theorem d_Reader_scan_91 : decode cX4_scan 91 = .ok (.iload 4, 2) := by decide +kernel
theorem d_Reader_scan_93 : decode cX4_scan 93 = .ok (.iaload, 1) := by decide +kernel
theorem d_Reader_scan_94 : decode cX4_scan 94 = .ok (.invokestatic 83, 3) := by decide +kernel
theorem d_Reader_scan_97 : decode cX4_scan 97 = .ok (.ifCond .eq 9, 3) := by decide +kernel
theorem d_Reader_scan_100 : decode cX4_scan 100 = .ok (.iinc 4 1, 3) := by decide +kernel
theorem d_Reader_scan_103 : decode cX4_scan 103 = .ok (.goto (-48), 3) := by decide +kernel
theorem d_Reader_scan_106 : decode cX4_scan 106 = .ok (.aload_n 0, 1) := by decide +kernel
theorem d_Reader_scan_107 : decode cX4_scan 107 = .ok (.getfield 41, 3) := by decide +kernel
theorem d_Reader_scan_110 : decode cX4_scan 110 = .ok (.iload_n 1, 1) := by decide +kernel
theorem d_Reader_scan_111 : decode cX4_scan 111 = .ok (.iload 5, 2) := by decide +kernel
theorem d_Reader_scan_113 : decode cX4_scan 113 = .ok (.ifCond .eq 13, 3) := by decide +kernel
theorem d_Reader_scan_116 : decode cX4_scan 116 = .ok (.aload_n 0, 1) := by decide +kernel
theorem d_Reader_scan_117 : decode cX4_scan 117 = .ok (.iload_n 2, 1) := by decide +kernel
theorem d_Reader_scan_118 : decode cX4_scan 118 = .ok (.iload 4, 2) := by decide +kernel
theorem d_Reader_scan_120 : decode cX4_scan 120 = .ok (.invokevirtual 86, 3) := by decide +kernel
theorem d_Reader_scan_123 : decode cX4_scan 123 = .ok (.goto 23, 3) := by decide +kernel
theorem d_Reader_scan_126 : decode cX4_scan 126 = .ok (.iload 6, 2) := by decide +kernel
theorem d_Reader_scan_128 : decode cX4_scan 128 = .ok (.ifCond .eq 13, 3) := by decide +kernel
theorem d_Reader_scan_131 : decode cX4_scan 131 = .ok (.aload_n 0, 1) := by decide +kernel
theorem d_Reader_scan_132 : decode cX4_scan 132 = .ok (.iload_n 2, 1) := by decide +kernel
theorem d_Reader_scan_133 : decode cX4_scan 133 = .ok (.iload 4, 2) := by decide +kernel
theorem d_Reader_scan_135 : decode cX4_scan 135 = .ok (.invokevirtual 90, 3) := by decide +kernel
theorem d_Reader_scan_138 : decode cX4_scan 138 = .ok (.goto 8, 3) := by decide +kernel
theorem d_Reader_scan_141 : decode cX4_scan 141 = .ok (.sipush 10000, 3) := by decide +kernel
theorem d_Reader_scan_144 : decode cX4_scan 144 = .ok (.iload_n 3, 1) := by decide +kernel
theorem d_Reader_scan_145 : decode cX4_scan 145 = .ok (.iadd, 1) := by decide +kernel
theorem d_Reader_scan_146 : decode cX4_scan 146 = .ok (.iastore, 1) := by decide +kernel
theorem d_Reader_scan_147 : decode cX4_scan 147 = .ok (.aload_n 0, 1) := by decide +kernel
theorem d_Reader_scan_148 : decode cX4_scan 148 = .ok (.getfield 44, 3) := by decide +kernel
theorem d_Reader_scan_151 : decode cX4_scan 151 = .ok (.iload_n 1, 1) := by decide +kernel
theorem d_Reader_scan_152 : decode cX4_scan 152 = .ok (.iload_n 2, 1) := by decide +kernel
theorem d_Reader_scan_153 : decode cX4_scan 153 = .ok (.iastore, 1) := by decide +kernel
theorem d_Reader_scan_154 : decode cX4_scan 154 = .ok (.iinc 1 1, 3) := by decide +kernel
theorem d_Reader_scan_157 : decode cX4_scan 157 = .ok (.iload 4, 2) := by decide +kernel
theorem d_Reader_scan_159 : decode cX4_scan 159 = .ok (.istore_n 2, 1) := by decide +kernel
theorem d_Reader_scan_160 : decode cX4_scan 160 = .ok (.goto (-156), 3) := by decide +kernel
theorem d_Reader_scan_163 : decode cX4_scan 163 = .ok (.aload_n 0, 1) := by decide +kernel
theorem d_Reader_scan_164 : decode cX4_scan 164 = .ok (.getfield 41, 3) := by decide +kernel
theorem d_Reader_scan_167 : decode cX4_scan 167 = .ok (.iload_n 1, 1) := by decide +kernel
theorem d_Reader_scan_168 : decode cX4_scan 168 = .ok (.iconst (-1), 1) := by decide +kernel
theorem d_Reader_scan_169 : decode cX4_scan 169 = .ok (.iastore, 1) := by decide +kernel
theorem d_Reader_scan_170 : decode cX4_scan 170 = .ok (.aload_n 0, 1) := by decide +kernel
theorem d_Reader_scan_171 : decode cX4_scan 171 = .ok (.getfield 44, 3) := by decide +kernel
theorem d_Reader_scan_174 : decode cX4_scan 174 = .ok (.iload_n 1, 1) := by decide +kernel
theorem d_Reader_scan_175 : decode cX4_scan 175 = .ok (.aload_n 0, 1) := by decide +kernel
theorem d_Reader_scan_176 : decode cX4_scan 176 = .ok (.getfield 15, 3) := by decide +kernel
theorem d_Reader_scan_179 : decode cX4_scan 179 = .ok (.iastore, 1) := by decide +kernel
theorem d_Reader_scan_180 : decode cX4_scan 180 = .ok (.aload_n 0, 1) := by decide +kernel
theorem d_Reader_scan_181 : decode cX4_scan 181 = .ok (.iconst 0, 1) := by decide +kernel
theorem d_Reader_scan_182 : decode cX4_scan 182 = .ok (.putfield 47, 3) := by decide +kernel
theorem d_Reader_scan_185 : decode cX4_scan 185 = .ok (.aload_n 0, 1) := by decide +kernel
theorem d_Reader_scan_186 : decode cX4_scan 186 = .ok (.aload_n 0, 1) := by decide +kernel
theorem d_Reader_scan_187 : decode cX4_scan 187 = .ok (.getfield 41, 3) := by decide +kernel
theorem d_Reader_scan_190 : decode cX4_scan 190 = .ok (.iconst 0, 1) := by decide +kernel
theorem d_Reader_scan_191 : decode cX4_scan 191 = .ok (.iaload, 1) := by decide +kernel
theorem d_Reader_scan_192 : decode cX4_scan 192 = .ok (.putfield 50, 3) := by decide +kernel
theorem d_Reader_scan_195 : decode cX4_scan 195 = .ok (.return_, 1) := by decide +kernel
theorem d_Row_clear_0 : decode cX6_clear 0 = .ok (.aload_n 0, 1) := by decide +kernel
theorem d_Row_clear_1 : decode cX6_clear 1 = .ok (.iconst 0, 1) := by decide +kernel
theorem d_Row_clear_2 : decode cX6_clear 2 = .ok (.putfield 9, 3) := by decide +kernel
theorem d_Row_clear_5 : decode cX6_clear 5 = .ok (.iconst 0, 1) := by decide +kernel
theorem d_Row_clear_6 : decode cX6_clear 6 = .ok (.ireturn, 1) := by decide +kernel
theorem d_Law_clear_0 : decode cX2_clear 0 = .ok (.aload_n 0, 1) := by decide +kernel
theorem d_Law_clear_1 : decode cX2_clear 1 = .ok (.getfield 14, 3) := by decide +kernel
theorem d_Law_clear_4 : decode cX2_clear 4 = .ok (.invokevirtual 34, 3) := by decide +kernel
theorem d_Law_clear_7 : decode cX2_clear 7 = .ok (.pop, 1) := by decide +kernel
theorem d_Law_clear_8 : decode cX2_clear 8 = .ok (.aload_n 0, 1) := by decide +kernel
theorem d_Law_clear_9 : decode cX2_clear 9 = .ok (.iconst 0, 1) := by decide +kernel
theorem d_Law_clear_10 : decode cX2_clear 10 = .ok (.putfield 24, 3) := by decide +kernel
theorem d_Law_clear_13 : decode cX2_clear 13 = .ok (.return_, 1) := by decide +kernel
theorem d_Reader_fail_0 : decode cX4_fail 0 = .ok (.aload_n 0, 1) := by decide +kernel
theorem d_Reader_fail_1 : decode cX4_fail 1 = .ok (.iload_n 1, 1) := by decide +kernel
theorem d_Reader_fail_2 : decode cX4_fail 2 = .ok (.putfield 19, 3) := by decide +kernel
theorem d_Reader_fail_5 : decode cX4_fail 5 = .ok (.aload_n 0, 1) := by decide +kernel
theorem d_Reader_fail_6 : decode cX4_fail 6 = .ok (.aload_n 0, 1) := by decide +kernel
theorem d_Reader_fail_7 : decode cX4_fail 7 = .ok (.getfield 47, 3) := by decide +kernel
theorem d_Reader_fail_10 : decode cX4_fail 10 = .ok (.aload_n 0, 1) := by decide +kernel
theorem d_Reader_fail_11 : decode cX4_fail 11 = .ok (.getfield 44, 3) := by decide +kernel
theorem d_Reader_fail_14 : decode cX4_fail 14 = .ok (.arraylength, 1) := by decide +kernel
theorem d_Reader_fail_15 : decode cX4_fail 15 = .ok (.if_icmp .ge 15, 3) := by decide +kernel
theorem d_Reader_fail_18 : decode cX4_fail 18 = .ok (.aload_n 0, 1) := by decide +kernel
theorem d_Reader_fail_19 : decode cX4_fail 19 = .ok (.getfield 44, 3) := by decide +kernel
theorem d_Reader_fail_22 : decode cX4_fail 22 = .ok (.aload_n 0, 1) := by decide +kernel
theorem d_Reader_fail_23 : decode cX4_fail 23 = .ok (.getfield 47, 3) := by decide +kernel
theorem d_Reader_fail_26 : decode cX4_fail 26 = .ok (.iaload, 1) := by decide +kernel
theorem d_Reader_fail_27 : decode cX4_fail 27 = .ok (.goto 7, 3) := by decide +kernel
theorem d_Reader_fail_30 : decode cX4_fail 30 = .ok (.aload_n 0, 1) := by decide +kernel
theorem d_Reader_fail_31 : decode cX4_fail 31 = .ok (.getfield 15, 3) := by decide +kernel
theorem d_Reader_fail_34 : decode cX4_fail 34 = .ok (.putfield 22, 3) := by decide +kernel
theorem d_Reader_fail_37 : decode cX4_fail 37 = .ok (.iconst 0, 1) := by decide +kernel
theorem d_Reader_fail_38 : decode cX4_fail 38 = .ok (.ireturn, 1) := by decide +kernel
theorem d_Reader_advance_0 : decode cX4_advance 0 = .ok (.aload_n 0, 1) := by decide +kernel
theorem d_Reader_advance_1 : decode cX4_advance 1 = .ok (.getfield 50, 3) := by decide +kernel
theorem d_Reader_advance_4 : decode cX4_advance 4 = .ok (.iconst (-1), 1) := by decide +kernel
theorem d_Reader_advance_5 : decode cX4_advance 5 = .ok (.if_icmp .eq 40, 3) := by decide +kernel
theorem d_Reader_advance_8 : decode cX4_advance 8 = .ok (.aload_n 0, 1) := by decide +kernel
theorem d_Reader_advance_9 : decode cX4_advance 9 = .ok (.getfield 47, 3) := by decide +kernel
theorem d_Reader_advance_12 : decode cX4_advance 12 = .ok (.iconst 1, 1) := by decide +kernel
theorem d_Reader_advance_13 : decode cX4_advance 13 = .ok (.iadd, 1) := by decide +kernel
theorem d_Reader_advance_14 : decode cX4_advance 14 = .ok (.aload_n 0, 1) := by decide +kernel
theorem d_Reader_advance_15 : decode cX4_advance 15 = .ok (.getfield 41, 3) := by decide +kernel
theorem d_Reader_advance_18 : decode cX4_advance 18 = .ok (.arraylength, 1) := by decide +kernel
theorem d_Reader_advance_19 : decode cX4_advance 19 = .ok (.if_icmp .ge 26, 3) := by decide +kernel
theorem d_Reader_advance_22 : decode cX4_advance 22 = .ok (.aload_n 0, 1) := by decide +kernel
theorem d_Reader_advance_23 : decode cX4_advance 23 = .ok (.dup, 1) := by decide +kernel
theorem d_Reader_advance_24 : decode cX4_advance 24 = .ok (.getfield 47, 3) := by decide +kernel
theorem d_Reader_advance_27 : decode cX4_advance 27 = .ok (.iconst 1, 1) := by decide +kernel
theorem d_Reader_advance_28 : decode cX4_advance 28 = .ok (.iadd, 1) := by decide +kernel
theorem d_Reader_advance_29 : decode cX4_advance 29 = .ok (.putfield 47, 3) := by decide +kernel
theorem d_Reader_advance_32 : decode cX4_advance 32 = .ok (.aload_n 0, 1) := by decide +kernel
theorem d_Reader_advance_33 : decode cX4_advance 33 = .ok (.aload_n 0, 1) := by decide +kernel
theorem d_Reader_advance_34 : decode cX4_advance 34 = .ok (.getfield 41, 3) := by decide +kernel
theorem d_Reader_advance_37 : decode cX4_advance 37 = .ok (.aload_n 0, 1) := by decide +kernel
theorem d_Reader_advance_38 : decode cX4_advance 38 = .ok (.getfield 47, 3) := by decide +kernel
theorem d_Reader_advance_41 : decode cX4_advance 41 = .ok (.iaload, 1) := by decide +kernel
theorem d_Reader_advance_42 : decode cX4_advance 42 = .ok (.putfield 50, 3) := by decide +kernel
theorem d_Reader_advance_45 : decode cX4_advance 45 = .ok (.return_, 1) := by decide +kernel
theorem d_Reader_begin_0 : decode cX4_begin 0 = .ok (.aload_n 0, 1) := by decide +kernel
theorem d_Reader_begin_1 : decode cX4_begin 1 = .ok (.getfield 50, 3) := by decide +kernel
theorem d_Reader_begin_4 : decode cX4_begin 4 = .ok (.iload_n 1, 1) := by decide +kernel
theorem d_Reader_begin_5 : decode cX4_begin 5 = .ok (.if_icmp .eq 9, 3) := by decide +kernel
theorem d_Reader_begin_8 : decode cX4_begin 8 = .ok (.aload_n 0, 1) := by decide +kernel
theorem d_Reader_begin_9 : decode cX4_begin 9 = .ok (.iconst 1, 1) := by decide +kernel
theorem d_Reader_begin_10 : decode cX4_begin 10 = .ok (.invokevirtual 103, 3) := by decide +kernel
theorem d_Reader_begin_13 : decode cX4_begin 13 = .ok (.ireturn, 1) := by decide +kernel
theorem d_Reader_begin_14 : decode cX4_begin 14 = .ok (.iload_n 2, 1) := by decide +kernel
theorem d_Reader_begin_15 : decode cX4_begin 15 = .ok (.bipush 16, 2) := by decide +kernel
theorem d_Reader_begin_17 : decode cX4_begin 17 = .ok (.if_icmp .lt 9, 3) := by decide +kernel
theorem d_Reader_begin_20 : decode cX4_begin 20 = .ok (.aload_n 0, 1) := by decide +kernel
theorem d_Reader_begin_21 : decode cX4_begin 21 = .ok (.iconst 3, 1) := by decide +kernel
theorem d_Reader_begin_22 : decode cX4_begin 22 = .ok (.invokevirtual 103, 3) := by decide +kernel
theorem d_Reader_begin_25 : decode cX4_begin 25 = .ok (.ireturn, 1) := by decide +kernel
theorem d_Reader_begin_26 : decode cX4_begin 26 = .ok (.aload_n 0, 1) := by decide +kernel
theorem d_Reader_begin_27 : decode cX4_begin 27 = .ok (.invokevirtual 106, 3) := by decide +kernel
theorem d_Reader_begin_30 : decode cX4_begin 30 = .ok (.iconst 1, 1) := by decide +kernel
theorem d_Reader_begin_31 : decode cX4_begin 31 = .ok (.ireturn, 1) := by decide +kernel
theorem d_Reader_isNumber_0 : decode cX4_isNumber 0 = .ok (.aload_n 0, 1) := by decide +kernel
theorem d_Reader_isNumber_1 : decode cX4_isNumber 1 = .ok (.getfield 50, 3) := by decide +kernel
theorem d_Reader_isNumber_4 : decode cX4_isNumber 4 = .ok (.ifCond .lt 17, 3) := by decide +kernel
theorem d_Reader_isNumber_7 : decode cX4_isNumber 7 = .ok (.aload_n 0, 1) := by decide +kernel
theorem d_Reader_isNumber_8 : decode cX4_isNumber 8 = .ok (.getfield 50, 3) := by decide +kernel
theorem d_Reader_isNumber_11 : decode cX4_isNumber 11 = .ok (.sipush 9999, 3) := by decide +kernel
theorem d_Reader_isNumber_14 : decode cX4_isNumber 14 = .ok (.if_icmp .gt 7, 3) := by decide +kernel
theorem d_Reader_isNumber_17 : decode cX4_isNumber 17 = .ok (.iconst 1, 1) := by decide +kernel
theorem d_Reader_isNumber_18 : decode cX4_isNumber 18 = .ok (.goto 4, 3) := by decide +kernel
theorem d_Reader_isNumber_21 : decode cX4_isNumber 21 = .ok (.iconst 0, 1) := by decide +kernel
theorem d_Reader_isNumber_22 : decode cX4_isNumber 22 = .ok (.ireturn, 1) := by decide +kernel
theorem d_Law_write_0 : decode cX2_write 0 = .ok (.aload_n 0, 1) := by decide +kernel
theorem d_Law_write_1 : decode cX2_write 1 = .ok (.getfield 24, 3) := by decide +kernel
theorem d_Law_write_4 : decode cX2_write 4 = .ok (.aload_n 0, 1) := by decide +kernel
theorem d_Law_write_5 : decode cX2_write 5 = .ok (.getfield 20, 3) := by decide +kernel
theorem d_Law_write_8 : decode cX2_write 8 = .ok (.arraylength, 1) := by decide +kernel
theorem d_Law_write_9 : decode cX2_write 9 = .ok (.if_icmp .ge 23, 3) := by decide +kernel
theorem d_Law_write_12 : decode cX2_write 12 = .ok (.aload_n 0, 1) := by decide +kernel
theorem d_Law_write_13 : decode cX2_write 13 = .ok (.getfield 20, 3) := by decide +kernel
theorem d_Law_write_16 : decode cX2_write 16 = .ok (.aload_n 0, 1) := by decide +kernel
theorem d_Law_write_17 : decode cX2_write 17 = .ok (.getfield 24, 3) := by decide +kernel
theorem d_Law_write_20 : decode cX2_write 20 = .ok (.iload_n 1, 1) := by decide +kernel
theorem d_Law_write_21 : decode cX2_write 21 = .ok (.iastore, 1) := by decide +kernel
theorem d_Law_write_22 : decode cX2_write 22 = .ok (.aload_n 0, 1) := by decide +kernel
theorem d_Law_write_23 : decode cX2_write 23 = .ok (.dup, 1) := by decide +kernel
theorem d_Law_write_24 : decode cX2_write 24 = .ok (.getfield 24, 3) := by decide +kernel
theorem d_Law_write_27 : decode cX2_write 27 = .ok (.iconst 1, 1) := by decide +kernel
theorem d_Law_write_28 : decode cX2_write 28 = .ok (.iadd, 1) := by decide +kernel
theorem d_Law_write_29 : decode cX2_write 29 = .ok (.putfield 24, 3) := by decide +kernel
theorem d_Law_write_32 : decode cX2_write 32 = .ok (.return_, 1) := by decide +kernel
theorem d_Reader_unit_0 : decode cX4_unit 0 = .ok (.aload_n 0, 1) := by decide +kernel
theorem d_Reader_unit_1 : decode cX4_unit 1 = .ok (.getfield 50, 3) := by decide +kernel
theorem d_Reader_unit_4 : decode cX4_unit 4 = .ok (.sipush 20003, 3) := by decide +kernel
theorem d_Reader_unit_7 : decode cX4_unit 7 = .ok (.isub, 1) := by decide +kernel
theorem d_Reader_unit_8 : decode cX4_unit 8 = .ok (.istore_n 1, 1) := by decide +kernel
theorem d_Reader_unit_9 : decode cX4_unit 9 = .ok (.aload_n 0, 1) := by decide +kernel
theorem d_Reader_unit_10 : decode cX4_unit 10 = .ok (.invokevirtual 109, 3) := by decide +kernel
theorem d_Reader_unit_13 : decode cX4_unit 13 = .ok (.ifCond .ne 18, 3) := by decide +kernel
theorem d_Reader_unit_16 : decode cX4_unit 16 = .ok (.iload_n 1, 1) := by decide +kernel
theorem d_Reader_unit_17 : decode cX4_unit 17 = .ok (.bipush 9, 2) := by decide +kernel
theorem d_Reader_unit_19 : decode cX4_unit 19 = .ok (.invokestatic 151, 3) := by decide +kernel
theorem d_Reader_unit_22 : decode cX4_unit 22 = .ok (.ifCond .ne 9, 3) := by decide +kernel
theorem d_Reader_unit_25 : decode cX4_unit 25 = .ok (.aload_n 0, 1) := by decide +kernel
theorem d_Reader_unit_26 : decode cX4_unit 26 = .ok (.iconst 1, 1) := by decide +kernel
theorem d_Reader_unit_27 : decode cX4_unit 27 = .ok (.invokevirtual 103, 3) := by decide +kernel
theorem d_Reader_unit_30 : decode cX4_unit 30 = .ok (.ireturn, 1) := by decide +kernel
theorem d_Reader_unit_31 : decode cX4_unit 31 = .ok (.aload_n 0, 1) := by decide +kernel
theorem d_Reader_unit_32 : decode cX4_unit 32 = .ok (.getfield 28, 3) := by decide +kernel
theorem d_Reader_unit_35 : decode cX4_unit 35 = .ok (.aload_n 0, 1) := by decide +kernel
theorem d_Reader_unit_36 : decode cX4_unit 36 = .ok (.invokevirtual 109, 3) := by decide +kernel
theorem d_Reader_unit_39 : decode cX4_unit 39 = .ok (.ifCond .eq 10, 3) := by decide +kernel
theorem d_Reader_unit_42 : decode cX4_unit 42 = .ok (.aload_n 0, 1) := by decide +kernel
theorem d_Reader_unit_43 : decode cX4_unit 43 = .ok (.getfield 50, 3) := by decide +kernel
theorem d_Reader_unit_46 : decode cX4_unit 46 = .ok (.goto 6, 3) := by decide +kernel
theorem d_Reader_unit_49 : decode cX4_unit 49 = .ok (.iconst (-1), 1) := by decide +kernel
theorem d_Reader_unit_50 : decode cX4_unit 50 = .ok (.iload_n 1, 1) := by decide +kernel
theorem d_Reader_unit_51 : decode cX4_unit 51 = .ok (.isub, 1) := by decide +kernel
theorem d_Reader_unit_52 : decode cX4_unit 52 = .ok (.invokevirtual 141, 3) := by decide +kernel
theorem d_Reader_unit_55 : decode cX4_unit 55 = .ok (.aload_n 0, 1) := by decide +kernel
theorem d_Reader_unit_56 : decode cX4_unit 56 = .ok (.invokevirtual 106, 3) := by decide +kernel
theorem d_Reader_unit_59 : decode cX4_unit 59 = .ok (.iconst 1, 1) := by decide +kernel
theorem d_Reader_unit_60 : decode cX4_unit 60 = .ok (.ireturn, 1) := by decide +kernel
theorem d_Reader_divisor_0 : decode cX4_divisor 0 = .ok (.aload_n 0, 1) := by decide +kernel
theorem d_Reader_divisor_1 : decode cX4_divisor 1 = .ok (.invokevirtual 109, 3) := by decide +kernel
theorem d_Reader_divisor_4 : decode cX4_divisor 4 = .ok (.ifCond .ne 9, 3) := by decide +kernel
theorem d_Reader_divisor_7 : decode cX4_divisor 7 = .ok (.aload_n 0, 1) := by decide +kernel
theorem d_Reader_divisor_8 : decode cX4_divisor 8 = .ok (.iconst 1, 1) := by decide +kernel
theorem d_Reader_divisor_9 : decode cX4_divisor 9 = .ok (.invokevirtual 103, 3) := by decide +kernel
theorem d_Reader_divisor_12 : decode cX4_divisor 12 = .ok (.ireturn, 1) := by decide +kernel
theorem d_Reader_divisor_13 : decode cX4_divisor 13 = .ok (.aload_n 0, 1) := by decide +kernel
theorem d_Reader_divisor_14 : decode cX4_divisor 14 = .ok (.getfield 50, 3) := by decide +kernel
theorem d_Reader_divisor_17 : decode cX4_divisor 17 = .ok (.ifCond .ne 9, 3) := by decide +kernel
theorem d_Reader_divisor_20 : decode cX4_divisor 20 = .ok (.aload_n 0, 1) := by decide +kernel
theorem d_Reader_divisor_21 : decode cX4_divisor 21 = .ok (.iconst 2, 1) := by decide +kernel
theorem d_Reader_divisor_22 : decode cX4_divisor 22 = .ok (.invokevirtual 103, 3) := by decide +kernel
theorem d_Reader_divisor_25 : decode cX4_divisor 25 = .ok (.ireturn, 1) := by decide +kernel
theorem d_Reader_divisor_26 : decode cX4_divisor 26 = .ok (.aload_n 0, 1) := by decide +kernel
theorem d_Reader_divisor_27 : decode cX4_divisor 27 = .ok (.getfield 28, 3) := by decide +kernel
theorem d_Reader_divisor_30 : decode cX4_divisor 30 = .ok (.aload_n 0, 1) := by decide +kernel
theorem d_Reader_divisor_31 : decode cX4_divisor 31 = .ok (.getfield 50, 3) := by decide +kernel
theorem d_Reader_divisor_34 : decode cX4_divisor 34 = .ok (.invokevirtual 141, 3) := by decide +kernel
theorem d_Reader_divisor_37 : decode cX4_divisor 37 = .ok (.aload_n 0, 1) := by decide +kernel
theorem d_Reader_divisor_38 : decode cX4_divisor 38 = .ok (.invokevirtual 106, 3) := by decide +kernel
theorem d_Reader_divisor_41 : decode cX4_divisor 41 = .ok (.iconst 1, 1) := by decide +kernel
theorem d_Reader_divisor_42 : decode cX4_divisor 42 = .ok (.ireturn, 1) := by decide +kernel
theorem d_Reader_sum_0 : decode cX4_sum 0 = .ok (.iconst 0, 1) := by decide +kernel
theorem d_Reader_sum_1 : decode cX4_sum 1 = .ok (.istore_n 1, 1) := by decide +kernel
theorem d_Reader_sum_2 : decode cX4_sum 2 = .ok (.aload_n 0, 1) := by decide +kernel
theorem d_Reader_sum_3 : decode cX4_sum 3 = .ok (.invokevirtual 145, 3) := by decide +kernel
theorem d_Reader_sum_6 : decode cX4_sum 6 = .ok (.ifCond .ne 5, 3) := by decide +kernel
