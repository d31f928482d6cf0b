theorem d_Told_wrongLine_32 : decode cX7_wrongLine 32 = .ok (.iload 5, 2) := by decide +kernel
theorem d_Told_wrongLine_34 : decode cX7_wrongLine 34 = .ok (.istore 4, 2) := by decide +kernel
theorem d_Told_wrongLine_36 : decode cX7_wrongLine 36 = .ok (.iinc 5 1, 3) := by decide +kernel
theorem d_Told_wrongLine_39 : decode cX7_wrongLine 39 = .ok (.goto (-33), 3) := by decide +kernel
theorem d_Told_wrongLine_42 : decode cX7_wrongLine 42 = .ok (.iload 4, 2) := by decide +kernel
theorem d_Told_wrongLine_44 : decode cX7_wrongLine 44 = .ok (.ireturn, 1) := by decide +kernel
theorem d_Tc_altered_0 : decode cX8_altered 0 = .ok (.sipush (-10000), 3) := by decide +kernel
theorem d_Tc_altered_3 : decode cX8_altered 3 = .ok (.istore_n 2, 1) := by decide +kernel
theorem d_Tc_altered_4 : decode cX8_altered 4 = .ok (.iload_n 1, 1) := by decide +kernel
theorem d_Tc_altered_5 : decode cX8_altered 5 = .ok (.iconst 1, 1) := by decide +kernel
theorem d_Tc_altered_6 : decode cX8_altered 6 = .ok (.invokestatic 57, 3) := by decide +kernel
theorem d_Tc_altered_9 : decode cX8_altered 9 = .ok (.ifCond .ne 5, 3) := by decide +kernel
theorem d_Tc_altered_12 : decode cX8_altered 12 = .ok (.iload_n 2, 1) := by decide +kernel
theorem d_Tc_altered_13 : decode cX8_altered 13 = .ok (.ireturn, 1) := by decide +kernel
theorem d_Tc_altered_14 : decode cX8_altered 14 = .ok (.aload_n 0, 1) := by decide +kernel
theorem d_Tc_altered_15 : decode cX8_altered 15 = .ok (.getfield 10, 3) := by decide +kernel
theorem d_Tc_altered_18 : decode cX8_altered 18 = .ok (.getfield 230, 3) := by decide +kernel
theorem d_Tc_altered_21 : decode cX8_altered 21 = .ok (.bipush 16, 2) := by decide +kernel
theorem d_Tc_altered_23 : decode cX8_altered 23 = .ok (.iconst 4, 1) := by decide +kernel
theorem d_Tc_altered_24 : decode cX8_altered 24 = .ok (.iconst 1, 1) := by decide +kernel
theorem d_Tc_altered_25 : decode cX8_altered 25 = .ok (.invokevirtual 309, 3) := by decide +kernel
theorem d_Tc_altered_28 : decode cX8_altered 28 = .ok (.istore_n 3, 1) := by decide +kernel
theorem d_Tc_altered_29 : decode cX8_altered 29 = .ok (.aload_n 0, 1) := by decide +kernel
theorem d_Tc_altered_30 : decode cX8_altered 30 = .ok (.getfield 10, 3) := by decide +kernel
theorem d_Tc_altered_33 : decode cX8_altered 33 = .ok (.getfield 230, 3) := by decide +kernel
theorem d_Tc_altered_36 : decode cX8_altered 36 = .ok (.bipush 20, 2) := by decide +kernel
theorem d_Tc_altered_38 : decode cX8_altered 38 = .ok (.iconst 1, 1) := by decide +kernel
theorem d_Tc_altered_39 : decode cX8_altered 39 = .ok (.iconst 4, 1) := by decide +kernel
theorem d_Tc_altered_40 : decode cX8_altered 40 = .ok (.invokevirtual 309, 3) := by decide +kernel
theorem d_Tc_altered_43 : decode cX8_altered 43 = .ok (.istore 4, 2) := by decide +kernel
theorem d_Tc_altered_45 : decode cX8_altered 45 = .ok (.iload_n 3, 1) := by decide +kernel
theorem d_Tc_altered_46 : decode cX8_altered 46 = .ok (.iconst (-1), 1) := by decide +kernel
theorem d_Tc_altered_47 : decode cX8_altered 47 = .ok (.if_icmp .eq 9, 3) := by decide +kernel
theorem d_Tc_altered_50 : decode cX8_altered 50 = .ok (.iload 4, 2) := by decide +kernel
theorem d_Tc_altered_52 : decode cX8_altered 52 = .ok (.iconst (-1), 1) := by decide +kernel
theorem d_Tc_altered_53 : decode cX8_altered 53 = .ok (.if_icmp .ne 5, 3) := by decide +kernel
theorem d_Tc_altered_56 : decode cX8_altered 56 = .ok (.iload_n 2, 1) := by decide +kernel
theorem d_Tc_altered_57 : decode cX8_altered 57 = .ok (.ireturn, 1) := by decide +kernel
theorem d_Tc_altered_58 : decode cX8_altered 58 = .ok (.aload_n 0, 1) := by decide +kernel
theorem d_Tc_altered_59 : decode cX8_altered 59 = .ok (.getfield 10, 3) := by decide +kernel
theorem d_Tc_altered_62 : decode cX8_altered 62 = .ok (.getfield 230, 3) := by decide +kernel
theorem d_Tc_altered_65 : decode cX8_altered 65 = .ok (.bipush 16, 2) := by decide +kernel
theorem d_Tc_altered_67 : decode cX8_altered 67 = .ok (.iload_n 3, 1) := by decide +kernel
theorem d_Tc_altered_68 : decode cX8_altered 68 = .ok (.iconst 4, 1) := by decide +kernel
theorem d_Tc_altered_69 : decode cX8_altered 69 = .ok (.iconst 1, 1) := by decide +kernel
theorem d_Tc_altered_70 : decode cX8_altered 70 = .ok (.invokevirtual 312, 3) := by decide +kernel
theorem d_Tc_altered_73 : decode cX8_altered 73 = .ok (.istore 5, 2) := by decide +kernel
theorem d_Tc_altered_75 : decode cX8_altered 75 = .ok (.iload 5, 2) := by decide +kernel
theorem d_Tc_altered_77 : decode cX8_altered 77 = .ok (.aload_n 0, 1) := by decide +kernel
theorem d_Tc_altered_78 : decode cX8_altered 78 = .ok (.getfield 10, 3) := by decide +kernel
theorem d_Tc_altered_81 : decode cX8_altered 81 = .ok (.getfield 230, 3) := by decide +kernel
theorem d_Tc_altered_84 : decode cX8_altered 84 = .ok (.bipush 20, 2) := by decide +kernel
theorem d_Tc_altered_86 : decode cX8_altered 86 = .ok (.iload 4, 2) := by decide +kernel
theorem d_Tc_altered_88 : decode cX8_altered 88 = .ok (.iconst 1, 1) := by decide +kernel
theorem d_Tc_altered_89 : decode cX8_altered 89 = .ok (.iconst 4, 1) := by decide +kernel
theorem d_Tc_altered_90 : decode cX8_altered 90 = .ok (.invokevirtual 312, 3) := by decide +kernel
theorem d_Tc_altered_93 : decode cX8_altered 93 = .ok (.if_icmp .eq 5, 3) := by decide +kernel
theorem d_Tc_altered_96 : decode cX8_altered 96 = .ok (.iload_n 2, 1) := by decide +kernel
theorem d_Tc_altered_97 : decode cX8_altered 97 = .ok (.ireturn, 1) := by decide +kernel
theorem d_Tc_altered_98 : decode cX8_altered 98 = .ok (.iload_n 1, 1) := by decide +kernel
theorem d_Tc_altered_99 : decode cX8_altered 99 = .ok (.ifCond .ne 12, 3) := by decide +kernel
theorem d_Tc_altered_102 : decode cX8_altered 102 = .ok (.iload_n 3, 1) := by decide +kernel
theorem d_Tc_altered_103 : decode cX8_altered 103 = .ok (.iconst 4, 1) := by decide +kernel
theorem d_Tc_altered_104 : decode cX8_altered 104 = .ok (.imul, 1) := by decide +kernel
theorem d_Tc_altered_105 : decode cX8_altered 105 = .ok (.iload 4, 2) := by decide +kernel
theorem d_Tc_altered_107 : decode cX8_altered 107 = .ok (.iadd, 1) := by decide +kernel
theorem d_Tc_altered_108 : decode cX8_altered 108 = .ok (.goto 5, 3) := by decide +kernel
theorem d_Tc_altered_111 : decode cX8_altered 111 = .ok (.iload 5, 2) := by decide +kernel
theorem d_Tc_altered_113 : decode cX8_altered 113 = .ok (.ireturn, 1) := by decide +kernel
theorem d_Tc_years_0 : decode cX8_years 0 = .ok (.iload_n 1, 1) := by decide +kernel
theorem d_Tc_years_1 : decode cX8_years 1 = .ok (.iconst 1, 1) := by decide +kernel
theorem d_Tc_years_2 : decode cX8_years 2 = .ok (.if_icmp .lt 21, 3) := by decide +kernel
theorem d_Tc_years_5 : decode cX8_years 5 = .ok (.iload_n 1, 1) := by decide +kernel
theorem d_Tc_years_6 : decode cX8_years 6 = .ok (.bipush 30, 2) := by decide +kernel
theorem d_Tc_years_8 : decode cX8_years 8 = .ok (.if_icmp .gt 15, 3) := by decide +kernel
theorem d_Tc_years_11 : decode cX8_years 11 = .ok (.iload_n 2, 1) := by decide +kernel
theorem d_Tc_years_12 : decode cX8_years 12 = .ok (.iconst 1, 1) := by decide +kernel
theorem d_Tc_years_13 : decode cX8_years 13 = .ok (.iload_n 1, 1) := by decide +kernel
theorem d_Tc_years_14 : decode cX8_years 14 = .ok (.ishl, 1) := by decide +kernel
theorem d_Tc_years_15 : decode cX8_years 15 = .ok (.iconst 1, 1) := by decide +kernel
theorem d_Tc_years_16 : decode cX8_years 16 = .ok (.isub, 1) := by decide +kernel
theorem d_Tc_years_17 : decode cX8_years 17 = .ok (.invokestatic 57, 3) := by decide +kernel
theorem d_Tc_years_20 : decode cX8_years 20 = .ok (.ifCond .ne 5, 3) := by decide +kernel
theorem d_Tc_years_23 : decode cX8_years 23 = .ok (.iconst 0, 1) := by decide +kernel
theorem d_Tc_years_24 : decode cX8_years 24 = .ok (.ireturn, 1) := by decide +kernel
theorem d_Tc_years_25 : decode cX8_years 25 = .ok (.aload_n 0, 1) := by decide +kernel
theorem d_Tc_years_26 : decode cX8_years 26 = .ok (.getfield 10, 3) := by decide +kernel
theorem d_Tc_years_29 : decode cX8_years 29 = .ok (.getfield 230, 3) := by decide +kernel
theorem d_Tc_years_32 : decode cX8_years 32 = .ok (.iload_n 1, 1) := by decide +kernel
theorem d_Tc_years_33 : decode cX8_years 33 = .ok (.putfield 315, 3) := by decide +kernel
theorem d_Tc_years_36 : decode cX8_years 36 = .ok (.aload_n 0, 1) := by decide +kernel
theorem d_Tc_years_37 : decode cX8_years 37 = .ok (.getfield 10, 3) := by decide +kernel
theorem d_Tc_years_40 : decode cX8_years 40 = .ok (.getfield 230, 3) := by decide +kernel
theorem d_Tc_years_43 : decode cX8_years 43 = .ok (.iload_n 2, 1) := by decide +kernel
theorem d_Tc_years_44 : decode cX8_years 44 = .ok (.putfield 318, 3) := by decide +kernel
theorem d_Tc_years_47 : decode cX8_years 47 = .ok (.iconst 1, 1) := by decide +kernel
theorem d_Tc_years_48 : decode cX8_years 48 = .ok (.ireturn, 1) := by decide +kernel
theorem d_Told_longestDry_0 : decode cX7_longestDry 0 = .ok (.iconst 0, 1) := by decide +kernel
theorem d_Told_longestDry_1 : decode cX7_longestDry 1 = .ok (.istore_n 1, 1) := by decide +kernel
theorem d_Told_longestDry_2 : decode cX7_longestDry 2 = .ok (.iconst 0, 1) := by decide +kernel
theorem d_Told_longestDry_3 : decode cX7_longestDry 3 = .ok (.istore_n 2, 1) := by decide +kernel
theorem d_Told_longestDry_4 : decode cX7_longestDry 4 = .ok (.iconst 0, 1) := by decide +kernel
theorem d_Told_longestDry_5 : decode cX7_longestDry 5 = .ok (.istore_n 3, 1) := by decide +kernel
theorem d_Told_longestDry_6 : decode cX7_longestDry 6 = .ok (.iload_n 3, 1) := by decide +kernel
theorem d_Told_longestDry_7 : decode cX7_longestDry 7 = .ok (.aload_n 0, 1) := by decide +kernel
theorem d_Told_longestDry_8 : decode cX7_longestDry 8 = .ok (.getfield 42, 3) := by decide +kernel
theorem d_Told_longestDry_11 : decode cX7_longestDry 11 = .ok (.if_icmp .ge 34, 3) := by decide +kernel
theorem d_Told_longestDry_14 : decode cX7_longestDry 14 = .ok (.aload_n 0, 1) := by decide +kernel
theorem d_Told_longestDry_15 : decode cX7_longestDry 15 = .ok (.getfield 46, 3) := by decide +kernel
theorem d_Told_longestDry_18 : decode cX7_longestDry 18 = .ok (.iload_n 3, 1) := by decide +kernel
theorem d_Told_longestDry_19 : decode cX7_longestDry 19 = .ok (.ishr, 1) := by decide +kernel
theorem d_Told_longestDry_20 : decode cX7_longestDry 20 = .ok (.iconst 1, 1) := by decide +kernel
theorem d_Told_longestDry_21 : decode cX7_longestDry 21 = .ok (.iand, 1) := by decide +kernel
theorem d_Told_longestDry_22 : decode cX7_longestDry 22 = .ok (.ifCond .ne 9, 3) := by decide +kernel
theorem d_Told_longestDry_25 : decode cX7_longestDry 25 = .ok (.iload_n 2, 1) := by decide +kernel
theorem d_Told_longestDry_26 : decode cX7_longestDry 26 = .ok (.iconst 1, 1) := by decide +kernel
theorem d_Told_longestDry_27 : decode cX7_longestDry 27 = .ok (.iadd, 1) := by decide +kernel
theorem d_Told_longestDry_28 : decode cX7_longestDry 28 = .ok (.goto 4, 3) := by decide +kernel
theorem d_Told_longestDry_31 : decode cX7_longestDry 31 = .ok (.iconst 0, 1) := by decide +kernel
theorem d_Told_longestDry_32 : decode cX7_longestDry 32 = .ok (.istore_n 2, 1) := by decide +kernel
theorem d_Told_longestDry_33 : decode cX7_longestDry 33 = .ok (.iload_n 1, 1) := by decide +kernel
theorem d_Told_longestDry_34 : decode cX7_longestDry 34 = .ok (.iload_n 2, 1) := by decide +kernel
theorem d_Told_longestDry_35 : decode cX7_longestDry 35 = .ok (.invokestatic 67, 3) := by decide +kernel
theorem d_Told_longestDry_38 : decode cX7_longestDry 38 = .ok (.istore_n 1, 1) := by decide +kernel
theorem d_Told_longestDry_39 : decode cX7_longestDry 39 = .ok (.iinc 3 1, 3) := by decide +kernel
theorem d_Told_longestDry_42 : decode cX7_longestDry 42 = .ok (.goto (-36), 3) := by decide +kernel
theorem d_Told_longestDry_45 : decode cX7_longestDry 45 = .ok (.iload_n 1, 1) := by decide +kernel
theorem d_Told_longestDry_46 : decode cX7_longestDry 46 = .ok (.ireturn, 1) := by decide +kernel
theorem d_Told_dryBegin_0 : decode cX7_dryBegin 0 = .ok (.iconst 0, 1) := by decide +kernel
theorem d_Told_dryBegin_1 : decode cX7_dryBegin 1 = .ok (.istore_n 2, 1) := by decide +kernel
theorem d_Told_dryBegin_2 : decode cX7_dryBegin 2 = .ok (.iconst 0, 1) := by decide +kernel
theorem d_Told_dryBegin_3 : decode cX7_dryBegin 3 = .ok (.istore_n 3, 1) := by decide +kernel
theorem d_Told_dryBegin_4 : decode cX7_dryBegin 4 = .ok (.iload_n 3, 1) := by decide +kernel
theorem d_Told_dryBegin_5 : decode cX7_dryBegin 5 = .ok (.aload_n 0, 1) := by decide +kernel
theorem d_Told_dryBegin_6 : decode cX7_dryBegin 6 = .ok (.getfield 42, 3) := by decide +kernel
theorem d_Told_dryBegin_9 : decode cX7_dryBegin 9 = .ok (.if_icmp .ge 43, 3) := by decide +kernel
theorem d_Told_dryBegin_12 : decode cX7_dryBegin 12 = .ok (.aload_n 0, 1) := by decide +kernel
theorem d_Told_dryBegin_13 : decode cX7_dryBegin 13 = .ok (.getfield 46, 3) := by decide +kernel
theorem d_Told_dryBegin_16 : decode cX7_dryBegin 16 = .ok (.iload_n 3, 1) := by decide +kernel
theorem d_Told_dryBegin_17 : decode cX7_dryBegin 17 = .ok (.ishr, 1) := by decide +kernel
theorem d_Told_dryBegin_18 : decode cX7_dryBegin 18 = .ok (.iconst 1, 1) := by decide +kernel
theorem d_Told_dryBegin_19 : decode cX7_dryBegin 19 = .ok (.iand, 1) := by decide +kernel
theorem d_Told_dryBegin_20 : decode cX7_dryBegin 20 = .ok (.ifCond .ne 9, 3) := by decide +kernel
theorem d_Told_dryBegin_23 : decode cX7_dryBegin 23 = .ok (.iload_n 2, 1) := by decide +kernel
theorem d_Told_dryBegin_24 : decode cX7_dryBegin 24 = .ok (.iconst 1, 1) := by decide +kernel
theorem d_Told_dryBegin_25 : decode cX7_dryBegin 25 = .ok (.iadd, 1) := by decide +kernel
theorem d_Told_dryBegin_26 : decode cX7_dryBegin 26 = .ok (.goto 4, 3) := by decide +kernel
theorem d_Told_dryBegin_29 : decode cX7_dryBegin 29 = .ok (.iconst 0, 1) := by decide +kernel
theorem d_Told_dryBegin_30 : decode cX7_dryBegin 30 = .ok (.istore_n 2, 1) := by decide +kernel
theorem d_Told_dryBegin_31 : decode cX7_dryBegin 31 = .ok (.iload_n 2, 1) := by decide +kernel
theorem d_Told_dryBegin_32 : decode cX7_dryBegin 32 = .ok (.ifCond .le 14, 3) := by decide +kernel
theorem d_Told_dryBegin_35 : decode cX7_dryBegin 35 = .ok (.iload_n 2, 1) := by decide +kernel
theorem d_Told_dryBegin_36 : decode cX7_dryBegin 36 = .ok (.iload_n 1, 1) := by decide +kernel
theorem d_Told_dryBegin_37 : decode cX7_dryBegin 37 = .ok (.if_icmp .ne 9, 3) := by decide +kernel
theorem d_Told_dryBegin_40 : decode cX7_dryBegin 40 = .ok (.iload_n 3, 1) := by decide +kernel
theorem d_Told_dryBegin_41 : decode cX7_dryBegin 41 = .ok (.iload_n 2, 1) := by decide +kernel
theorem d_Told_dryBegin_42 : decode cX7_dryBegin 42 = .ok (.isub, 1) := by decide +kernel
theorem d_Told_dryBegin_43 : decode cX7_dryBegin 43 = .ok (.iconst 1, 1) := by decide +kernel
theorem d_Told_dryBegin_44 : decode cX7_dryBegin 44 = .ok (.iadd, 1) := by decide +kernel
theorem d_Told_dryBegin_45 : decode cX7_dryBegin 45 = .ok (.ireturn, 1) := by decide +kernel
theorem d_Told_dryBegin_46 : decode cX7_dryBegin 46 = .ok (.iinc 3 1, 3) := by decide +kernel
theorem d_Told_dryBegin_49 : decode cX7_dryBegin 49 = .ok (.goto (-45), 3) := by decide +kernel
theorem d_Told_dryBegin_52 : decode cX7_dryBegin 52 = .ok (.iconst (-1), 1) := by decide +kernel
theorem d_Told_dryBegin_53 : decode cX7_dryBegin 53 = .ok (.ireturn, 1) := by decide +kernel
theorem d_Tc_dry_0 : decode cX8_dry 0 = .ok (.iload_n 1, 1) := by decide +kernel
theorem d_Tc_dry_1 : decode cX8_dry 1 = .ok (.iconst 1, 1) := by decide +kernel
theorem d_Tc_dry_2 : decode cX8_dry 2 = .ok (.invokestatic 57, 3) := by decide +kernel
theorem d_Tc_dry_5 : decode cX8_dry 5 = .ok (.ifCond .ne 5, 3) := by decide +kernel
theorem d_Tc_dry_8 : decode cX8_dry 8 = .ok (.iconst (-1), 1) := by decide +kernel
theorem d_Tc_dry_9 : decode cX8_dry 9 = .ok (.ireturn, 1) := by decide +kernel
theorem d_Tc_dry_10 : decode cX8_dry 10 = .ok (.aload_n 0, 1) := by decide +kernel
theorem d_Tc_dry_11 : decode cX8_dry 11 = .ok (.getfield 10, 3) := by decide +kernel
theorem d_Tc_dry_14 : decode cX8_dry 14 = .ok (.getfield 230, 3) := by decide +kernel
theorem d_Tc_dry_17 : decode cX8_dry 17 = .ok (.invokevirtual 321, 3) := by decide +kernel
theorem d_Tc_dry_20 : decode cX8_dry 20 = .ok (.istore_n 2, 1) := by decide +kernel
theorem d_Tc_dry_21 : decode cX8_dry 21 = .ok (.iload_n 1, 1) := by decide +kernel
theorem d_Tc_dry_22 : decode cX8_dry 22 = .ok (.ifCond .ne 7, 3) := by decide +kernel
theorem d_Tc_dry_25 : decode cX8_dry 25 = .ok (.iload_n 2, 1) := by decide +kernel
theorem d_Tc_dry_26 : decode cX8_dry 26 = .ok (.goto 14, 3) := by decide +kernel
theorem d_Tc_dry_29 : decode cX8_dry 29 = .ok (.aload_n 0, 1) := by decide +kernel
theorem d_Tc_dry_30 : decode cX8_dry 30 = .ok (.getfield 10, 3) := by decide +kernel
theorem d_Tc_dry_33 : decode cX8_dry 33 = .ok (.getfield 230, 3) := by decide +kernel
theorem d_Tc_dry_36 : decode cX8_dry 36 = .ok (.iload_n 2, 1) := by decide +kernel
theorem d_Tc_dry_37 : decode cX8_dry 37 = .ok (.invokevirtual 324, 3) := by decide +kernel
theorem d_Tc_dry_40 : decode cX8_dry 40 = .ok (.ireturn, 1) := by decide +kernel
theorem d_Realm_votesOf_0 : decode cX5_votesOf 0 = .ok (.iconst 0, 1) := by decide +kernel
theorem d_Realm_votesOf_1 : decode cX5_votesOf 1 = .ok (.istore_n 2, 1) := by decide +kernel
theorem d_Realm_votesOf_2 : decode cX5_votesOf 2 = .ok (.iconst 0, 1) := by decide +kernel
theorem d_Realm_votesOf_3 : decode cX5_votesOf 3 = .ok (.istore_n 3, 1) := by decide +kernel
theorem d_Realm_votesOf_4 : decode cX5_votesOf 4 = .ok (.iload_n 3, 1) := by decide +kernel
theorem d_Realm_votesOf_5 : decode cX5_votesOf 5 = .ok (.aload_n 0, 1) := by decide +kernel
theorem d_Realm_votesOf_6 : decode cX5_votesOf 6 = .ok (.getfield 40, 3) := by decide +kernel
theorem d_Realm_votesOf_9 : decode cX5_votesOf 9 = .ok (.if_icmp .ge 34, 3) := by decide +kernel
theorem d_Realm_votesOf_12 : decode cX5_votesOf 12 = .ok (.iload_n 1, 1) := by decide +kernel
theorem d_Realm_votesOf_13 : decode cX5_votesOf 13 = .ok (.aload_n 0, 1) := by decide +kernel
theorem d_Realm_votesOf_14 : decode cX5_votesOf 14 = .ok (.getfield 43, 3) := by decide +kernel
theorem d_Realm_votesOf_17 : decode cX5_votesOf 17 = .ok (.iload_n 3, 1) := by decide +kernel
theorem d_Realm_votesOf_18 : decode cX5_votesOf 18 = .ok (.iaload, 1) := by decide +kernel
theorem d_Realm_votesOf_19 : decode cX5_votesOf 19 = .ok (.ishr, 1) := by decide +kernel
theorem d_Realm_votesOf_20 : decode cX5_votesOf 20 = .ok (.iconst 1, 1) := by decide +kernel
theorem d_Realm_votesOf_21 : decode cX5_votesOf 21 = .ok (.iand, 1) := by decide +kernel
theorem d_Realm_votesOf_22 : decode cX5_votesOf 22 = .ok (.iconst 1, 1) := by decide +kernel
theorem d_Realm_votesOf_23 : decode cX5_votesOf 23 = .ok (.if_icmp .ne 14, 3) := by decide +kernel
theorem d_Realm_votesOf_26 : decode cX5_votesOf 26 = .ok (.iload_n 2, 1) := by decide +kernel
theorem d_Realm_votesOf_27 : decode cX5_votesOf 27 = .ok (.aload_n 0, 1) := by decide +kernel
theorem d_Realm_votesOf_28 : decode cX5_votesOf 28 = .ok (.getfield 49, 3) := by decide +kernel
theorem d_Realm_votesOf_31 : decode cX5_votesOf 31 = .ok (.iload_n 3, 1) := by decide +kernel
theorem d_Realm_votesOf_32 : decode cX5_votesOf 32 = .ok (.iaload, 1) := by decide +kernel
theorem d_Realm_votesOf_33 : decode cX5_votesOf 33 = .ok (.iconst 1, 1) := by decide +kernel
theorem d_Realm_votesOf_34 : decode cX5_votesOf 34 = .ok (.iadd, 1) := by decide +kernel
theorem d_Realm_votesOf_35 : decode cX5_votesOf 35 = .ok (.iadd, 1) := by decide +kernel
theorem d_Realm_votesOf_36 : decode cX5_votesOf 36 = .ok (.istore_n 2, 1) := by decide +kernel
theorem d_Realm_votesOf_37 : decode cX5_votesOf 37 = .ok (.iinc 3 1, 3) := by decide +kernel
theorem d_Realm_votesOf_40 : decode cX5_votesOf 40 = .ok (.goto (-36), 3) := by decide +kernel
theorem d_Realm_votesOf_43 : decode cX5_votesOf 43 = .ok (.iload_n 2, 1) := by decide +kernel
theorem d_Realm_votesOf_44 : decode cX5_votesOf 44 = .ok (.ireturn, 1) := by decide +kernel
theorem d_Realm_weighsOf_0 : decode cX5_weighsOf 0 = .ok (.aload_n 0, 1) := by decide +kernel
theorem d_Realm_weighsOf_1 : decode cX5_weighsOf 1 = .ok (.bipush 15, 2) := by decide +kernel
theorem d_Realm_weighsOf_3 : decode cX5_weighsOf 3 = .ok (.invokevirtual 112, 3) := by decide +kernel
theorem d_Realm_weighsOf_6 : decode cX5_weighsOf 6 = .ok (.istore_n 2, 1) := by decide +kernel
theorem d_Realm_weighsOf_7 : decode cX5_weighsOf 7 = .ok (.iconst 0, 1) := by decide +kernel
theorem d_Realm_weighsOf_8 : decode cX5_weighsOf 8 = .ok (.istore_n 3, 1) := by decide +kernel
theorem d_Realm_weighsOf_9 : decode cX5_weighsOf 9 = .ok (.iconst 0, 1) := by decide +kernel
theorem d_Realm_weighsOf_10 : decode cX5_weighsOf 10 = .ok (.istore 4, 2) := by decide +kernel
theorem d_Realm_weighsOf_12 : decode cX5_weighsOf 12 = .ok (.iload 4, 2) := by decide +kernel
theorem d_Realm_weighsOf_14 : decode cX5_weighsOf 14 = .ok (.bipush 16, 2) := by decide +kernel
theorem d_Realm_weighsOf_16 : decode cX5_weighsOf 16 = .ok (.if_icmp .ge 61, 3) := by decide +kernel
theorem d_Realm_weighsOf_19 : decode cX5_weighsOf 19 = .ok (.iload 4, 2) := by decide +kernel
theorem d_Realm_weighsOf_21 : decode cX5_weighsOf 21 = .ok (.iload_n 1, 1) := by decide +kernel
theorem d_Realm_weighsOf_22 : decode cX5_weighsOf 22 = .ok (.ishr, 1) := by decide +kernel
theorem d_Realm_weighsOf_23 : decode cX5_weighsOf 23 = .ok (.iconst 1, 1) := by decide +kernel
theorem d_Realm_weighsOf_24 : decode cX5_weighsOf 24 = .ok (.iand, 1) := by decide +kernel
theorem d_Realm_weighsOf_25 : decode cX5_weighsOf 25 = .ok (.ifCond .ne 7, 3) := by decide +kernel
theorem d_Realm_weighsOf_28 : decode cX5_weighsOf 28 = .ok (.iconst 1, 1) := by decide +kernel
theorem d_Realm_weighsOf_29 : decode cX5_weighsOf 29 = .ok (.goto 4, 3) := by decide +kernel
theorem d_Realm_weighsOf_32 : decode cX5_weighsOf 32 = .ok (.iconst 0, 1) := by decide +kernel
theorem d_Realm_weighsOf_33 : decode cX5_weighsOf 33 = .ok (.istore 5, 2) := by decide +kernel
theorem d_Realm_weighsOf_35 : decode cX5_weighsOf 35 = .ok (.iload 5, 2) := by decide +kernel
theorem d_Realm_weighsOf_37 : decode cX5_weighsOf 37 = .ok (.ifCond .eq 34, 3) := by decide +kernel
theorem d_Realm_weighsOf_40 : decode cX5_weighsOf 40 = .ok (.iconst 2, 1) := by decide +kernel
theorem d_Realm_weighsOf_41 : decode cX5_weighsOf 41 = .ok (.aload_n 0, 1) := by decide +kernel
theorem d_Realm_weighsOf_42 : decode cX5_weighsOf 42 = .ok (.iload 4, 2) := by decide +kernel
theorem d_Realm_weighsOf_44 : decode cX5_weighsOf 44 = .ok (.invokevirtual 112, 3) := by decide +kernel
theorem d_Realm_weighsOf_47 : decode cX5_weighsOf 47 = .ok (.imul, 1) := by decide +kernel
theorem d_Realm_weighsOf_48 : decode cX5_weighsOf 48 = .ok (.iload_n 2, 1) := by decide +kernel
theorem d_Realm_weighsOf_49 : decode cX5_weighsOf 49 = .ok (.if_icmp .gt 22, 3) := by decide +kernel
theorem d_Realm_weighsOf_52 : decode cX5_weighsOf 52 = .ok (.iconst 2, 1) := by decide +kernel
theorem d_Realm_weighsOf_53 : decode cX5_weighsOf 53 = .ok (.aload_n 0, 1) := by decide +kernel
theorem d_Realm_weighsOf_54 : decode cX5_weighsOf 54 = .ok (.iload 4, 2) := by decide +kernel
theorem d_Realm_weighsOf_56 : decode cX5_weighsOf 56 = .ok (.iconst 1, 1) := by decide +kernel
theorem d_Realm_weighsOf_57 : decode cX5_weighsOf 57 = .ok (.iload_n 1, 1) := by decide +kernel
theorem d_Realm_weighsOf_58 : decode cX5_weighsOf 58 = .ok (.ishl, 1) := by decide +kernel
theorem d_Realm_weighsOf_59 : decode cX5_weighsOf 59 = .ok (.ior, 1) := by decide +kernel
theorem d_Realm_weighsOf_60 : decode cX5_weighsOf 60 = .ok (.invokevirtual 112, 3) := by decide +kernel
theorem d_Realm_weighsOf_63 : decode cX5_weighsOf 63 = .ok (.imul, 1) := by decide +kernel
theorem d_Realm_weighsOf_64 : decode cX5_weighsOf 64 = .ok (.iload_n 2, 1) := by decide +kernel
theorem d_Realm_weighsOf_65 : decode cX5_weighsOf 65 = .ok (.if_icmp .le 6, 3) := by decide +kernel
theorem d_Realm_weighsOf_68 : decode cX5_weighsOf 68 = .ok (.iinc 3 1, 3) := by decide +kernel
theorem d_Realm_weighsOf_71 : decode cX5_weighsOf 71 = .ok (.iinc 4 1, 3) := by decide +kernel
theorem d_Realm_weighsOf_74 : decode cX5_weighsOf 74 = .ok (.goto (-62), 3) := by decide +kernel
theorem d_Realm_weighsOf_77 : decode cX5_weighsOf 77 = .ok (.iload_n 3, 1) := by decide +kernel
theorem d_Realm_weighsOf_78 : decode cX5_weighsOf 78 = .ok (.ireturn, 1) := by decide +kernel
theorem d_Tc_votes_0 : decode cX8_votes 0 = .ok (.iload_n 1, 1) := by decide +kernel
theorem d_Tc_votes_1 : decode cX8_votes 1 = .ok (.iconst 3, 1) := by decide +kernel
theorem d_Tc_votes_2 : decode cX8_votes 2 = .ok (.invokestatic 57, 3) := by decide +kernel
theorem d_Tc_votes_5 : decode cX8_votes 5 = .ok (.ifCond .eq 11, 3) := by decide +kernel
theorem d_Tc_votes_8 : decode cX8_votes 8 = .ok (.iload_n 2, 1) := by decide +kernel
theorem d_Tc_votes_9 : decode cX8_votes 9 = .ok (.iconst 1, 1) := by decide +kernel
theorem d_Tc_votes_10 : decode cX8_votes 10 = .ok (.invokestatic 57, 3) := by decide +kernel
theorem d_Tc_votes_13 : decode cX8_votes 13 = .ok (.ifCond .ne 5, 3) := by decide +kernel
theorem d_Tc_votes_16 : decode cX8_votes 16 = .ok (.iconst (-1), 1) := by decide +kernel
theorem d_Tc_votes_17 : decode cX8_votes 17 = .ok (.ireturn, 1) := by decide +kernel
theorem d_Tc_votes_18 : decode cX8_votes 18 = .ok (.iload_n 2, 1) := by decide +kernel
theorem d_Tc_votes_19 : decode cX8_votes 19 = .ok (.ifCond .ne 19, 3) := by decide +kernel
theorem d_Tc_votes_22 : decode cX8_votes 22 = .ok (.aload_n 0, 1) := by decide +kernel
theorem d_Tc_votes_23 : decode cX8_votes 23 = .ok (.getfield 10, 3) := by decide +kernel
theorem d_Tc_votes_26 : decode cX8_votes 26 = .ok (.getfield 47, 3) := by decide +kernel
theorem d_Tc_votes_29 : decode cX8_votes 29 = .ok (.iconst 1, 1) := by decide +kernel
theorem d_Tc_votes_30 : decode cX8_votes 30 = .ok (.iload_n 1, 1) := by decide +kernel
theorem d_Tc_votes_31 : decode cX8_votes 31 = .ok (.ishl, 1) := by decide +kernel
theorem d_Tc_votes_32 : decode cX8_votes 32 = .ok (.invokevirtual 327, 3) := by decide +kernel
theorem d_Tc_votes_35 : decode cX8_votes 35 = .ok (.goto 14, 3) := by decide +kernel
theorem d_Tc_votes_38 : decode cX8_votes 38 = .ok (.aload_n 0, 1) := by decide +kernel
theorem d_Tc_votes_39 : decode cX8_votes 39 = .ok (.getfield 10, 3) := by decide +kernel
theorem d_Tc_votes_42 : decode cX8_votes 42 = .ok (.getfield 47, 3) := by decide +kernel
theorem d_Tc_votes_45 : decode cX8_votes 45 = .ok (.iload_n 1, 1) := by decide +kernel
theorem d_Tc_votes_46 : decode cX8_votes 46 = .ok (.invokevirtual 330, 3) := by decide +kernel
theorem d_Tc_votes_49 : decode cX8_votes 49 = .ok (.ireturn, 1) := by decide +kernel
theorem d_Realm_heap_0 : decode cX5_heap 0 = .ok (.aload_n 0, 1) := by decide +kernel
theorem d_Realm_heap_1 : decode cX5_heap 1 = .ok (.getfield 52, 3) := by decide +kernel
theorem d_Realm_heap_4 : decode cX5_heap 4 = .ok (.iload_n 1, 1) := by decide +kernel
theorem d_Realm_heap_5 : decode cX5_heap 5 = .ok (.iaload, 1) := by decide +kernel
theorem d_Realm_heap_6 : decode cX5_heap 6 = .ok (.iload_n 2, 1) := by decide +kernel
theorem d_Realm_heap_7 : decode cX5_heap 7 = .ok (.isub, 1) := by decide +kernel
theorem d_Realm_heap_8 : decode cX5_heap 8 = .ok (.aload_n 0, 1) := by decide +kernel
theorem d_Realm_heap_9 : decode cX5_heap 9 = .ok (.getfield 49, 3) := by decide +kernel
theorem d_Realm_heap_12 : decode cX5_heap 12 = .ok (.iload_n 1, 1) := by decide +kernel
theorem d_Realm_heap_13 : decode cX5_heap 13 = .ok (.iaload, 1) := by decide +kernel
theorem d_Realm_heap_14 : decode cX5_heap 14 = .ok (.iconst 2, 1) := by decide +kernel
theorem d_Realm_heap_15 : decode cX5_heap 15 = .ok (.iadd, 1) := by decide +kernel
theorem d_Realm_heap_16 : decode cX5_heap 16 = .ok (.irem, 1) := by decide +kernel
theorem d_Realm_heap_17 : decode cX5_heap 17 = .ok (.ireturn, 1) := by decide +kernel
theorem d_Realm_fewestJokes_0 : decode cX5_fewestJokes 0 = .ok (.aload_n 0, 1) := by decide +kernel
theorem d_Realm_fewestJokes_1 : decode cX5_fewestJokes 1 = .ok (.iload_n 1, 1) := by decide +kernel
theorem d_Realm_fewestJokes_2 : decode cX5_fewestJokes 2 = .ok (.invokevirtual 87, 3) := by decide +kernel
theorem d_Realm_fewestJokes_5 : decode cX5_fewestJokes 5 = .ok (.ifCond .ne 5, 3) := by decide +kernel
theorem d_Realm_fewestJokes_8 : decode cX5_fewestJokes 8 = .ok (.iconst (-1), 1) := by decide +kernel
theorem d_Realm_fewestJokes_9 : decode cX5_fewestJokes 9 = .ok (.ireturn, 1) := by decide +kernel
theorem d_Realm_fewestJokes_10 : decode cX5_fewestJokes 10 = .ok (.iconst 0, 1) := by decide +kernel
theorem d_Realm_fewestJokes_11 : decode cX5_fewestJokes 11 = .ok (.istore_n 2, 1) := by decide +kernel
theorem d_Realm_fewestJokes_12 : decode cX5_fewestJokes 12 = .ok (.iconst 0, 1) := by decide +kernel
theorem d_Realm_fewestJokes_13 : decode cX5_fewestJokes 13 = .ok (.istore_n 3, 1) := by decide +kernel
theorem d_Realm_fewestJokes_14 : decode cX5_fewestJokes 14 = .ok (.iload_n 3, 1) := by decide +kernel
theorem d_Realm_fewestJokes_15 : decode cX5_fewestJokes 15 = .ok (.aload_n 0, 1) := by decide +kernel
theorem d_Realm_fewestJokes_16 : decode cX5_fewestJokes 16 = .ok (.getfield 40, 3) := by decide +kernel
theorem d_Realm_fewestJokes_19 : decode cX5_fewestJokes 19 = .ok (.if_icmp .ge 27, 3) := by decide +kernel
theorem d_Realm_fewestJokes_22 : decode cX5_fewestJokes 22 = .ok (.iload_n 2, 1) := by decide +kernel
theorem d_Realm_fewestJokes_23 : decode cX5_fewestJokes 23 = .ok (.iload_n 3, 1) := by decide +kernel
theorem d_Realm_fewestJokes_24 : decode cX5_fewestJokes 24 = .ok (.iload_n 1, 1) := by decide +kernel
theorem d_Realm_fewestJokes_25 : decode cX5_fewestJokes 25 = .ok (.if_icmp .ne 7, 3) := by decide +kernel
theorem d_Realm_fewestJokes_28 : decode cX5_fewestJokes 28 = .ok (.iconst 0, 1) := by decide +kernel
theorem d_Realm_fewestJokes_29 : decode cX5_fewestJokes 29 = .ok (.goto 9, 3) := by decide +kernel
theorem d_Realm_fewestJokes_32 : decode cX5_fewestJokes 32 = .ok (.aload_n 0, 1) := by decide +kernel
theorem d_Realm_fewestJokes_33 : decode cX5_fewestJokes 33 = .ok (.iload_n 3, 1) := by decide +kernel
theorem d_Realm_fewestJokes_34 : decode cX5_fewestJokes 34 = .ok (.iconst 0, 1) := by decide +kernel
theorem d_Realm_fewestJokes_35 : decode cX5_fewestJokes 35 = .ok (.invokevirtual 118, 3) := by decide +kernel
theorem d_Realm_fewestJokes_38 : decode cX5_fewestJokes 38 = .ok (.ixor, 1) := by decide +kernel
theorem d_Realm_fewestJokes_39 : decode cX5_fewestJokes 39 = .ok (.istore_n 2, 1) := by decide +kernel
theorem d_Realm_fewestJokes_40 : decode cX5_fewestJokes 40 = .ok (.iinc 3 1, 3) := by decide +kernel
theorem d_Realm_fewestJokes_43 : decode cX5_fewestJokes 43 = .ok (.goto (-29), 3) := by decide +kernel
theorem d_Realm_fewestJokes_46 : decode cX5_fewestJokes 46 = .ok (.iconst 1, 1) := by decide +kernel
theorem d_Realm_fewestJokes_47 : decode cX5_fewestJokes 47 = .ok (.istore_n 3, 1) := by decide +kernel
theorem d_Realm_fewestJokes_48 : decode cX5_fewestJokes 48 = .ok (.iload_n 3, 1) := by decide +kernel
theorem d_Realm_fewestJokes_49 : decode cX5_fewestJokes 49 = .ok (.aload_n 0, 1) := by decide +kernel
theorem d_Realm_fewestJokes_50 : decode cX5_fewestJokes 50 = .ok (.getfield 49, 3) := by decide +kernel
theorem d_Realm_fewestJokes_53 : decode cX5_fewestJokes 53 = .ok (.iload_n 1, 1) := by decide +kernel
theorem d_Realm_fewestJokes_54 : decode cX5_fewestJokes 54 = .ok (.iaload, 1) := by decide +kernel
theorem d_Realm_fewestJokes_55 : decode cX5_fewestJokes 55 = .ok (.iconst 1, 1) := by decide +kernel
theorem d_Realm_fewestJokes_56 : decode cX5_fewestJokes 56 = .ok (.iadd, 1) := by decide +kernel
theorem d_Realm_fewestJokes_57 : decode cX5_fewestJokes 57 = .ok (.if_icmp .gt 31, 3) := by decide +kernel
theorem d_Realm_fewestJokes_60 : decode cX5_fewestJokes 60 = .ok (.iload_n 3, 1) := by decide +kernel
theorem d_Realm_fewestJokes_61 : decode cX5_fewestJokes 61 = .ok (.aload_n 0, 1) := by decide +kernel
theorem d_Realm_fewestJokes_62 : decode cX5_fewestJokes 62 = .ok (.getfield 52, 3) := by decide +kernel
theorem d_Realm_fewestJokes_65 : decode cX5_fewestJokes 65 = .ok (.iload_n 1, 1) := by decide +kernel
theorem d_Realm_fewestJokes_66 : decode cX5_fewestJokes 66 = .ok (.iaload, 1) := by decide +kernel
theorem d_Realm_fewestJokes_67 : decode cX5_fewestJokes 67 = .ok (.if_icmp .gt 21, 3) := by decide +kernel
theorem d_Realm_fewestJokes_70 : decode cX5_fewestJokes 70 = .ok (.aload_n 0, 1) := by decide +kernel
theorem d_Realm_fewestJokes_71 : decode cX5_fewestJokes 71 = .ok (.iload_n 1, 1) := by decide +kernel
theorem d_Realm_fewestJokes_72 : decode cX5_fewestJokes 72 = .ok (.iload_n 3, 1) := by decide +kernel
theorem d_Realm_fewestJokes_73 : decode cX5_fewestJokes 73 = .ok (.invokevirtual 118, 3) := by decide +kernel
theorem d_Realm_fewestJokes_76 : decode cX5_fewestJokes 76 = .ok (.iload_n 2, 1) := by decide +kernel
theorem d_Realm_fewestJokes_77 : decode cX5_fewestJokes 77 = .ok (.if_icmp .ne 5, 3) := by decide +kernel
theorem d_Realm_fewestJokes_80 : decode cX5_fewestJokes 80 = .ok (.iload_n 3, 1) := by decide +kernel
theorem d_Realm_fewestJokes_81 : decode cX5_fewestJokes 81 = .ok (.ireturn, 1) := by decide +kernel
theorem d_Realm_fewestJokes_82 : decode cX5_fewestJokes 82 = .ok (.iinc 3 1, 3) := by decide +kernel
theorem d_Realm_fewestJokes_85 : decode cX5_fewestJokes 85 = .ok (.goto (-37), 3) := by decide +kernel
theorem d_Realm_fewestJokes_88 : decode cX5_fewestJokes 88 = .ok (.iconst (-1), 1) := by decide +kernel
theorem d_Realm_fewestJokes_89 : decode cX5_fewestJokes 89 = .ok (.ireturn, 1) := by decide +kernel
theorem d_Realm_gameOfficer_0 : decode cX5_gameOfficer 0 = .ok (.iconst 0, 1) := by decide +kernel
theorem d_Realm_gameOfficer_1 : decode cX5_gameOfficer 1 = .ok (.istore_n 1, 1) := by decide +kernel
theorem d_Realm_gameOfficer_2 : decode cX5_gameOfficer 2 = .ok (.iload_n 1, 1) := by decide +kernel
theorem d_Realm_gameOfficer_3 : decode cX5_gameOfficer 3 = .ok (.aload_n 0, 1) := by decide +kernel
theorem d_Realm_gameOfficer_4 : decode cX5_gameOfficer 4 = .ok (.getfield 40, 3) := by decide +kernel
theorem d_Realm_gameOfficer_7 : decode cX5_gameOfficer 7 = .ok (.if_icmp .ge 20, 3) := by decide +kernel
theorem d_Realm_gameOfficer_10 : decode cX5_gameOfficer 10 = .ok (.aload_n 0, 1) := by decide +kernel
theorem d_Realm_gameOfficer_11 : decode cX5_gameOfficer 11 = .ok (.iload_n 1, 1) := by decide +kernel
theorem d_Realm_gameOfficer_12 : decode cX5_gameOfficer 12 = .ok (.invokevirtual 115, 3) := by decide +kernel
theorem d_Realm_gameOfficer_15 : decode cX5_gameOfficer 15 = .ok (.iconst (-1), 1) := by decide +kernel
theorem d_Realm_gameOfficer_16 : decode cX5_gameOfficer 16 = .ok (.if_icmp .eq 5, 3) := by decide +kernel
theorem d_Realm_gameOfficer_19 : decode cX5_gameOfficer 19 = .ok (.iload_n 1, 1) := by decide +kernel
theorem d_Realm_gameOfficer_20 : decode cX5_gameOfficer 20 = .ok (.ireturn, 1) := by decide +kernel
theorem d_Realm_gameOfficer_21 : decode cX5_gameOfficer 21 = .ok (.iinc 1 1, 3) := by decide +kernel
theorem d_Realm_gameOfficer_24 : decode cX5_gameOfficer 24 = .ok (.goto (-22), 3) := by decide +kernel
theorem d_Realm_gameOfficer_27 : decode cX5_gameOfficer 27 = .ok (.iconst (-1), 1) := by decide +kernel
theorem d_Realm_gameOfficer_28 : decode cX5_gameOfficer 28 = .ok (.ireturn, 1) := by decide +kernel
theorem d_Tc_game_0 : decode cX8_game 0 = .ok (.iload_n 1, 1) := by decide +kernel
theorem d_Tc_game_1 : decode cX8_game 1 = .ok (.iconst 1, 1) := by decide +kernel
theorem d_Tc_game_2 : decode cX8_game 2 = .ok (.invokestatic 57, 3) := by decide +kernel
theorem d_Tc_game_5 : decode cX8_game 5 = .ok (.ifCond .ne 5, 3) := by decide +kernel
theorem d_Tc_game_8 : decode cX8_game 8 = .ok (.iconst (-1), 1) := by decide +kernel
theorem d_Tc_game_9 : decode cX8_game 9 = .ok (.ireturn, 1) := by decide +kernel
theorem d_Tc_game_10 : decode cX8_game 10 = .ok (.aload_n 0, 1) := by decide +kernel
theorem d_Tc_game_11 : decode cX8_game 11 = .ok (.getfield 10, 3) := by decide +kernel
theorem d_Tc_game_14 : decode cX8_game 14 = .ok (.getfield 47, 3) := by decide +kernel
theorem d_Tc_game_17 : decode cX8_game 17 = .ok (.invokevirtual 333, 3) := by decide +kernel
theorem d_Tc_game_20 : decode cX8_game 20 = .ok (.istore_n 2, 1) := by decide +kernel
theorem d_Tc_game_21 : decode cX8_game 21 = .ok (.iload_n 1, 1) := by decide +kernel
theorem d_Tc_game_22 : decode cX8_game 22 = .ok (.ifCond .eq 8, 3) := by decide +kernel
theorem d_Tc_game_25 : decode cX8_game 25 = .ok (.iload_n 2, 1) := by decide +kernel
theorem d_Tc_game_26 : decode cX8_game 26 = .ok (.iconst (-1), 1) := by decide +kernel
theorem d_Tc_game_27 : decode cX8_game 27 = .ok (.if_icmp .ne 7, 3) := by decide +kernel
theorem d_Tc_game_30 : decode cX8_game 30 = .ok (.iload_n 2, 1) := by decide +kernel
theorem d_Tc_game_31 : decode cX8_game 31 = .ok (.goto 14, 3) := by decide +kernel
theorem d_Tc_game_34 : decode cX8_game 34 = .ok (.aload_n 0, 1) := by decide +kernel
theorem d_Tc_game_35 : decode cX8_game 35 = .ok (.getfield 10, 3) := by decide +kernel
theorem d_Tc_game_38 : decode cX8_game 38 = .ok (.getfield 47, 3) := by decide +kernel
theorem d_Tc_game_41 : decode cX8_game 41 = .ok (.iload_n 2, 1) := by decide +kernel
theorem d_Tc_game_42 : decode cX8_game 42 = .ok (.invokevirtual 336, 3) := by decide +kernel
theorem d_Tc_game_45 : decode cX8_game 45 = .ok (.ireturn, 1) := by decide +kernel
theorem d_Log_giveBack_0 : decode cX3_giveBack 0 = .ok (.aload_n 0, 1) := by decide +kernel
theorem d_Log_giveBack_1 : decode cX3_giveBack 1 = .ok (.getfield 21, 3) := by decide +kernel
theorem d_Log_giveBack_4 : decode cX3_giveBack 4 = .ok (.ifCond .ne 5, 3) := by decide +kernel
theorem d_Log_giveBack_7 : decode cX3_giveBack 7 = .ok (.iconst 0, 1) := by decide +kernel
theorem d_Log_giveBack_8 : decode cX3_giveBack 8 = .ok (.ireturn, 1) := by decide +kernel
theorem d_Log_giveBack_9 : decode cX3_giveBack 9 = .ok (.aload_n 0, 1) := by decide +kernel
theorem d_Log_giveBack_10 : decode cX3_giveBack 10 = .ok (.aload_n 0, 1) := by decide +kernel
theorem d_Log_giveBack_11 : decode cX3_giveBack 11 = .ok (.getfield 17, 3) := by decide +kernel
theorem d_Log_giveBack_14 : decode cX3_giveBack 14 = .ok (.bipush 6, 2) := by decide +kernel
theorem d_Log_giveBack_16 : decode cX3_giveBack 16 = .ok (.iadd, 1) := by decide +kernel
theorem d_Log_giveBack_17 : decode cX3_giveBack 17 = .ok (.iconst 1, 1) := by decide +kernel
theorem d_Log_giveBack_18 : decode cX3_giveBack 18 = .ok (.isub, 1) := by decide +kernel
theorem d_Log_giveBack_19 : decode cX3_giveBack 19 = .ok (.bipush 6, 2) := by decide +kernel
theorem d_Log_giveBack_21 : decode cX3_giveBack 21 = .ok (.irem, 1) := by decide +kernel
theorem d_Log_giveBack_22 : decode cX3_giveBack 22 = .ok (.putfield 17, 3) := by decide +kernel
theorem d_Log_giveBack_25 : decode cX3_giveBack 25 = .ok (.aload_n 0, 1) := by decide +kernel
theorem d_Log_giveBack_26 : decode cX3_giveBack 26 = .ok (.dup, 1) := by decide +kernel
theorem d_Log_giveBack_27 : decode cX3_giveBack 27 = .ok (.getfield 21, 3) := by decide +kernel
theorem d_Log_giveBack_30 : decode cX3_giveBack 30 = .ok (.iconst 1, 1) := by decide +kernel
theorem d_Log_giveBack_31 : decode cX3_giveBack 31 = .ok (.isub, 1) := by decide +kernel
theorem d_Log_giveBack_32 : decode cX3_giveBack 32 = .ok (.putfield 21, 3) := by decide +kernel
theorem d_Log_giveBack_35 : decode cX3_giveBack 35 = .ok (.aload_n 0, 1) := by decide +kernel
theorem d_Log_giveBack_36 : decode cX3_giveBack 36 = .ok (.getfield 11, 3) := by decide +kernel
theorem d_Log_giveBack_39 : decode cX3_giveBack 39 = .ok (.aload_n 0, 1) := by decide +kernel
theorem d_Log_giveBack_40 : decode cX3_giveBack 40 = .ok (.getfield 17, 3) := by decide +kernel
theorem d_Log_giveBack_43 : decode cX3_giveBack 43 = .ok (.aaload, 1) := by decide +kernel
theorem d_Log_giveBack_44 : decode cX3_giveBack 44 = .ok (.astore_n 2, 1) := by decide +kernel
theorem d_Log_giveBack_45 : decode cX3_giveBack 45 = .ok (.aload_n 2, 1) := by decide +kernel
theorem d_Log_giveBack_46 : decode cX3_giveBack 46 = .ok (.ifnull 8, 3) := by decide +kernel
theorem d_Log_giveBack_49 : decode cX3_giveBack 49 = .ok (.aload_n 1, 1) := by decide +kernel
theorem d_Log_giveBack_50 : decode cX3_giveBack 50 = .ok (.aload_n 2, 1) := by decide +kernel
theorem d_Log_giveBack_51 : decode cX3_giveBack 51 = .ok (.invokevirtual 25, 3) := by decide +kernel
theorem d_Log_giveBack_54 : decode cX3_giveBack 54 = .ok (.iconst 1, 1) := by decide +kernel
theorem d_Log_giveBack_55 : decode cX3_giveBack 55 = .ok (.ireturn, 1) := by decide +kernel
theorem d_Tc_undo_0 : decode cX8_undo 0 = .ok (.aload_n 0, 1) := by decide +kernel
theorem d_Tc_undo_1 : decode cX8_undo 1 = .ok (.getfield 19, 3) := by decide +kernel
theorem d_Tc_undo_4 : decode cX8_undo 4 = .ok (.aload_n 0, 1) := by decide +kernel
theorem d_Tc_undo_5 : decode cX8_undo 5 = .ok (.getfield 10, 3) := by decide +kernel
theorem d_Tc_undo_8 : decode cX8_undo 8 = .ok (.getfield 47, 3) := by decide +kernel
theorem d_Tc_undo_11 : decode cX8_undo 11 = .ok (.invokevirtual 339, 3) := by decide +kernel
theorem d_Tc_undo_14 : decode cX8_undo 14 = .ok (.ireturn, 1) := by decide +kernel
theorem d_Told_copyFrom_0 : decode cX7_copyFrom 0 = .ok (.aload_n 0, 1) := by decide +kernel
theorem d_Told_copyFrom_1 : decode cX7_copyFrom 1 = .ok (.getfield 14, 3) := by decide +kernel
theorem d_Told_copyFrom_4 : decode cX7_copyFrom 4 = .ok (.aload_n 1, 1) := by decide +kernel
theorem d_Told_copyFrom_5 : decode cX7_copyFrom 5 = .ok (.getfield 14, 3) := by decide +kernel
theorem d_Told_copyFrom_8 : decode cX7_copyFrom 8 = .ok (.invokevirtual 49, 3) := by decide +kernel
theorem d_Told_copyFrom_11 : decode cX7_copyFrom 11 = .ok (.aload_n 0, 1) := by decide +kernel
theorem d_Told_copyFrom_12 : decode cX7_copyFrom 12 = .ok (.getfield 20, 3) := by decide +kernel
theorem d_Told_copyFrom_15 : decode cX7_copyFrom 15 = .ok (.aload_n 1, 1) := by decide +kernel
theorem d_Told_copyFrom_16 : decode cX7_copyFrom 16 = .ok (.getfield 20, 3) := by decide +kernel
theorem d_Told_copyFrom_19 : decode cX7_copyFrom 19 = .ok (.invokevirtual 49, 3) := by decide +kernel
theorem d_Told_copyFrom_22 : decode cX7_copyFrom 22 = .ok (.aload_n 0, 1) := by decide +kernel
theorem d_Told_copyFrom_23 : decode cX7_copyFrom 23 = .ok (.getfield 23, 3) := by decide +kernel
theorem d_Told_copyFrom_26 : decode cX7_copyFrom 26 = .ok (.aload_n 1, 1) := by decide +kernel
theorem d_Told_copyFrom_27 : decode cX7_copyFrom 27 = .ok (.getfield 23, 3) := by decide +kernel
theorem d_Told_copyFrom_30 : decode cX7_copyFrom 30 = .ok (.invokevirtual 49, 3) := by decide +kernel
theorem d_Told_copyFrom_33 : decode cX7_copyFrom 33 = .ok (.aload_n 0, 1) := by decide +kernel
theorem d_Told_copyFrom_34 : decode cX7_copyFrom 34 = .ok (.getfield 26, 3) := by decide +kernel
theorem d_Told_copyFrom_37 : decode cX7_copyFrom 37 = .ok (.aload_n 1, 1) := by decide +kernel
theorem d_Told_copyFrom_38 : decode cX7_copyFrom 38 = .ok (.getfield 26, 3) := by decide +kernel
theorem d_Told_copyFrom_41 : decode cX7_copyFrom 41 = .ok (.invokevirtual 49, 3) := by decide +kernel
theorem d_Told_copyFrom_44 : decode cX7_copyFrom 44 = .ok (.aload_n 0, 1) := by decide +kernel
theorem d_Told_copyFrom_45 : decode cX7_copyFrom 45 = .ok (.getfield 29, 3) := by decide +kernel
theorem d_Told_copyFrom_48 : decode cX7_copyFrom 48 = .ok (.aload_n 1, 1) := by decide +kernel
theorem d_Told_copyFrom_49 : decode cX7_copyFrom 49 = .ok (.getfield 29, 3) := by decide +kernel
theorem d_Told_copyFrom_52 : decode cX7_copyFrom 52 = .ok (.invokevirtual 49, 3) := by decide +kernel
theorem d_Told_copyFrom_55 : decode cX7_copyFrom 55 = .ok (.aload_n 0, 1) := by decide +kernel
theorem d_Told_copyFrom_56 : decode cX7_copyFrom 56 = .ok (.getfield 32, 3) := by decide +kernel
theorem d_Told_copyFrom_59 : decode cX7_copyFrom 59 = .ok (.aload_n 1, 1) := by decide +kernel
theorem d_Told_copyFrom_60 : decode cX7_copyFrom 60 = .ok (.getfield 32, 3) := by decide +kernel
theorem d_Told_copyFrom_63 : decode cX7_copyFrom 63 = .ok (.invokevirtual 49, 3) := by decide +kernel
theorem d_Told_copyFrom_66 : decode cX7_copyFrom 66 = .ok (.aload_n 1, 1) := by decide +kernel
theorem d_Told_copyFrom_67 : decode cX7_copyFrom 67 = .ok (.getfield 35, 3) := by decide +kernel
theorem d_Told_copyFrom_70 : decode cX7_copyFrom 70 = .ok (.iconst 0, 1) := by decide +kernel
theorem d_Told_copyFrom_71 : decode cX7_copyFrom 71 = .ok (.aload_n 0, 1) := by decide +kernel
theorem d_Told_copyFrom_72 : decode cX7_copyFrom 72 = .ok (.getfield 35, 3) := by decide +kernel
theorem d_Told_copyFrom_75 : decode cX7_copyFrom 75 = .ok (.iconst 0, 1) := by decide +kernel
theorem d_Told_copyFrom_76 : decode cX7_copyFrom 76 = .ok (.bipush 24, 2) := by decide +kernel
theorem d_Told_copyFrom_78 : decode cX7_copyFrom 78 = .ok (.invokestatic 53, 3) := by decide +kernel
theorem d_Told_copyFrom_81 : decode cX7_copyFrom 81 = .ok (.aload_n 1, 1) := by decide +kernel
theorem d_Told_copyFrom_82 : decode cX7_copyFrom 82 = .ok (.getfield 39, 3) := by decide +kernel
theorem d_Told_copyFrom_85 : decode cX7_copyFrom 85 = .ok (.iconst 0, 1) := by decide +kernel
theorem d_Told_copyFrom_86 : decode cX7_copyFrom 86 = .ok (.aload_n 0, 1) := by decide +kernel
theorem d_Told_copyFrom_87 : decode cX7_copyFrom 87 = .ok (.getfield 39, 3) := by decide +kernel
theorem d_Told_copyFrom_90 : decode cX7_copyFrom 90 = .ok (.iconst 0, 1) := by decide +kernel
theorem d_Told_copyFrom_91 : decode cX7_copyFrom 91 = .ok (.bipush 24, 2) := by decide +kernel
theorem d_Told_copyFrom_93 : decode cX7_copyFrom 93 = .ok (.invokestatic 53, 3) := by decide +kernel
theorem d_Told_copyFrom_96 : decode cX7_copyFrom 96 = .ok (.aload_n 0, 1) := by decide +kernel
theorem d_Told_copyFrom_97 : decode cX7_copyFrom 97 = .ok (.aload_n 1, 1) := by decide +kernel
theorem d_Told_copyFrom_98 : decode cX7_copyFrom 98 = .ok (.getfield 42, 3) := by decide +kernel
theorem d_Told_copyFrom_101 : decode cX7_copyFrom 101 = .ok (.putfield 42, 3) := by decide +kernel
theorem d_Told_copyFrom_104 : decode cX7_copyFrom 104 = .ok (.aload_n 0, 1) := by decide +kernel
theorem d_Told_copyFrom_105 : decode cX7_copyFrom 105 = .ok (.aload_n 1, 1) := by decide +kernel
theorem d_Told_copyFrom_106 : decode cX7_copyFrom 106 = .ok (.getfield 46, 3) := by decide +kernel
theorem d_Told_copyFrom_109 : decode cX7_copyFrom 109 = .ok (.putfield 46, 3) := by decide +kernel
theorem d_Told_copyFrom_112 : decode cX7_copyFrom 112 = .ok (.return_, 1) := by decide +kernel
theorem d_Land_copyFrom_0 : decode cX1_copyFrom 0 = .ok (.aload_n 0, 1) := by decide +kernel
theorem d_Land_copyFrom_1 : decode cX1_copyFrom 1 = .ok (.getfield 12, 3) := by decide +kernel
theorem d_Land_copyFrom_4 : decode cX1_copyFrom 4 = .ok (.aload_n 1, 1) := by decide +kernel
theorem d_Land_copyFrom_5 : decode cX1_copyFrom 5 = .ok (.getfield 12, 3) := by decide +kernel
theorem d_Land_copyFrom_8 : decode cX1_copyFrom 8 = .ok (.invokevirtual 51, 3) := by decide +kernel
theorem d_Land_copyFrom_11 : decode cX1_copyFrom 11 = .ok (.aload_n 1, 1) := by decide +kernel
theorem d_Land_copyFrom_12 : decode cX1_copyFrom 12 = .ok (.getfield 18, 3) := by decide +kernel
theorem d_Land_copyFrom_15 : decode cX1_copyFrom 15 = .ok (.iconst 0, 1) := by decide +kernel
theorem d_Land_copyFrom_16 : decode cX1_copyFrom 16 = .ok (.aload_n 0, 1) := by decide +kernel
theorem d_Land_copyFrom_17 : decode cX1_copyFrom 17 = .ok (.getfield 18, 3) := by decide +kernel
theorem d_Land_copyFrom_20 : decode cX1_copyFrom 20 = .ok (.iconst 0, 1) := by decide +kernel
theorem d_Land_copyFrom_21 : decode cX1_copyFrom 21 = .ok (.sipush 600, 3) := by decide +kernel
theorem d_Land_copyFrom_24 : decode cX1_copyFrom 24 = .ok (.invokestatic 55, 3) := by decide +kernel
theorem d_Land_copyFrom_27 : decode cX1_copyFrom 27 = .ok (.aload_n 0, 1) := by decide +kernel
theorem d_Land_copyFrom_28 : decode cX1_copyFrom 28 = .ok (.getfield 25, 3) := by decide +kernel
theorem d_Land_copyFrom_31 : decode cX1_copyFrom 31 = .ok (.aload_n 1, 1) := by decide +kernel
theorem d_Land_copyFrom_32 : decode cX1_copyFrom 32 = .ok (.getfield 25, 3) := by decide +kernel
theorem d_Land_copyFrom_35 : decode cX1_copyFrom 35 = .ok (.invokevirtual 61, 3) := by decide +kernel
theorem d_Land_copyFrom_38 : decode cX1_copyFrom 38 = .ok (.aload_n 0, 1) := by decide +kernel
theorem d_Land_copyFrom_39 : decode cX1_copyFrom 39 = .ok (.getfield 34, 3) := by decide +kernel
theorem d_Land_copyFrom_42 : decode cX1_copyFrom 42 = .ok (.aload_n 1, 1) := by decide +kernel
theorem d_Land_copyFrom_43 : decode cX1_copyFrom 43 = .ok (.getfield 34, 3) := by decide +kernel
theorem d_Land_copyFrom_46 : decode cX1_copyFrom 46 = .ok (.invokevirtual 64, 3) := by decide +kernel
theorem d_Land_copyFrom_49 : decode cX1_copyFrom 49 = .ok (.aload_n 0, 1) := by decide +kernel
theorem d_Land_copyFrom_50 : decode cX1_copyFrom 50 = .ok (.getfield 38, 3) := by decide +kernel
theorem d_Land_copyFrom_53 : decode cX1_copyFrom 53 = .ok (.aload_n 1, 1) := by decide +kernel
theorem d_Land_copyFrom_54 : decode cX1_copyFrom 54 = .ok (.getfield 38, 3) := by decide +kernel
theorem d_Land_copyFrom_57 : decode cX1_copyFrom 57 = .ok (.invokevirtual 64, 3) := by decide +kernel
theorem d_Land_copyFrom_60 : decode cX1_copyFrom 60 = .ok (.aload_n 0, 1) := by decide +kernel
theorem d_Land_copyFrom_61 : decode cX1_copyFrom 61 = .ok (.getfield 41, 3) := by decide +kernel
theorem d_Land_copyFrom_64 : decode cX1_copyFrom 64 = .ok (.aload_n 1, 1) := by decide +kernel
theorem d_Land_copyFrom_65 : decode cX1_copyFrom 65 = .ok (.getfield 41, 3) := by decide +kernel
theorem d_Land_copyFrom_68 : decode cX1_copyFrom 68 = .ok (.invokevirtual 64, 3) := by decide +kernel
theorem d_Land_copyFrom_71 : decode cX1_copyFrom 71 = .ok (.aload_n 0, 1) := by decide +kernel
theorem d_Land_copyFrom_72 : decode cX1_copyFrom 72 = .ok (.getfield 47, 3) := by decide +kernel
theorem d_Land_copyFrom_75 : decode cX1_copyFrom 75 = .ok (.aload_n 1, 1) := by decide +kernel
theorem d_Land_copyFrom_76 : decode cX1_copyFrom 76 = .ok (.getfield 47, 3) := by decide +kernel
theorem d_Land_copyFrom_79 : decode cX1_copyFrom 79 = .ok (.invokevirtual 67, 3) := by decide +kernel
theorem d_Land_copyFrom_82 : decode cX1_copyFrom 82 = .ok (.return_, 1) := by decide +kernel
theorem d_Tc_image_0 : decode cX8_image 0 = .ok (.iload_n 1, 1) := by decide +kernel
theorem d_Tc_image_1 : decode cX8_image 1 = .ok (.ifCond .eq 34, 3) := by decide +kernel
theorem d_Tc_image_4 : decode cX8_image 4 = .ok (.aload_n 0, 1) := by decide +kernel
theorem d_Tc_image_5 : decode cX8_image 5 = .ok (.getfield 44, 3) := by decide +kernel
theorem d_Tc_image_8 : decode cX8_image 8 = .ok (.ifnonnull 14, 3) := by decide +kernel
theorem d_Tc_image_11 : decode cX8_image 11 = .ok (.aload_n 0, 1) := by decide +kernel
theorem d_Tc_image_12 : decode cX8_image 12 = .ok (.new 7, 3) := by decide +kernel
theorem d_Tc_image_15 : decode cX8_image 15 = .ok (.dup, 1) := by decide +kernel
theorem d_Tc_image_16 : decode cX8_image 16 = .ok (.invokespecial 9, 3) := by decide +kernel
theorem d_Tc_image_19 : decode cX8_image 19 = .ok (.putfield 44, 3) := by decide +kernel
theorem d_Tc_image_22 : decode cX8_image 22 = .ok (.aload_n 0, 1) := by decide +kernel
theorem d_Tc_image_23 : decode cX8_image 23 = .ok (.getfield 44, 3) := by decide +kernel
theorem d_Tc_image_26 : decode cX8_image 26 = .ok (.aload_n 0, 1) := by decide +kernel
theorem d_Tc_image_27 : decode cX8_image 27 = .ok (.getfield 10, 3) := by decide +kernel
theorem d_Tc_image_30 : decode cX8_image 30 = .ok (.invokevirtual 343, 3) := by decide +kernel
theorem d_Tc_image_33 : decode cX8_image 33 = .ok (.iconst 1, 1) := by decide +kernel
theorem d_Tc_image_34 : decode cX8_image 34 = .ok (.ireturn, 1) := by decide +kernel
theorem d_Tc_image_35 : decode cX8_image 35 = .ok (.aload_n 0, 1) := by decide +kernel
theorem d_Tc_image_36 : decode cX8_image 36 = .ok (.getfield 44, 3) := by decide +kernel
theorem d_Tc_image_39 : decode cX8_image 39 = .ok (.ifnonnull 5, 3) := by decide +kernel
theorem d_Tc_image_42 : decode cX8_image 42 = .ok (.iconst 0, 1) := by decide +kernel
theorem d_Tc_image_43 : decode cX8_image 43 = .ok (.ireturn, 1) := by decide +kernel
theorem d_Tc_image_44 : decode cX8_image 44 = .ok (.aload_n 0, 1) := by decide +kernel
theorem d_Tc_image_45 : decode cX8_image 45 = .ok (.getfield 10, 3) := by decide +kernel
theorem d_Tc_image_48 : decode cX8_image 48 = .ok (.aload_n 0, 1) := by decide +kernel
theorem d_Tc_image_49 : decode cX8_image 49 = .ok (.getfield 44, 3) := by decide +kernel
theorem d_Tc_image_52 : decode cX8_image 52 = .ok (.invokevirtual 343, 3) := by decide +kernel
theorem d_Tc_image_55 : decode cX8_image 55 = .ok (.aload_n 0, 1) := by decide +kernel
theorem d_Tc_image_56 : decode cX8_image 56 = .ok (.getfield 19, 3) := by decide +kernel
theorem d_Tc_image_59 : decode cX8_image 59 = .ok (.invokevirtual 54, 3) := by decide +kernel
theorem d_Tc_image_62 : decode cX8_image 62 = .ok (.iconst 1, 1) := by decide +kernel
theorem d_Tc_image_63 : decode cX8_image 63 = .ok (.ireturn, 1) := by decide +kernel
theorem d_Tc_look_0 : decode cX8_look 0 = .ok (.aload_n 0, 1) := by decide +kernel
theorem d_Tc_look_1 : decode cX8_look 1 = .ok (.getfield 10, 3) := by decide +kernel
theorem d_Tc_look_4 : decode cX8_look 4 = .ok (.getfield 47, 3) := by decide +kernel
theorem d_Tc_look_7 : decode cX8_look 7 = .ok (.astore_n 2, 1) := by decide +kernel
theorem d_Tc_look_8 : decode cX8_look 8 = .ok (.iload_n 1, 1) := by decide +kernel
theorem d_Tc_look_9 : decode cX8_look 9 = .ok (.tableswitch 180 0 14 #[75, 80, 85, 90, 95, 100, 105, 110, 115, 120, 125, 139, 150, 161, 172], 75) := by decide +kernel
theorem d_Tc_look_84 : decode cX8_look 84 = .ok (.aload_n 2, 1) := by decide +kernel
theorem d_Tc_look_85 : decode cX8_look 85 = .ok (.getfield 120, 3) := by decide +kernel
theorem d_Tc_look_88 : decode cX8_look 88 = .ok (.ireturn, 1) := by decide +kernel
theorem d_Tc_look_89 : decode cX8_look 89 = .ok (.aload_n 2, 1) := by decide +kernel
theorem d_Tc_look_90 : decode cX8_look 90 = .ok (.getfield 123, 3) := by decide +kernel
theorem d_Tc_look_93 : decode cX8_look 93 = .ok (.ireturn, 1) := by decide +kernel
theorem d_Tc_look_94 : decode cX8_look 94 = .ok (.aload_n 2, 1) := by decide +kernel
theorem d_Tc_look_95 : decode cX8_look 95 = .ok (.getfield 97, 3) := by decide +kernel
theorem d_Tc_look_98 : decode cX8_look 98 = .ok (.ireturn, 1) := by decide +kernel
theorem d_Tc_look_99 : decode cX8_look 99 = .ok (.aload_n 2, 1) := by decide +kernel
theorem d_Tc_look_100 : decode cX8_look 100 = .ok (.getfield 217, 3) := by decide +kernel
theorem d_Tc_look_103 : decode cX8_look 103 = .ok (.ireturn, 1) := by decide +kernel
theorem d_Tc_look_104 : decode cX8_look 104 = .ok (.aload_n 2, 1) := by decide +kernel
theorem d_Tc_look_105 : decode cX8_look 105 = .ok (.getfield 220, 3) := by decide +kernel
theorem d_Tc_look_108 : decode cX8_look 108 = .ok (.ireturn, 1) := by decide +kernel
theorem d_Tc_look_109 : decode cX8_look 109 = .ok (.aload_n 2, 1) := by decide +kernel
theorem d_Tc_look_110 : decode cX8_look 110 = .ok (.getfield 346, 3) := by decide +kernel
theorem d_Tc_look_113 : decode cX8_look 113 = .ok (.ireturn, 1) := by decide +kernel
theorem d_Tc_look_114 : decode cX8_look 114 = .ok (.aload_n 2, 1) := by decide +kernel
theorem d_Tc_look_115 : decode cX8_look 115 = .ok (.getfield 349, 3) := by decide +kernel
theorem d_Tc_look_118 : decode cX8_look 118 = .ok (.ireturn, 1) := by decide +kernel
theorem d_Tc_look_119 : decode cX8_look 119 = .ok (.aload_n 2, 1) := by decide +kernel
theorem d_Tc_look_120 : decode cX8_look 120 = .ok (.getfield 100, 3) := by decide +kernel
theorem d_Tc_look_123 : decode cX8_look 123 = .ok (.ireturn, 1) := by decide +kernel
theorem d_Tc_look_124 : decode cX8_look 124 = .ok (.aload_n 2, 1) := by decide +kernel
theorem d_Tc_look_125 : decode cX8_look 125 = .ok (.getfield 209, 3) := by decide +kernel
theorem d_Tc_look_128 : decode cX8_look 128 = .ok (.ireturn, 1) := by decide +kernel
theorem d_Tc_look_129 : decode cX8_look 129 = .ok (.aload_n 2, 1) := by decide +kernel
theorem d_Tc_look_130 : decode cX8_look 130 = .ok (.getfield 50, 3) := by decide +kernel
theorem d_Tc_look_133 : decode cX8_look 133 = .ok (.ireturn, 1) := by decide +kernel
theorem d_Tc_look_134 : decode cX8_look 134 = .ok (.aload_n 0, 1) := by decide +kernel
theorem d_Tc_look_135 : decode cX8_look 135 = .ok (.getfield 10, 3) := by decide +kernel
theorem d_Tc_look_138 : decode cX8_look 138 = .ok (.getfield 129, 3) := by decide +kernel
theorem d_Tc_look_141 : decode cX8_look 141 = .ok (.getfield 140, 3) := by decide +kernel
theorem d_Tc_look_144 : decode cX8_look 144 = .ok (.getfield 144, 3) := by decide +kernel
theorem d_Tc_look_147 : decode cX8_look 147 = .ok (.ireturn, 1) := by decide +kernel
theorem d_Tc_look_148 : decode cX8_look 148 = .ok (.aload_n 0, 1) := by decide +kernel
theorem d_Tc_look_149 : decode cX8_look 149 = .ok (.getfield 10, 3) := by decide +kernel
theorem d_Tc_look_152 : decode cX8_look 152 = .ok (.getfield 149, 3) := by decide +kernel
theorem d_Tc_look_155 : decode cX8_look 155 = .ok (.getfield 144, 3) := by decide +kernel
theorem d_Tc_look_158 : decode cX8_look 158 = .ok (.ireturn, 1) := by decide +kernel
theorem d_Tc_look_159 : decode cX8_look 159 = .ok (.aload_n 0, 1) := by decide +kernel
theorem d_Tc_look_160 : decode cX8_look 160 = .ok (.getfield 10, 3) := by decide +kernel
theorem d_Tc_look_163 : decode cX8_look 163 = .ok (.getfield 152, 3) := by decide +kernel
theorem d_Tc_look_166 : decode cX8_look 166 = .ok (.getfield 144, 3) := by decide +kernel
theorem d_Tc_look_169 : decode cX8_look 169 = .ok (.ireturn, 1) := by decide +kernel
theorem d_Tc_look_170 : decode cX8_look 170 = .ok (.aload_n 0, 1) := by decide +kernel
theorem d_Tc_look_171 : decode cX8_look 171 = .ok (.getfield 10, 3) := by decide +kernel
theorem d_Tc_look_174 : decode cX8_look 174 = .ok (.getfield 155, 3) := by decide +kernel
theorem d_Tc_look_177 : decode cX8_look 177 = .ok (.getfield 144, 3) := by decide +kernel
theorem d_Tc_look_180 : decode cX8_look 180 = .ok (.ireturn, 1) := by decide +kernel
theorem d_Tc_look_181 : decode cX8_look 181 = .ok (.aload_n 0, 1) := by decide +kernel
theorem d_Tc_look_182 : decode cX8_look 182 = .ok (.getfield 19, 3) := by decide +kernel
theorem d_Tc_look_185 : decode cX8_look 185 = .ok (.getfield 352, 3) := by decide +kernel
theorem d_Tc_look_188 : decode cX8_look 188 = .ok (.ireturn, 1) := by decide +kernel
theorem d_Tc_look_189 : decode cX8_look 189 = .ok (.ldc_w 353, 3) := by decide +kernel
theorem d_Tc_look_192 : decode cX8_look 192 = .ok (.ireturn, 1) := by decide +kernel
theorem d_Mo_init_0 : decode cX9_init 0 = .ok (.aload_n 0, 1) := by decide +kernel
theorem d_Mo_init_1 : decode cX9_init 1 = .ok (.invokespecial 1, 3) := by decide +kernel
theorem d_Mo_init_4 : decode cX9_init 4 = .ok (.aload_n 0, 1) := by decide +kernel
theorem d_Mo_init_5 : decode cX9_init 5 = .ok (.bipush 79, 2) := by decide +kernel
theorem d_Mo_init_7 : decode cX9_init 7 = .ok (.newarray .int, 2) := by decide +kernel
theorem d_Mo_init_9 : decode cX9_init 9 = .ok (.putfield 7, 3) := by decide +kernel
theorem d_Mo_init_12 : decode cX9_init 12 = .ok (.aload_n 0, 1) := by decide +kernel
theorem d_Mo_init_13 : decode cX9_init 13 = .ok (.sipush 474, 3) := by decide +kernel
theorem d_Mo_init_16 : decode cX9_init 16 = .ok (.newarray .int, 2) := by decide +kernel
theorem d_Mo_init_18 : decode cX9_init 18 = .ok (.putfield 13, 3) := by decide +kernel
theorem d_Mo_init_21 : decode cX9_init 21 = .ok (.aload_n 0, 1) := by decide +kernel
theorem d_Mo_init_22 : decode cX9_init 22 = .ok (.bipush 79, 2) := by decide +kernel
theorem d_Mo_init_24 : decode cX9_init 24 = .ok (.newarray .int, 2) := by decide +kernel
theorem d_Mo_init_26 : decode cX9_init 26 = .ok (.putfield 16, 3) := by decide +kernel
theorem d_Mo_init_29 : decode cX9_init 29 = .ok (.aload_n 0, 1) := by decide +kernel
theorem d_Mo_init_30 : decode cX9_init 30 = .ok (.bipush 12, 2) := by decide +kernel
theorem d_Mo_init_32 : decode cX9_init 32 = .ok (.newarray .int, 2) := by decide +kernel
theorem d_Mo_init_34 : decode cX9_init 34 = .ok (.putfield 19, 3) := by decide +kernel
theorem d_Mo_init_37 : decode cX9_init 37 = .ok (.aload_n 0, 1) := by decide +kernel
theorem d_Mo_init_38 : decode cX9_init 38 = .ok (.bipush 12, 2) := by decide +kernel
theorem d_Mo_init_40 : decode cX9_init 40 = .ok (.newarray .int, 2) := by decide +kernel
theorem d_Mo_init_42 : decode cX9_init 42 = .ok (.putfield 22, 3) := by decide +kernel
theorem d_Mo_init_45 : decode cX9_init 45 = .ok (.aload_n 0, 1) := by decide +kernel
theorem d_Mo_init_46 : decode cX9_init 46 = .ok (.bipush 6, 2) := by decide +kernel
theorem d_Mo_init_48 : decode cX9_init 48 = .ok (.newarray .int, 2) := by decide +kernel
theorem d_Mo_init_50 : decode cX9_init 50 = .ok (.putfield 25, 3) := by decide +kernel
theorem d_Mo_init_53 : decode cX9_init 53 = .ok (.aload_n 0, 1) := by decide +kernel
theorem d_Mo_init_54 : decode cX9_init 54 = .ok (.bipush 6, 2) := by decide +kernel
theorem d_Mo_init_56 : decode cX9_init 56 = .ok (.newarray .int, 2) := by decide +kernel
theorem d_Mo_init_58 : decode cX9_init 58 = .ok (.putfield 28, 3) := by decide +kernel
theorem d_Mo_init_61 : decode cX9_init 61 = .ok (.aload_n 0, 1) := by decide +kernel
theorem d_Mo_init_62 : decode cX9_init 62 = .ok (.sipush 600, 3) := by decide +kernel
theorem d_Mo_init_65 : decode cX9_init 65 = .ok (.newarray .int, 2) := by decide +kernel
theorem d_Mo_init_67 : decode cX9_init 67 = .ok (.putfield 31, 3) := by decide +kernel
theorem d_Mo_init_70 : decode cX9_init 70 = .ok (.aload_n 0, 1) := by decide +kernel
theorem d_Mo_init_71 : decode cX9_init 71 = .ok (.sipush 400, 3) := by decide +kernel
theorem d_Mo_init_74 : decode cX9_init 74 = .ok (.newarray .int, 2) := by decide +kernel
theorem d_Mo_init_76 : decode cX9_init 76 = .ok (.putfield 34, 3) := by decide +kernel
theorem d_Mo_init_79 : decode cX9_init 79 = .ok (.aload_n 0, 1) := by decide +kernel
theorem d_Mo_init_80 : decode cX9_init 80 = .ok (.sipush 144, 3) := by decide +kernel
theorem d_Mo_init_83 : decode cX9_init 83 = .ok (.newarray .int, 2) := by decide +kernel
theorem d_Mo_init_85 : decode cX9_init 85 = .ok (.dup, 1) := by decide +kernel
theorem d_Mo_init_86 : decode cX9_init 86 = .ok (.iconst 0, 1) := by decide +kernel
theorem d_Mo_init_87 : decode cX9_init 87 = .ok (.bipush 32, 2) := by decide +kernel
theorem d_Mo_init_89 : decode cX9_init 89 = .ok (.iastore, 1) := by decide +kernel
theorem d_Mo_init_90 : decode cX9_init 90 = .ok (.dup, 1) := by decide +kernel
theorem d_Mo_init_91 : decode cX9_init 91 = .ok (.iconst 1, 1) := by decide +kernel
theorem d_Mo_init_92 : decode cX9_init 92 = .ok (.bipush 119, 2) := by decide +kernel
theorem d_Mo_init_94 : decode cX9_init 94 = .ok (.iastore, 1) := by decide +kernel
theorem d_Mo_init_95 : decode cX9_init 95 = .ok (.dup, 1) := by decide +kernel
theorem d_Mo_init_96 : decode cX9_init 96 = .ok (.iconst 2, 1) := by decide +kernel
theorem d_Mo_init_97 : decode cX9_init 97 = .ok (.bipush 101, 2) := by decide +kernel
theorem d_Mo_init_99 : decode cX9_init 99 = .ok (.iastore, 1) := by decide +kernel
theorem d_Mo_init_100 : decode cX9_init 100 = .ok (.dup, 1) := by decide +kernel
theorem d_Mo_init_101 : decode cX9_init 101 = .ok (.iconst 3, 1) := by decide +kernel
theorem d_Mo_init_102 : decode cX9_init 102 = .ok (.bipush 101, 2) := by decide +kernel
theorem d_Mo_init_104 : decode cX9_init 104 = .ok (.iastore, 1) := by decide +kernel
theorem d_Mo_init_105 : decode cX9_init 105 = .ok (.dup, 1) := by decide +kernel
theorem d_Mo_init_106 : decode cX9_init 106 = .ok (.iconst 4, 1) := by decide +kernel
theorem d_Mo_init_107 : decode cX9_init 107 = .ok (.bipush 112, 2) := by decide +kernel
theorem d_Mo_init_109 : decode cX9_init 109 = .ok (.iastore, 1) := by decide +kernel
theorem d_Mo_init_110 : decode cX9_init 110 = .ok (.dup, 1) := by decide +kernel
theorem d_Mo_init_111 : decode cX9_init 111 = .ok (.iconst 5, 1) := by decide +kernel
theorem d_Mo_init_112 : decode cX9_init 112 = .ok (.bipush 32, 2) := by decide +kernel
theorem d_Mo_init_114 : decode cX9_init 114 = .ok (.iastore, 1) := by decide +kernel
theorem d_Mo_init_115 : decode cX9_init 115 = .ok (.dup, 1) := by decide +kernel
theorem d_Mo_init_116 : decode cX9_init 116 = .ok (.bipush 6, 2) := by decide +kernel
theorem d_Mo_init_118 : decode cX9_init 118 = .ok (.bipush 114, 2) := by decide +kernel
theorem d_Mo_init_120 : decode cX9_init 120 = .ok (.iastore, 1) := by decide +kernel
theorem d_Mo_init_121 : decode cX9_init 121 = .ok (.dup, 1) := by decide +kernel
theorem d_Mo_init_122 : decode cX9_init 122 = .ok (.bipush 7, 2) := by decide +kernel
theorem d_Mo_init_124 : decode cX9_init 124 = .ok (.bipush 97, 2) := by decide +kernel
theorem d_Mo_init_126 : decode cX9_init 126 = .ok (.iastore, 1) := by decide +kernel
theorem d_Mo_init_127 : decode cX9_init 127 = .ok (.dup, 1) := by decide +kernel
theorem d_Mo_init_128 : decode cX9_init 128 = .ok (.bipush 8, 2) := by decide +kernel
theorem d_Mo_init_130 : decode cX9_init 130 = .ok (.bipush 116, 2) := by decide +kernel
theorem d_Mo_init_132 : decode cX9_init 132 = .ok (.iastore, 1) := by decide +kernel
theorem d_Mo_init_133 : decode cX9_init 133 = .ok (.dup, 1) := by decide +kernel
theorem d_Mo_init_134 : decode cX9_init 134 = .ok (.bipush 9, 2) := by decide +kernel
theorem d_Mo_init_136 : decode cX9_init 136 = .ok (.bipush 101, 2) := by decide +kernel
theorem d_Mo_init_138 : decode cX9_init 138 = .ok (.iastore, 1) := by decide +kernel
theorem d_Mo_init_139 : decode cX9_init 139 = .ok (.dup, 1) := by decide +kernel
theorem d_Mo_init_140 : decode cX9_init 140 = .ok (.bipush 10, 2) := by decide +kernel
theorem d_Mo_init_142 : decode cX9_init 142 = .ok (.bipush 32, 2) := by decide +kernel
theorem d_Mo_init_144 : decode cX9_init 144 = .ok (.iastore, 1) := by decide +kernel
theorem d_Mo_init_145 : decode cX9_init 145 = .ok (.dup, 1) := by decide +kernel
theorem d_Mo_init_146 : decode cX9_init 146 = .ok (.bipush 11, 2) := by decide +kernel
theorem d_Mo_init_148 : decode cX9_init 148 = .ok (.bipush 102, 2) := by decide +kernel
theorem d_Mo_init_150 : decode cX9_init 150 = .ok (.iastore, 1) := by decide +kernel
theorem d_Mo_init_151 : decode cX9_init 151 = .ok (.dup, 1) := by decide +kernel
theorem d_Mo_init_152 : decode cX9_init 152 = .ok (.bipush 12, 2) := by decide +kernel
theorem d_Mo_init_154 : decode cX9_init 154 = .ok (.bipush 105, 2) := by decide +kernel
theorem d_Mo_init_156 : decode cX9_init 156 = .ok (.iastore, 1) := by decide +kernel
theorem d_Mo_init_157 : decode cX9_init 157 = .ok (.dup, 1) := by decide +kernel
theorem d_Mo_init_158 : decode cX9_init 158 = .ok (.bipush 13, 2) := by decide +kernel
theorem d_Mo_init_160 : decode cX9_init 160 = .ok (.bipush 110, 2) := by decide +kernel
theorem d_Mo_init_162 : decode cX9_init 162 = .ok (.iastore, 1) := by decide +kernel
theorem d_Mo_init_163 : decode cX9_init 163 = .ok (.dup, 1) := by decide +kernel
theorem d_Mo_init_164 : decode cX9_init 164 = .ok (.bipush 14, 2) := by decide +kernel
theorem d_Mo_init_166 : decode cX9_init 166 = .ok (.bipush 100, 2) := by decide +kernel
theorem d_Mo_init_168 : decode cX9_init 168 = .ok (.iastore, 1) := by decide +kernel
theorem d_Mo_init_169 : decode cX9_init 169 = .ok (.dup, 1) := by decide +kernel
theorem d_Mo_init_170 : decode cX9_init 170 = .ok (.bipush 15, 2) := by decide +kernel
theorem d_Mo_init_172 : decode cX9_init 172 = .ok (.bipush 32, 2) := by decide +kernel
theorem d_Mo_init_174 : decode cX9_init 174 = .ok (.iastore, 1) := by decide +kernel
theorem d_Mo_init_175 : decode cX9_init 175 = .ok (.dup, 1) := by decide +kernel
theorem d_Mo_init_176 : decode cX9_init 176 = .ok (.bipush 16, 2) := by decide +kernel
theorem d_Mo_init_178 : decode cX9_init 178 = .ok (.bipush 119, 2) := by decide +kernel
theorem d_Mo_init_180 : decode cX9_init 180 = .ok (.iastore, 1) := by decide +kernel
theorem d_Mo_init_181 : decode cX9_init 181 = .ok (.dup, 1) := by decide +kernel
theorem d_Mo_init_182 : decode cX9_init 182 = .ok (.bipush 17, 2) := by decide +kernel
theorem d_Mo_init_184 : decode cX9_init 184 = .ok (.bipush 104, 2) := by decide +kernel
theorem d_Mo_init_186 : decode cX9_init 186 = .ok (.iastore, 1) := by decide +kernel
theorem d_Mo_init_187 : decode cX9_init 187 = .ok (.dup, 1) := by decide +kernel
theorem d_Mo_init_188 : decode cX9_init 188 = .ok (.bipush 18, 2) := by decide +kernel
theorem d_Mo_init_190 : decode cX9_init 190 = .ok (.bipush 101, 2) := by decide +kernel
theorem d_Mo_init_192 : decode cX9_init 192 = .ok (.iastore, 1) := by decide +kernel
theorem d_Mo_init_193 : decode cX9_init 193 = .ok (.dup, 1) := by decide +kernel
theorem d_Mo_init_194 : decode cX9_init 194 = .ok (.bipush 19, 2) := by decide +kernel
theorem d_Mo_init_196 : decode cX9_init 196 = .ok (.bipush 110, 2) := by decide +kernel
theorem d_Mo_init_198 : decode cX9_init 198 = .ok (.iastore, 1) := by decide +kernel
theorem d_Mo_init_199 : decode cX9_init 199 = .ok (.dup, 1) := by decide +kernel
theorem d_Mo_init_200 : decode cX9_init 200 = .ok (.bipush 20, 2) := by decide +kernel
theorem d_Mo_init_202 : decode cX9_init 202 = .ok (.bipush 32, 2) := by decide +kernel
theorem d_Mo_init_204 : decode cX9_init 204 = .ok (.iastore, 1) := by decide +kernel
theorem d_Mo_init_205 : decode cX9_init 205 = .ok (.dup, 1) := by decide +kernel
theorem d_Mo_init_206 : decode cX9_init 206 = .ok (.bipush 21, 2) := by decide +kernel
theorem d_Mo_init_208 : decode cX9_init 208 = .ok (.bipush 111, 2) := by decide +kernel
theorem d_Mo_init_210 : decode cX9_init 210 = .ok (.iastore, 1) := by decide +kernel
theorem d_Mo_init_211 : decode cX9_init 211 = .ok (.dup, 1) := by decide +kernel
theorem d_Mo_init_212 : decode cX9_init 212 = .ok (.bipush 22, 2) := by decide +kernel
theorem d_Mo_init_214 : decode cX9_init 214 = .ok (.bipush 114, 2) := by decide +kernel
theorem d_Mo_init_216 : decode cX9_init 216 = .ok (.iastore, 1) := by decide +kernel
theorem d_Mo_init_217 : decode cX9_init 217 = .ok (.dup, 1) := by decide +kernel
theorem d_Mo_init_218 : decode cX9_init 218 = .ok (.bipush 23, 2) := by decide +kernel
theorem d_Mo_init_220 : decode cX9_init 220 = .ok (.bipush 32, 2) := by decide +kernel
theorem d_Mo_init_222 : decode cX9_init 222 = .ok (.iastore, 1) := by decide +kernel
theorem d_Mo_init_223 : decode cX9_init 223 = .ok (.dup, 1) := by decide +kernel
theorem d_Mo_init_224 : decode cX9_init 224 = .ok (.bipush 24, 2) := by decide +kernel
theorem d_Mo_init_226 : decode cX9_init 226 = .ok (.bipush 97, 2) := by decide +kernel
theorem d_Mo_init_228 : decode cX9_init 228 = .ok (.iastore, 1) := by decide +kernel
theorem d_Mo_init_229 : decode cX9_init 229 = .ok (.dup, 1) := by decide +kernel
theorem d_Mo_init_230 : decode cX9_init 230 = .ok (.bipush 25, 2) := by decide +kernel
theorem d_Mo_init_232 : decode cX9_init 232 = .ok (.bipush 110, 2) := by decide +kernel
theorem d_Mo_init_234 : decode cX9_init 234 = .ok (.iastore, 1) := by decide +kernel
theorem d_Mo_init_235 : decode cX9_init 235 = .ok (.dup, 1) := by decide +kernel
theorem d_Mo_init_236 : decode cX9_init 236 = .ok (.bipush 26, 2) := by decide +kernel
theorem d_Mo_init_238 : decode cX9_init 238 = .ok (.bipush 100, 2) := by decide +kernel
theorem d_Mo_init_240 : decode cX9_init 240 = .ok (.iastore, 1) := by decide +kernel
theorem d_Mo_init_241 : decode cX9_init 241 = .ok (.dup, 1) := by decide +kernel
theorem d_Mo_init_242 : decode cX9_init 242 = .ok (.bipush 27, 2) := by decide +kernel
theorem d_Mo_init_244 : decode cX9_init 244 = .ok (.bipush 32, 2) := by decide +kernel
theorem d_Mo_init_246 : decode cX9_init 246 = .ok (.iastore, 1) := by decide +kernel
theorem d_Mo_init_247 : decode cX9_init 247 = .ok (.dup, 1) := by decide +kernel
theorem d_Mo_init_248 : decode cX9_init 248 = .ok (.bipush 28, 2) := by decide +kernel
theorem d_Mo_init_250 : decode cX9_init 250 = .ok (.bipush 110, 2) := by decide +kernel
theorem d_Mo_init_252 : decode cX9_init 252 = .ok (.iastore, 1) := by decide +kernel
theorem d_Mo_init_253 : decode cX9_init 253 = .ok (.dup, 1) := by decide +kernel
theorem d_Mo_init_254 : decode cX9_init 254 = .ok (.bipush 29, 2) := by decide +kernel
theorem d_Mo_init_256 : decode cX9_init 256 = .ok (.bipush 111, 2) := by decide +kernel
theorem d_Mo_init_258 : decode cX9_init 258 = .ok (.iastore, 1) := by decide +kernel
theorem d_Mo_init_259 : decode cX9_init 259 = .ok (.dup, 1) := by decide +kernel
theorem d_Mo_init_260 : decode cX9_init 260 = .ok (.bipush 30, 2) := by decide +kernel
theorem d_Mo_init_262 : decode cX9_init 262 = .ok (.bipush 116, 2) := by decide +kernel
theorem d_Mo_init_264 : decode cX9_init 264 = .ok (.iastore, 1) := by decide +kernel
theorem d_Mo_init_265 : decode cX9_init 265 = .ok (.dup, 1) := by decide +kernel
theorem d_Mo_init_266 : decode cX9_init 266 = .ok (.bipush 31, 2) := by decide +kernel
theorem d_Mo_init_268 : decode cX9_init 268 = .ok (.bipush 32, 2) := by decide +kernel
theorem d_Mo_init_270 : decode cX9_init 270 = .ok (.iastore, 1) := by decide +kernel
theorem d_Mo_init_271 : decode cX9_init 271 = .ok (.dup, 1) := by decide +kernel
theorem d_Mo_init_272 : decode cX9_init 272 = .ok (.bipush 32, 2) := by decide +kernel
theorem d_Mo_init_274 : decode cX9_init 274 = .ok (.bipush 99, 2) := by decide +kernel
theorem d_Mo_init_276 : decode cX9_init 276 = .ok (.iastore, 1) := by decide +kernel
theorem d_Mo_init_277 : decode cX9_init 277 = .ok (.dup, 1) := by decide +kernel
theorem d_Mo_init_278 : decode cX9_init 278 = .ok (.bipush 33, 2) := by decide +kernel
theorem d_Mo_init_280 : decode cX9_init 280 = .ok (.bipush 97, 2) := by decide +kernel
theorem d_Mo_init_282 : decode cX9_init 282 = .ok (.iastore, 1) := by decide +kernel
theorem d_Mo_init_283 : decode cX9_init 283 = .ok (.dup, 1) := by decide +kernel
theorem d_Mo_init_284 : decode cX9_init 284 = .ok (.bipush 34, 2) := by decide +kernel
theorem d_Mo_init_286 : decode cX9_init 286 = .ok (.bipush 117, 2) := by decide +kernel
theorem d_Mo_init_288 : decode cX9_init 288 = .ok (.iastore, 1) := by decide +kernel
theorem d_Mo_init_289 : decode cX9_init 289 = .ok (.dup, 1) := by decide +kernel
theorem d_Mo_init_290 : decode cX9_init 290 = .ok (.bipush 35, 2) := by decide +kernel
theorem d_Mo_init_292 : decode cX9_init 292 = .ok (.bipush 115, 2) := by decide +kernel
theorem d_Mo_init_294 : decode cX9_init 294 = .ok (.iastore, 1) := by decide +kernel
theorem d_Mo_init_295 : decode cX9_init 295 = .ok (.dup, 1) := by decide +kernel
theorem d_Mo_init_296 : decode cX9_init 296 = .ok (.bipush 36, 2) := by decide +kernel
theorem d_Mo_init_298 : decode cX9_init 298 = .ok (.bipush 101, 2) := by decide +kernel
theorem d_Mo_init_300 : decode cX9_init 300 = .ok (.iastore, 1) := by decide +kernel
theorem d_Mo_init_301 : decode cX9_init 301 = .ok (.dup, 1) := by decide +kernel
theorem d_Mo_init_302 : decode cX9_init 302 = .ok (.bipush 37, 2) := by decide +kernel
theorem d_Mo_init_304 : decode cX9_init 304 = .ok (.bipush 32, 2) := by decide +kernel
theorem d_Mo_init_306 : decode cX9_init 306 = .ok (.iastore, 1) := by decide +kernel
theorem d_Mo_init_307 : decode cX9_init 307 = .ok (.dup, 1) := by decide +kernel
theorem d_Mo_init_308 : decode cX9_init 308 = .ok (.bipush 38, 2) := by decide +kernel
theorem d_Mo_init_310 : decode cX9_init 310 = .ok (.bipush 103, 2) := by decide +kernel
theorem d_Mo_init_312 : decode cX9_init 312 = .ok (.iastore, 1) := by decide +kernel
theorem d_Mo_init_313 : decode cX9_init 313 = .ok (.dup, 1) := by decide +kernel
theorem d_Mo_init_314 : decode cX9_init 314 = .ok (.bipush 39, 2) := by decide +kernel
theorem d_Mo_init_316 : decode cX9_init 316 = .ok (.bipush 114, 2) := by decide +kernel
theorem d_Mo_init_318 : decode cX9_init 318 = .ok (.iastore, 1) := by decide +kernel
theorem d_Mo_init_319 : decode cX9_init 319 = .ok (.dup, 1) := by decide +kernel
theorem d_Mo_init_320 : decode cX9_init 320 = .ok (.bipush 40, 2) := by decide +kernel
theorem d_Mo_init_322 : decode cX9_init 322 = .ok (.bipush 105, 2) := by decide +kernel
theorem d_Mo_init_324 : decode cX9_init 324 = .ok (.iastore, 1) := by decide +kernel
theorem d_Mo_init_325 : decode cX9_init 325 = .ok (.dup, 1) := by decide +kernel
theorem d_Mo_init_326 : decode cX9_init 326 = .ok (.bipush 41, 2) := by decide +kernel
theorem d_Mo_init_328 : decode cX9_init 328 = .ok (.bipush 112, 2) := by decide +kernel
theorem d_Mo_init_330 : decode cX9_init 330 = .ok (.iastore, 1) := by decide +kernel
theorem d_Mo_init_331 : decode cX9_init 331 = .ok (.dup, 1) := by decide +kernel
theorem d_Mo_init_332 : decode cX9_init 332 = .ok (.bipush 42, 2) := by decide +kernel
theorem d_Mo_init_334 : decode cX9_init 334 = .ok (.bipush 32, 2) := by decide +kernel
theorem d_Mo_init_336 : decode cX9_init 336 = .ok (.iastore, 1) := by decide +kernel
theorem d_Mo_init_337 : decode cX9_init 337 = .ok (.dup, 1) := by decide +kernel
theorem d_Mo_init_338 : decode cX9_init 338 = .ok (.bipush 43, 2) := by decide +kernel
theorem d_Mo_init_340 : decode cX9_init 340 = .ok (.bipush 119, 2) := by decide +kernel
theorem d_Mo_init_342 : decode cX9_init 342 = .ok (.iastore, 1) := by decide +kernel
theorem d_Mo_init_343 : decode cX9_init 343 = .ok (.dup, 1) := by decide +kernel
theorem d_Mo_init_344 : decode cX9_init 344 = .ok (.bipush 44, 2) := by decide +kernel
theorem d_Mo_init_346 : decode cX9_init 346 = .ok (.bipush 101, 2) := by decide +kernel
theorem d_Mo_init_348 : decode cX9_init 348 = .ok (.iastore, 1) := by decide +kernel
theorem d_Mo_init_349 : decode cX9_init 349 = .ok (.dup, 1) := by decide +kernel
theorem d_Mo_init_350 : decode cX9_init 350 = .ok (.bipush 45, 2) := by decide +kernel
theorem d_Mo_init_352 : decode cX9_init 352 = .ok (.bipush 116, 2) := by decide +kernel
theorem d_Mo_init_354 : decode cX9_init 354 = .ok (.iastore, 1) := by decide +kernel
theorem d_Mo_init_355 : decode cX9_init 355 = .ok (.dup, 1) := by decide +kernel
theorem d_Mo_init_356 : decode cX9_init 356 = .ok (.bipush 46, 2) := by decide +kernel
theorem d_Mo_init_358 : decode cX9_init 358 = .ok (.bipush 32, 2) := by decide +kernel
theorem d_Mo_init_360 : decode cX9_init 360 = .ok (.iastore, 1) := by decide +kernel
theorem d_Mo_init_361 : decode cX9_init 361 = .ok (.dup, 1) := by decide +kernel
theorem d_Mo_init_362 : decode cX9_init 362 = .ok (.bipush 47, 2) := by decide +kernel
theorem d_Mo_init_364 : decode cX9_init 364 = .ok (.bipush 99, 2) := by decide +kernel
theorem d_Mo_init_366 : decode cX9_init 366 = .ok (.iastore, 1) := by decide +kernel
theorem d_Mo_init_367 : decode cX9_init 367 = .ok (.dup, 1) := by decide +kernel
theorem d_Mo_init_368 : decode cX9_init 368 = .ok (.bipush 48, 2) := by decide +kernel
theorem d_Mo_init_370 : decode cX9_init 370 = .ok (.bipush 111, 2) := by decide +kernel
theorem d_Mo_init_372 : decode cX9_init 372 = .ok (.iastore, 1) := by decide +kernel
theorem d_Mo_init_373 : decode cX9_init 373 = .ok (.dup, 1) := by decide +kernel
theorem d_Mo_init_374 : decode cX9_init 374 = .ok (.bipush 49, 2) := by decide +kernel
theorem d_Mo_init_376 : decode cX9_init 376 = .ok (.bipush 105, 2) := by decide +kernel
theorem d_Mo_init_378 : decode cX9_init 378 = .ok (.iastore, 1) := by decide +kernel
theorem d_Mo_init_379 : decode cX9_init 379 = .ok (.dup, 1) := by decide +kernel
theorem d_Mo_init_380 : decode cX9_init 380 = .ok (.bipush 50, 2) := by decide +kernel
theorem d_Mo_init_382 : decode cX9_init 382 = .ok (.bipush 110, 2) := by decide +kernel
theorem d_Mo_init_384 : decode cX9_init 384 = .ok (.iastore, 1) := by decide +kernel
theorem d_Mo_init_385 : decode cX9_init 385 = .ok (.dup, 1) := by decide +kernel
theorem d_Mo_init_386 : decode cX9_init 386 = .ok (.bipush 51, 2) := by decide +kernel
theorem d_Mo_init_388 : decode cX9_init 388 = .ok (.bipush 32, 2) := by decide +kernel
theorem d_Mo_init_390 : decode cX9_init 390 = .ok (.iastore, 1) := by decide +kernel
theorem d_Mo_init_391 : decode cX9_init 391 = .ok (.dup, 1) := by decide +kernel
theorem d_Mo_init_392 : decode cX9_init 392 = .ok (.bipush 52, 2) := by decide +kernel
theorem d_Mo_init_394 : decode cX9_init 394 = .ok (.bipush 104, 2) := by decide +kernel
theorem d_Mo_init_396 : decode cX9_init 396 = .ok (.iastore, 1) := by decide +kernel
theorem d_Mo_init_397 : decode cX9_init 397 = .ok (.dup, 1) := by decide +kernel
theorem d_Mo_init_398 : decode cX9_init 398 = .ok (.bipush 53, 2) := by decide +kernel
theorem d_Mo_init_400 : decode cX9_init 400 = .ok (.bipush 111, 2) := by decide +kernel
theorem d_Mo_init_402 : decode cX9_init 402 = .ok (.iastore, 1) := by decide +kernel
theorem d_Mo_init_403 : decode cX9_init 403 = .ok (.dup, 1) := by decide +kernel
theorem d_Mo_init_404 : decode cX9_init 404 = .ok (.bipush 54, 2) := by decide +kernel
theorem d_Mo_init_406 : decode cX9_init 406 = .ok (.bipush 117, 2) := by decide +kernel
theorem d_Mo_init_408 : decode cX9_init 408 = .ok (.iastore, 1) := by decide +kernel
theorem d_Mo_init_409 : decode cX9_init 409 = .ok (.dup, 1) := by decide +kernel
theorem d_Mo_init_410 : decode cX9_init 410 = .ok (.bipush 55, 2) := by decide +kernel
theorem d_Mo_init_412 : decode cX9_init 412 = .ok (.bipush 114, 2) := by decide +kernel
theorem d_Mo_init_414 : decode cX9_init 414 = .ok (.iastore, 1) := by decide +kernel
theorem d_Mo_init_415 : decode cX9_init 415 = .ok (.dup, 1) := by decide +kernel
theorem d_Mo_init_416 : decode cX9_init 416 = .ok (.bipush 56, 2) := by decide +kernel
theorem d_Mo_init_418 : decode cX9_init 418 = .ok (.bipush 32, 2) := by decide +kernel
theorem d_Mo_init_420 : decode cX9_init 420 = .ok (.iastore, 1) := by decide +kernel
theorem d_Mo_init_421 : decode cX9_init 421 = .ok (.dup, 1) := by decide +kernel
theorem d_Mo_init_422 : decode cX9_init 422 = .ok (.bipush 57, 2) := by decide +kernel
theorem d_Mo_init_424 : decode cX9_init 424 = .ok (.bipush 103, 2) := by decide +kernel
theorem d_Mo_init_426 : decode cX9_init 426 = .ok (.iastore, 1) := by decide +kernel
theorem d_Mo_init_427 : decode cX9_init 427 = .ok (.dup, 1) := by decide +kernel
theorem d_Mo_init_428 : decode cX9_init 428 = .ok (.bipush 58, 2) := by decide +kernel
theorem d_Mo_init_430 : decode cX9_init 430 = .ok (.bipush 97, 2) := by decide +kernel
theorem d_Mo_init_432 : decode cX9_init 432 = .ok (.iastore, 1) := by decide +kernel
theorem d_Mo_init_433 : decode cX9_init 433 = .ok (.dup, 1) := by decide +kernel
theorem d_Mo_init_434 : decode cX9_init 434 = .ok (.bipush 59, 2) := by decide +kernel
theorem d_Mo_init_436 : decode cX9_init 436 = .ok (.bipush 116, 2) := by decide +kernel
theorem d_Mo_init_438 : decode cX9_init 438 = .ok (.iastore, 1) := by decide +kernel
theorem d_Mo_init_439 : decode cX9_init 439 = .ok (.dup, 1) := by decide +kernel
theorem d_Mo_init_440 : decode cX9_init 440 = .ok (.bipush 60, 2) := by decide +kernel
theorem d_Mo_init_442 : decode cX9_init 442 = .ok (.bipush 101, 2) := by decide +kernel
theorem d_Mo_init_444 : decode cX9_init 444 = .ok (.iastore, 1) := by decide +kernel
theorem d_Mo_init_445 : decode cX9_init 445 = .ok (.dup, 1) := by decide +kernel
theorem d_Mo_init_446 : decode cX9_init 446 = .ok (.bipush 61, 2) := by decide +kernel
theorem d_Mo_init_448 : decode cX9_init 448 = .ok (.bipush 32, 2) := by decide +kernel
theorem d_Mo_init_450 : decode cX9_init 450 = .ok (.iastore, 1) := by decide +kernel
theorem d_Mo_init_451 : decode cX9_init 451 = .ok (.dup, 1) := by decide +kernel
theorem d_Mo_init_452 : decode cX9_init 452 = .ok (.bipush 62, 2) := by decide +kernel
theorem d_Mo_init_454 : decode cX9_init 454 = .ok (.bipush 110, 2) := by decide +kernel
theorem d_Mo_init_456 : decode cX9_init 456 = .ok (.iastore, 1) := by decide +kernel
theorem d_Mo_init_457 : decode cX9_init 457 = .ok (.dup, 1) := by decide +kernel
theorem d_Mo_init_458 : decode cX9_init 458 = .ok (.bipush 63, 2) := by decide +kernel
theorem d_Mo_init_460 : decode cX9_init 460 = .ok (.bipush 111, 2) := by decide +kernel
theorem d_Mo_init_462 : decode cX9_init 462 = .ok (.iastore, 1) := by decide +kernel
theorem d_Mo_init_463 : decode cX9_init 463 = .ok (.dup, 1) := by decide +kernel
theorem d_Mo_init_464 : decode cX9_init 464 = .ok (.bipush 64, 2) := by decide +kernel
theorem d_Mo_init_466 : decode cX9_init 466 = .ok (.bipush 115, 2) := by decide +kernel
theorem d_Mo_init_468 : decode cX9_init 468 = .ok (.iastore, 1) := by decide +kernel
theorem d_Mo_init_469 : decode cX9_init 469 = .ok (.dup, 1) := by decide +kernel
theorem d_Mo_init_470 : decode cX9_init 470 = .ok (.bipush 65, 2) := by decide +kernel
theorem d_Mo_init_472 : decode cX9_init 472 = .ok (.bipush 101, 2) := by decide +kernel
theorem d_Mo_init_474 : decode cX9_init 474 = .ok (.iastore, 1) := by decide +kernel
theorem d_Mo_init_475 : decode cX9_init 475 = .ok (.dup, 1) := by decide +kernel
theorem d_Mo_init_476 : decode cX9_init 476 = .ok (.bipush 66, 2) := by decide +kernel
theorem d_Mo_init_478 : decode cX9_init 478 = .ok (.bipush 32, 2) := by decide +kernel
theorem d_Mo_init_480 : decode cX9_init 480 = .ok (.iastore, 1) := by decide +kernel
theorem d_Mo_init_481 : decode cX9_init 481 = .ok (.dup, 1) := by decide +kernel
theorem d_Mo_init_482 : decode cX9_init 482 = .ok (.bipush 67, 2) := by decide +kernel
theorem d_Mo_init_484 : decode cX9_init 484 = .ok (.bipush 115, 2) := by decide +kernel
theorem d_Mo_init_486 : decode cX9_init 486 = .ok (.iastore, 1) := by decide +kernel
theorem d_Mo_init_487 : decode cX9_init 487 = .ok (.dup, 1) := by decide +kernel
theorem d_Mo_init_488 : decode cX9_init 488 = .ok (.bipush 68, 2) := by decide +kernel
theorem d_Mo_init_490 : decode cX9_init 490 = .ok (.bipush 111, 2) := by decide +kernel
theorem d_Mo_init_492 : decode cX9_init 492 = .ok (.iastore, 1) := by decide +kernel
theorem d_Mo_init_493 : decode cX9_init 493 = .ok (.dup, 1) := by decide +kernel
theorem d_Mo_init_494 : decode cX9_init 494 = .ok (.bipush 69, 2) := by decide +kernel
theorem d_Mo_init_496 : decode cX9_init 496 = .ok (.bipush 102, 2) := by decide +kernel
theorem d_Mo_init_498 : decode cX9_init 498 = .ok (.iastore, 1) := by decide +kernel
theorem d_Mo_init_499 : decode cX9_init 499 = .ok (.dup, 1) := by decide +kernel
theorem d_Mo_init_500 : decode cX9_init 500 = .ok (.bipush 70, 2) := by decide +kernel
theorem d_Mo_init_502 : decode cX9_init 502 = .ok (.bipush 116, 2) := by decide +kernel
theorem d_Mo_init_504 : decode cX9_init 504 = .ok (.iastore, 1) := by decide +kernel
theorem d_Mo_init_505 : decode cX9_init 505 = .ok (.dup, 1) := by decide +kernel
theorem d_Mo_init_506 : decode cX9_init 506 = .ok (.bipush 71, 2) := by decide +kernel
theorem d_Mo_init_508 : decode cX9_init 508 = .ok (.bipush 32, 2) := by decide +kernel
theorem d_Mo_init_510 : decode cX9_init 510 = .ok (.iastore, 1) := by decide +kernel
theorem d_Mo_init_511 : decode cX9_init 511 = .ok (.dup, 1) := by decide +kernel
theorem d_Mo_init_512 : decode cX9_init 512 = .ok (.bipush 72, 2) := by decide +kernel
theorem d_Mo_init_514 : decode cX9_init 514 = .ok (.bipush 116, 2) := by decide +kernel
theorem d_Mo_init_516 : decode cX9_init 516 = .ok (.iastore, 1) := by decide +kernel
theorem d_Mo_init_517 : decode cX9_init 517 = .ok (.dup, 1) := by decide +kernel
theorem d_Mo_init_518 : decode cX9_init 518 = .ok (.bipush 73, 2) := by decide +kernel
theorem d_Mo_init_520 : decode cX9_init 520 = .ok (.bipush 105, 2) := by decide +kernel
theorem d_Mo_init_522 : decode cX9_init 522 = .ok (.iastore, 1) := by decide +kernel
theorem d_Mo_init_523 : decode cX9_init 523 = .ok (.dup, 1) := by decide +kernel
theorem d_Mo_init_524 : decode cX9_init 524 = .ok (.bipush 74, 2) := by decide +kernel
theorem d_Mo_init_526 : decode cX9_init 526 = .ok (.bipush 114, 2) := by decide +kernel
theorem d_Mo_init_528 : decode cX9_init 528 = .ok (.iastore, 1) := by decide +kernel
theorem d_Mo_init_529 : decode cX9_init 529 = .ok (.dup, 1) := by decide +kernel
theorem d_Mo_init_530 : decode cX9_init 530 = .ok (.bipush 75, 2) := by decide +kernel
theorem d_Mo_init_532 : decode cX9_init 532 = .ok (.bipush 101, 2) := by decide +kernel
theorem d_Mo_init_534 : decode cX9_init 534 = .ok (.iastore, 1) := by decide +kernel
theorem d_Mo_init_535 : decode cX9_init 535 = .ok (.dup, 1) := by decide +kernel
theorem d_Mo_init_536 : decode cX9_init 536 = .ok (.bipush 76, 2) := by decide +kernel
theorem d_Mo_init_538 : decode cX9_init 538 = .ok (.bipush 100, 2) := by decide +kernel
theorem d_Mo_init_540 : decode cX9_init 540 = .ok (.iastore, 1) := by decide +kernel
theorem d_Mo_init_541 : decode cX9_init 541 = .ok (.dup, 1) := by decide +kernel
theorem d_Mo_init_542 : decode cX9_init 542 = .ok (.bipush 77, 2) := by decide +kernel
theorem d_Mo_init_544 : decode cX9_init 544 = .ok (.bipush 32, 2) := by decide +kernel
theorem d_Mo_init_546 : decode cX9_init 546 = .ok (.iastore, 1) := by decide +kernel
theorem d_Mo_init_547 : decode cX9_init 547 = .ok (.dup, 1) := by decide +kernel
theorem d_Mo_init_548 : decode cX9_init 548 = .ok (.bipush 78, 2) := by decide +kernel
theorem d_Mo_init_550 : decode cX9_init 550 = .ok (.bipush 107, 2) := by decide +kernel
theorem d_Mo_init_552 : decode cX9_init 552 = .ok (.iastore, 1) := by decide +kernel
theorem d_Mo_init_553 : decode cX9_init 553 = .ok (.dup, 1) := by decide +kernel
theorem d_Mo_init_554 : decode cX9_init 554 = .ok (.bipush 79, 2) := by decide +kernel
theorem d_Mo_init_556 : decode cX9_init 556 = .ok (.bipush 105, 2) := by decide +kernel
theorem d_Mo_init_558 : decode cX9_init 558 = .ok (.iastore, 1) := by decide +kernel
theorem d_Mo_init_559 : decode cX9_init 559 = .ok (.dup, 1) := by decide +kernel
theorem d_Mo_init_560 : decode cX9_init 560 = .ok (.bipush 80, 2) := by decide +kernel
theorem d_Mo_init_562 : decode cX9_init 562 = .ok (.bipush 110, 2) := by decide +kernel
theorem d_Mo_init_564 : decode cX9_init 564 = .ok (.iastore, 1) := by decide +kernel
theorem d_Mo_init_565 : decode cX9_init 565 = .ok (.dup, 1) := by decide +kernel
theorem d_Mo_init_566 : decode cX9_init 566 = .ok (.bipush 81, 2) := by decide +kernel
theorem d_Mo_init_568 : decode cX9_init 568 = .ok (.bipush 32, 2) := by decide +kernel
theorem d_Mo_init_570 : decode cX9_init 570 = .ok (.iastore, 1) := by decide +kernel
theorem d_Mo_init_571 : decode cX9_init 571 = .ok (.dup, 1) := by decide +kernel
theorem d_Mo_init_572 : decode cX9_init 572 = .ok (.bipush 82, 2) := by decide +kernel
theorem d_Mo_init_574 : decode cX9_init 574 = .ok (.bipush 116, 2) := by decide +kernel
theorem d_Mo_init_576 : decode cX9_init 576 = .ok (.iastore, 1) := by decide +kernel
theorem d_Mo_init_577 : decode cX9_init 577 = .ok (.dup, 1) := by decide +kernel
theorem d_Mo_init_578 : decode cX9_init 578 = .ok (.bipush 83, 2) := by decide +kernel
theorem d_Mo_init_580 : decode cX9_init 580 = .ok (.bipush 114, 2) := by decide +kernel
theorem d_Mo_init_582 : decode cX9_init 582 = .ok (.iastore, 1) := by decide +kernel
theorem d_Mo_init_583 : decode cX9_init 583 = .ok (.dup, 1) := by decide +kernel
theorem d_Mo_init_584 : decode cX9_init 584 = .ok (.bipush 84, 2) := by decide +kernel
theorem d_Mo_init_586 : decode cX9_init 586 = .ok (.bipush 97, 2) := by decide +kernel
theorem d_Mo_init_588 : decode cX9_init 588 = .ok (.iastore, 1) := by decide +kernel
theorem d_Mo_init_589 : decode cX9_init 589 = .ok (.dup, 1) := by decide +kernel
theorem d_Mo_init_590 : decode cX9_init 590 = .ok (.bipush 85, 2) := by decide +kernel
theorem d_Mo_init_592 : decode cX9_init 592 = .ok (.bipush 118, 2) := by decide +kernel
theorem d_Mo_init_594 : decode cX9_init 594 = .ok (.iastore, 1) := by decide +kernel
theorem d_Mo_init_595 : decode cX9_init 595 = .ok (.dup, 1) := by decide +kernel
theorem d_Mo_init_596 : decode cX9_init 596 = .ok (.bipush 86, 2) := by decide +kernel
theorem d_Mo_init_598 : decode cX9_init 598 = .ok (.bipush 101, 2) := by decide +kernel
theorem d_Mo_init_600 : decode cX9_init 600 = .ok (.iastore, 1) := by decide +kernel
theorem d_Mo_init_601 : decode cX9_init 601 = .ok (.dup, 1) := by decide +kernel
theorem d_Mo_init_602 : decode cX9_init 602 = .ok (.bipush 87, 2) := by decide +kernel
theorem d_Mo_init_604 : decode cX9_init 604 = .ok (.bipush 108, 2) := by decide +kernel
theorem d_Mo_init_606 : decode cX9_init 606 = .ok (.iastore, 1) := by decide +kernel
theorem d_Mo_init_607 : decode cX9_init 607 = .ok (.dup, 1) := by decide +kernel
theorem d_Mo_init_608 : decode cX9_init 608 = .ok (.bipush 88, 2) := by decide +kernel
theorem d_Mo_init_610 : decode cX9_init 610 = .ok (.bipush 108, 2) := by decide +kernel
theorem d_Mo_init_612 : decode cX9_init 612 = .ok (.iastore, 1) := by decide +kernel
theorem d_Mo_init_613 : decode cX9_init 613 = .ok (.dup, 1) := by decide +kernel
theorem d_Mo_init_614 : decode cX9_init 614 = .ok (.bipush 89, 2) := by decide +kernel
theorem d_Mo_init_616 : decode cX9_init 616 = .ok (.bipush 101, 2) := by decide +kernel
theorem d_Mo_init_618 : decode cX9_init 618 = .ok (.iastore, 1) := by decide +kernel
theorem d_Mo_init_619 : decode cX9_init 619 = .ok (.dup, 1) := by decide +kernel
theorem d_Mo_init_620 : decode cX9_init 620 = .ok (.bipush 90, 2) := by decide +kernel
theorem d_Mo_init_622 : decode cX9_init 622 = .ok (.bipush 114, 2) := by decide +kernel
theorem d_Mo_init_624 : decode cX9_init 624 = .ok (.iastore, 1) := by decide +kernel
theorem d_Mo_init_625 : decode cX9_init 625 = .ok (.dup, 1) := by decide +kernel
theorem d_Mo_init_626 : decode cX9_init 626 = .ok (.bipush 91, 2) := by decide +kernel
theorem d_Mo_init_628 : decode cX9_init 628 = .ok (.bipush 32, 2) := by decide +kernel
theorem d_Mo_init_630 : decode cX9_init 630 = .ok (.iastore, 1) := by decide +kernel
theorem d_Mo_init_631 : decode cX9_init 631 = .ok (.dup, 1) := by decide +kernel
theorem d_Mo_init_632 : decode cX9_init 632 = .ok (.bipush 92, 2) := by decide +kernel
theorem d_Mo_init_634 : decode cX9_init 634 = .ok (.bipush 119, 2) := by decide +kernel
theorem d_Mo_init_636 : decode cX9_init 636 = .ok (.iastore, 1) := by decide +kernel
theorem d_Mo_init_637 : decode cX9_init 637 = .ok (.dup, 1) := by decide +kernel
theorem d_Mo_init_638 : decode cX9_init 638 = .ok (.bipush 93, 2) := by decide +kernel
theorem d_Mo_init_640 : decode cX9_init 640 = .ok (.bipush 105, 2) := by decide +kernel
theorem d_Mo_init_642 : decode cX9_init 642 = .ok (.iastore, 1) := by decide +kernel
theorem d_Mo_init_643 : decode cX9_init 643 = .ok (.dup, 1) := by decide +kernel
theorem d_Mo_init_644 : decode cX9_init 644 = .ok (.bipush 94, 2) := by decide +kernel
theorem d_Mo_init_646 : decode cX9_init 646 = .ok (.bipush 116, 2) := by decide +kernel
theorem d_Mo_init_648 : decode cX9_init 648 = .ok (.iastore, 1) := by decide +kernel
theorem d_Mo_init_649 : decode cX9_init 649 = .ok (.dup, 1) := by decide +kernel
theorem d_Mo_init_650 : decode cX9_init 650 = .ok (.bipush 95, 2) := by decide +kernel
theorem d_Mo_init_652 : decode cX9_init 652 = .ok (.bipush 104, 2) := by decide +kernel
theorem d_Mo_init_654 : decode cX9_init 654 = .ok (.iastore, 1) := by decide +kernel
theorem d_Mo_init_655 : decode cX9_init 655 = .ok (.dup, 1) := by decide +kernel
theorem d_Mo_init_656 : decode cX9_init 656 = .ok (.bipush 96, 2) := by decide +kernel
theorem d_Mo_init_658 : decode cX9_init 658 = .ok (.bipush 32, 2) := by decide +kernel
theorem d_Mo_init_660 : decode cX9_init 660 = .ok (.iastore, 1) := by decide +kernel
theorem d_Mo_init_661 : decode cX9_init 661 = .ok (.dup, 1) := by decide +kernel
theorem d_Mo_init_662 : decode cX9_init 662 = .ok (.bipush 97, 2) := by decide +kernel
theorem d_Mo_init_664 : decode cX9_init 664 = .ok (.bipush 97, 2) := by decide +kernel
theorem d_Mo_init_666 : decode cX9_init 666 = .ok (.iastore, 1) := by decide +kernel
theorem d_Mo_init_667 : decode cX9_init 667 = .ok (.dup, 1) := by decide +kernel
theorem d_Mo_init_668 : decode cX9_init 668 = .ok (.bipush 98, 2) := by decide +kernel
theorem d_Mo_init_670 : decode cX9_init 670 = .ok (.bipush 116, 2) := by decide +kernel
theorem d_Mo_init_672 : decode cX9_init 672 = .ok (.iastore, 1) := by decide +kernel
theorem d_Mo_init_673 : decode cX9_init 673 = .ok (.dup, 1) := by decide +kernel
theorem d_Mo_init_674 : decode cX9_init 674 = .ok (.bipush 99, 2) := by decide +kernel
theorem d_Mo_init_676 : decode cX9_init 676 = .ok (.bipush 32, 2) := by decide +kernel
theorem d_Mo_init_678 : decode cX9_init 678 = .ok (.iastore, 1) := by decide +kernel
theorem d_Mo_init_679 : decode cX9_init 679 = .ok (.dup, 1) := by decide +kernel
theorem d_Mo_init_680 : decode cX9_init 680 = .ok (.bipush 100, 2) := by decide +kernel
theorem d_Mo_init_682 : decode cX9_init 682 = .ok (.bipush 115, 2) := by decide +kernel
theorem d_Mo_init_684 : decode cX9_init 684 = .ok (.iastore, 1) := by decide +kernel
theorem d_Mo_init_685 : decode cX9_init 685 = .ok (.dup, 1) := by decide +kernel
theorem d_Mo_init_686 : decode cX9_init 686 = .ok (.bipush 101, 2) := by decide +kernel
theorem d_Mo_init_688 : decode cX9_init 688 = .ok (.bipush 101, 2) := by decide +kernel
theorem d_Mo_init_690 : decode cX9_init 690 = .ok (.iastore, 1) := by decide +kernel
theorem d_Mo_init_691 : decode cX9_init 691 = .ok (.dup, 1) := by decide +kernel
theorem d_Mo_init_692 : decode cX9_init 692 = .ok (.bipush 102, 2) := by decide +kernel
theorem d_Mo_init_694 : decode cX9_init 694 = .ok (.bipush 110, 2) := by decide +kernel
theorem d_Mo_init_696 : decode cX9_init 696 = .ok (.iastore, 1) := by decide +kernel
theorem d_Mo_init_697 : decode cX9_init 697 = .ok (.dup, 1) := by decide +kernel
theorem d_Mo_init_698 : decode cX9_init 698 = .ok (.bipush 103, 2) := by decide +kernel
theorem d_Mo_init_700 : decode cX9_init 700 = .ok (.bipush 100, 2) := by decide +kernel
theorem d_Mo_init_702 : decode cX9_init 702 = .ok (.iastore, 1) := by decide +kernel
theorem d_Mo_init_703 : decode cX9_init 703 = .ok (.dup, 1) := by decide +kernel
theorem d_Mo_init_704 : decode cX9_init 704 = .ok (.bipush 104, 2) := by decide +kernel
theorem d_Mo_init_706 : decode cX9_init 706 = .ok (.bipush 32, 2) := by decide +kernel
theorem d_Mo_init_708 : decode cX9_init 708 = .ok (.iastore, 1) := by decide +kernel
theorem d_Mo_init_709 : decode cX9_init 709 = .ok (.dup, 1) := by decide +kernel
theorem d_Mo_init_710 : decode cX9_init 710 = .ok (.bipush 105, 2) := by decide +kernel
theorem d_Mo_init_712 : decode cX9_init 712 = .ok (.bipush 116, 2) := by decide +kernel
theorem d_Mo_init_714 : decode cX9_init 714 = .ok (.iastore, 1) := by decide +kernel
theorem d_Mo_init_715 : decode cX9_init 715 = .ok (.dup, 1) := by decide +kernel
theorem d_Mo_init_716 : decode cX9_init 716 = .ok (.bipush 106, 2) := by decide +kernel
theorem d_Mo_init_718 : decode cX9_init 718 = .ok (.bipush 111, 2) := by decide +kernel
theorem d_Mo_init_720 : decode cX9_init 720 = .ok (.iastore, 1) := by decide +kernel
theorem d_Mo_init_721 : decode cX9_init 721 = .ok (.dup, 1) := by decide +kernel
theorem d_Mo_init_722 : decode cX9_init 722 = .ok (.bipush 107, 2) := by decide +kernel
theorem d_Mo_init_724 : decode cX9_init 724 = .ok (.bipush 32, 2) := by decide +kernel
theorem d_Mo_init_726 : decode cX9_init 726 = .ok (.iastore, 1) := by decide +kernel
theorem d_Mo_init_727 : decode cX9_init 727 = .ok (.dup, 1) := by decide +kernel
theorem d_Mo_init_728 : decode cX9_init 728 = .ok (.bipush 108, 2) := by decide +kernel
theorem d_Mo_init_730 : decode cX9_init 730 = .ok (.bipush 111, 2) := by decide +kernel
theorem d_Mo_init_732 : decode cX9_init 732 = .ok (.iastore, 1) := by decide +kernel
theorem d_Mo_init_733 : decode cX9_init 733 = .ok (.dup, 1) := by decide +kernel
theorem d_Mo_init_734 : decode cX9_init 734 = .ok (.bipush 109, 2) := by decide +kernel
theorem d_Mo_init_736 : decode cX9_init 736 = .ok (.bipush 112, 2) := by decide +kernel
theorem d_Mo_init_738 : decode cX9_init 738 = .ok (.iastore, 1) := by decide +kernel
theorem d_Mo_init_739 : decode cX9_init 739 = .ok (.dup, 1) := by decide +kernel
theorem d_Mo_init_740 : decode cX9_init 740 = .ok (.bipush 110, 2) := by decide +kernel
theorem d_Mo_init_742 : decode cX9_init 742 = .ok (.bipush 101, 2) := by decide +kernel
theorem d_Mo_init_744 : decode cX9_init 744 = .ok (.iastore, 1) := by decide +kernel
theorem d_Mo_init_745 : decode cX9_init 745 = .ok (.dup, 1) := by decide +kernel
theorem d_Mo_init_746 : decode cX9_init 746 = .ok (.bipush 111, 2) := by decide +kernel
theorem d_Mo_init_748 : decode cX9_init 748 = .ok (.bipush 110, 2) := by decide +kernel
theorem d_Mo_init_750 : decode cX9_init 750 = .ok (.iastore, 1) := by decide +kernel
theorem d_Mo_init_751 : decode cX9_init 751 = .ok (.dup, 1) := by decide +kernel
theorem d_Mo_init_752 : decode cX9_init 752 = .ok (.bipush 112, 2) := by decide +kernel
theorem d_Mo_init_754 : decode cX9_init 754 = .ok (.bipush 32, 2) := by decide +kernel
theorem d_Mo_init_756 : decode cX9_init 756 = .ok (.iastore, 1) := by decide +kernel
theorem d_Mo_init_757 : decode cX9_init 757 = .ok (.dup, 1) := by decide +kernel
theorem d_Mo_init_758 : decode cX9_init 758 = .ok (.bipush 113, 2) := by decide +kernel
theorem d_Mo_init_760 : decode cX9_init 760 = .ok (.bipush 99, 2) := by decide +kernel
theorem d_Mo_init_762 : decode cX9_init 762 = .ok (.iastore, 1) := by decide +kernel
theorem d_Mo_init_763 : decode cX9_init 763 = .ok (.dup, 1) := by decide +kernel
theorem d_Mo_init_764 : decode cX9_init 764 = .ok (.bipush 114, 2) := by decide +kernel
theorem d_Mo_init_766 : decode cX9_init 766 = .ok (.bipush 108, 2) := by decide +kernel
theorem d_Mo_init_768 : decode cX9_init 768 = .ok (.iastore, 1) := by decide +kernel
theorem d_Mo_init_769 : decode cX9_init 769 = .ok (.dup, 1) := by decide +kernel
theorem d_Mo_init_770 : decode cX9_init 770 = .ok (.bipush 115, 2) := by decide +kernel
theorem d_Mo_init_772 : decode cX9_init 772 = .ok (.bipush 111, 2) := by decide +kernel
theorem d_Mo_init_774 : decode cX9_init 774 = .ok (.iastore, 1) := by decide +kernel
theorem d_Mo_init_775 : decode cX9_init 775 = .ok (.dup, 1) := by decide +kernel
theorem d_Mo_init_776 : decode cX9_init 776 = .ok (.bipush 116, 2) := by decide +kernel
theorem d_Mo_init_778 : decode cX9_init 778 = .ok (.bipush 115, 2) := by decide +kernel
theorem d_Mo_init_780 : decode cX9_init 780 = .ok (.iastore, 1) := by decide +kernel
theorem d_Mo_init_781 : decode cX9_init 781 = .ok (.dup, 1) := by decide +kernel
theorem d_Mo_init_782 : decode cX9_init 782 = .ok (.bipush 117, 2) := by decide +kernel
theorem d_Mo_init_784 : decode cX9_init 784 = .ok (.bipush 101, 2) := by decide +kernel
theorem d_Mo_init_786 : decode cX9_init 786 = .ok (.iastore, 1) := by decide +kernel
theorem d_Mo_init_787 : decode cX9_init 787 = .ok (.dup, 1) := by decide +kernel
theorem d_Mo_init_788 : decode cX9_init 788 = .ok (.bipush 118, 2) := by decide +kernel
theorem d_Mo_init_790 : decode cX9_init 790 = .ok (.bipush 32, 2) := by decide +kernel
theorem d_Mo_init_792 : decode cX9_init 792 = .ok (.iastore, 1) := by decide +kernel
theorem d_Mo_init_793 : decode cX9_init 793 = .ok (.dup, 1) := by decide +kernel
theorem d_Mo_init_794 : decode cX9_init 794 = .ok (.bipush 119, 2) := by decide +kernel
theorem d_Mo_init_796 : decode cX9_init 796 = .ok (.bipush 109, 2) := by decide +kernel
theorem d_Mo_init_798 : decode cX9_init 798 = .ok (.iastore, 1) := by decide +kernel
theorem d_Mo_init_799 : decode cX9_init 799 = .ok (.dup, 1) := by decide +kernel
theorem d_Mo_init_800 : decode cX9_init 800 = .ok (.bipush 120, 2) := by decide +kernel
theorem d_Mo_init_802 : decode cX9_init 802 = .ok (.bipush 111, 2) := by decide +kernel
theorem d_Mo_init_804 : decode cX9_init 804 = .ok (.iastore, 1) := by decide +kernel
theorem d_Mo_init_805 : decode cX9_init 805 = .ok (.dup, 1) := by decide +kernel
theorem d_Mo_init_806 : decode cX9_init 806 = .ok (.bipush 121, 2) := by decide +kernel
theorem d_Mo_init_808 : decode cX9_init 808 = .ok (.bipush 118, 2) := by decide +kernel
theorem d_Mo_init_810 : decode cX9_init 810 = .ok (.iastore, 1) := by decide +kernel
theorem d_Mo_init_811 : decode cX9_init 811 = .ok (.dup, 1) := by decide +kernel
theorem d_Mo_init_812 : decode cX9_init 812 = .ok (.bipush 122, 2) := by decide +kernel
theorem d_Mo_init_814 : decode cX9_init 814 = .ok (.bipush 101, 2) := by decide +kernel
theorem d_Mo_init_816 : decode cX9_init 816 = .ok (.iastore, 1) := by decide +kernel
theorem d_Mo_init_817 : decode cX9_init 817 = .ok (.dup, 1) := by decide +kernel
theorem d_Mo_init_818 : decode cX9_init 818 = .ok (.bipush 123, 2) := by decide +kernel
theorem d_Mo_init_820 : decode cX9_init 820 = .ok (.bipush 32, 2) := by decide +kernel
theorem d_Mo_init_822 : decode cX9_init 822 = .ok (.iastore, 1) := by decide +kernel
theorem d_Mo_init_823 : decode cX9_init 823 = .ok (.dup, 1) := by decide +kernel
theorem d_Mo_init_824 : decode cX9_init 824 = .ok (.bipush 124, 2) := by decide +kernel
theorem d_Mo_init_826 : decode cX9_init 826 = .ok (.bipush 106, 2) := by decide +kernel
theorem d_Mo_init_828 : decode cX9_init 828 = .ok (.iastore, 1) := by decide +kernel
theorem d_Mo_init_829 : decode cX9_init 829 = .ok (.dup, 1) := by decide +kernel
theorem d_Mo_init_830 : decode cX9_init 830 = .ok (.bipush 125, 2) := by decide +kernel
theorem d_Mo_init_832 : decode cX9_init 832 = .ok (.bipush 111, 2) := by decide +kernel
theorem d_Mo_init_834 : decode cX9_init 834 = .ok (.iastore, 1) := by decide +kernel
theorem d_Mo_init_835 : decode cX9_init 835 = .ok (.dup, 1) := by decide +kernel
theorem d_Mo_init_836 : decode cX9_init 836 = .ok (.bipush 126, 2) := by decide +kernel
theorem d_Mo_init_838 : decode cX9_init 838 = .ok (.bipush 107, 2) := by decide +kernel
theorem d_Mo_init_840 : decode cX9_init 840 = .ok (.iastore, 1) := by decide +kernel
theorem d_Mo_init_841 : decode cX9_init 841 = .ok (.dup, 1) := by decide +kernel
theorem d_Mo_init_842 : decode cX9_init 842 = .ok (.bipush 127, 2) := by decide +kernel
theorem d_Mo_init_844 : decode cX9_init 844 = .ok (.bipush 101, 2) := by decide +kernel
theorem d_Mo_init_846 : decode cX9_init 846 = .ok (.iastore, 1) := by decide +kernel
theorem d_Mo_init_847 : decode cX9_init 847 = .ok (.dup, 1) := by decide +kernel
theorem d_Mo_init_848 : decode cX9_init 848 = .ok (.sipush 128, 3) := by decide +kernel
theorem d_Mo_init_851 : decode cX9_init 851 = .ok (.bipush 32, 2) := by decide +kernel
theorem d_Mo_init_853 : decode cX9_init 853 = .ok (.iastore, 1) := by decide +kernel
theorem d_Mo_init_854 : decode cX9_init 854 = .ok (.dup, 1) := by decide +kernel
theorem d_Mo_init_855 : decode cX9_init 855 = .ok (.sipush 129, 3) := by decide +kernel
theorem d_Mo_init_858 : decode cX9_init 858 = .ok (.bipush 111, 2) := by decide +kernel
theorem d_Mo_init_860 : decode cX9_init 860 = .ok (.iastore, 1) := by decide +kernel
theorem d_Mo_init_861 : decode cX9_init 861 = .ok (.dup, 1) := by decide +kernel
theorem d_Mo_init_862 : decode cX9_init 862 = .ok (.sipush 130, 3) := by decide +kernel
theorem d_Mo_init_865 : decode cX9_init 865 = .ok (.bipush 110, 2) := by decide +kernel
theorem d_Mo_init_867 : decode cX9_init 867 = .ok (.iastore, 1) := by decide +kernel
theorem d_Mo_init_868 : decode cX9_init 868 = .ok (.dup, 1) := by decide +kernel
theorem d_Mo_init_869 : decode cX9_init 869 = .ok (.sipush 131, 3) := by decide +kernel
theorem d_Mo_init_872 : decode cX9_init 872 = .ok (.bipush 105, 2) := by decide +kernel
theorem d_Mo_init_874 : decode cX9_init 874 = .ok (.iastore, 1) := by decide +kernel
theorem d_Mo_init_875 : decode cX9_init 875 = .ok (.dup, 1) := by decide +kernel
theorem d_Mo_init_876 : decode cX9_init 876 = .ok (.sipush 132, 3) := by decide +kernel
theorem d_Mo_init_879 : decode cX9_init 879 = .ok (.bipush 111, 2) := by decide +kernel
theorem d_Mo_init_881 : decode cX9_init 881 = .ok (.iastore, 1) := by decide +kernel
theorem d_Mo_init_882 : decode cX9_init 882 = .ok (.dup, 1) := by decide +kernel
theorem d_Mo_init_883 : decode cX9_init 883 = .ok (.sipush 133, 3) := by decide +kernel
theorem d_Mo_init_886 : decode cX9_init 886 = .ok (.bipush 110, 2) := by decide +kernel
theorem d_Mo_init_888 : decode cX9_init 888 = .ok (.iastore, 1) := by decide +kernel
theorem d_Mo_init_889 : decode cX9_init 889 = .ok (.dup, 1) := by decide +kernel
theorem d_Mo_init_890 : decode cX9_init 890 = .ok (.sipush 134, 3) := by decide +kernel
theorem d_Mo_init_893 : decode cX9_init 893 = .ok (.bipush 32, 2) := by decide +kernel
theorem d_Mo_init_895 : decode cX9_init 895 = .ok (.iastore, 1) := by decide +kernel
theorem d_Mo_init_896 : decode cX9_init 896 = .ok (.dup, 1) := by decide +kernel
theorem d_Mo_init_897 : decode cX9_init 897 = .ok (.sipush 135, 3) := by decide +kernel
theorem d_Mo_init_900 : decode cX9_init 900 = .ok (.bipush 114, 2) := by decide +kernel
theorem d_Mo_init_902 : decode cX9_init 902 = .ok (.iastore, 1) := by decide +kernel
theorem d_Mo_init_903 : decode cX9_init 903 = .ok (.dup, 1) := by decide +kernel
theorem d_Mo_init_904 : decode cX9_init 904 = .ok (.sipush 136, 3) := by decide +kernel
theorem d_Mo_init_907 : decode cX9_init 907 = .ok (.bipush 111, 2) := by decide +kernel
theorem d_Mo_init_909 : decode cX9_init 909 = .ok (.iastore, 1) := by decide +kernel
theorem d_Mo_init_910 : decode cX9_init 910 = .ok (.dup, 1) := by decide +kernel
theorem d_Mo_init_911 : decode cX9_init 911 = .ok (.sipush 137, 3) := by decide +kernel
theorem d_Mo_init_914 : decode cX9_init 914 = .ok (.bipush 97, 2) := by decide +kernel
theorem d_Mo_init_916 : decode cX9_init 916 = .ok (.iastore, 1) := by decide +kernel
theorem d_Mo_init_917 : decode cX9_init 917 = .ok (.dup, 1) := by decide +kernel
theorem d_Mo_init_918 : decode cX9_init 918 = .ok (.sipush 138, 3) := by decide +kernel
theorem d_Mo_init_921 : decode cX9_init 921 = .ok (.bipush 100, 2) := by decide +kernel
theorem d_Mo_init_923 : decode cX9_init 923 = .ok (.iastore, 1) := by decide +kernel
theorem d_Mo_init_924 : decode cX9_init 924 = .ok (.dup, 1) := by decide +kernel
theorem d_Mo_init_925 : decode cX9_init 925 = .ok (.sipush 139, 3) := by decide +kernel
theorem d_Mo_init_928 : decode cX9_init 928 = .ok (.bipush 32, 2) := by decide +kernel
theorem d_Mo_init_930 : decode cX9_init 930 = .ok (.iastore, 1) := by decide +kernel
theorem d_Mo_init_931 : decode cX9_init 931 = .ok (.dup, 1) := by decide +kernel
theorem d_Mo_init_932 : decode cX9_init 932 = .ok (.sipush 140, 3) := by decide +kernel
theorem d_Mo_init_935 : decode cX9_init 935 = .ok (.bipush 100, 2) := by decide +kernel
theorem d_Mo_init_937 : decode cX9_init 937 = .ok (.iastore, 1) := by decide +kernel
theorem d_Mo_init_938 : decode cX9_init 938 = .ok (.dup, 1) := by decide +kernel
theorem d_Mo_init_939 : decode cX9_init 939 = .ok (.sipush 141, 3) := by decide +kernel
theorem d_Mo_init_942 : decode cX9_init 942 = .ok (.bipush 114, 2) := by decide +kernel
theorem d_Mo_init_944 : decode cX9_init 944 = .ok (.iastore, 1) := by decide +kernel
theorem d_Mo_init_945 : decode cX9_init 945 = .ok (.dup, 1) := by decide +kernel
theorem d_Mo_init_946 : decode cX9_init 946 = .ok (.sipush 142, 3) := by decide +kernel
theorem d_Mo_init_949 : decode cX9_init 949 = .ok (.bipush 121, 2) := by decide +kernel
theorem d_Mo_init_951 : decode cX9_init 951 = .ok (.iastore, 1) := by decide +kernel
theorem d_Mo_init_952 : decode cX9_init 952 = .ok (.dup, 1) := by decide +kernel
theorem d_Mo_init_953 : decode cX9_init 953 = .ok (.sipush 143, 3) := by decide +kernel
theorem d_Mo_init_956 : decode cX9_init 956 = .ok (.bipush 32, 2) := by decide +kernel
theorem d_Mo_init_958 : decode cX9_init 958 = .ok (.iastore, 1) := by decide +kernel
theorem d_Mo_init_959 : decode cX9_init 959 = .ok (.putfield 37, 3) := by decide +kernel
theorem d_Mo_init_962 : decode cX9_init 962 = .ok (.aload_n 0, 1) := by decide +kernel
theorem d_Mo_init_963 : decode cX9_init 963 = .ok (.iconst 2, 1) := by decide +kernel
theorem d_Mo_init_964 : decode cX9_init 964 = .ok (.newarray .int, 2) := by decide +kernel
theorem d_Mo_init_966 : decode cX9_init 966 = .ok (.putfield 40, 3) := by decide +kernel
theorem d_Mo_init_969 : decode cX9_init 969 = .ok (.aload_n 0, 1) := by decide +kernel
theorem d_Mo_init_970 : decode cX9_init 970 = .ok (.bipush 48, 2) := by decide +kernel
theorem d_Mo_init_972 : decode cX9_init 972 = .ok (.newarray .int, 2) := by decide +kernel
theorem d_Mo_init_974 : decode cX9_init 974 = .ok (.putfield 43, 3) := by decide +kernel
theorem d_Mo_init_977 : decode cX9_init 977 = .ok (.aload_n 0, 1) := by decide +kernel
theorem d_Mo_init_978 : decode cX9_init 978 = .ok (.bipush 48, 2) := by decide +kernel
theorem d_Mo_init_980 : decode cX9_init 980 = .ok (.newarray .int, 2) := by decide +kernel
theorem d_Mo_init_982 : decode cX9_init 982 = .ok (.putfield 46, 3) := by decide +kernel
theorem d_Mo_init_985 : decode cX9_init 985 = .ok (.aload_n 0, 1) := by decide +kernel
theorem d_Mo_init_986 : decode cX9_init 986 = .ok (.bipush 48, 2) := by decide +kernel
theorem d_Mo_init_988 : decode cX9_init 988 = .ok (.newarray .int, 2) := by decide +kernel
theorem d_Mo_init_990 : decode cX9_init 990 = .ok (.putfield 49, 3) := by decide +kernel
theorem d_Mo_init_993 : decode cX9_init 993 = .ok (.aload_n 0, 1) := by decide +kernel
theorem d_Mo_init_994 : decode cX9_init 994 = .ok (.bipush 48, 2) := by decide +kernel
theorem d_Mo_init_996 : decode cX9_init 996 = .ok (.newarray .int, 2) := by decide +kernel
theorem d_Mo_init_998 : decode cX9_init 998 = .ok (.putfield 52, 3) := by decide +kernel
theorem d_Mo_init_1001 : decode cX9_init 1001 = .ok (.aload_n 0, 1) := by decide +kernel
theorem d_Mo_init_1002 : decode cX9_init 1002 = .ok (.sipush 1200, 3) := by decide +kernel
theorem d_Mo_init_1005 : decode cX9_init 1005 = .ok (.newarray .int, 2) := by decide +kernel
theorem d_Mo_init_1007 : decode cX9_init 1007 = .ok (.putfield 55, 3) := by decide +kernel
theorem d_Mo_init_1010 : decode cX9_init 1010 = .ok (.aload_n 0, 1) := by decide +kernel
theorem d_Mo_init_1011 : decode cX9_init 1011 = .ok (.sipush 1200, 3) := by decide +kernel
theorem d_Mo_init_1014 : decode cX9_init 1014 = .ok (.newarray .int, 2) := by decide +kernel
theorem d_Mo_init_1016 : decode cX9_init 1016 = .ok (.putfield 58, 3) := by decide +kernel
theorem d_Mo_init_1019 : decode cX9_init 1019 = .ok (.aload_n 0, 1) := by decide +kernel
theorem d_Mo_init_1020 : decode cX9_init 1020 = .ok (.bipush 40, 2) := by decide +kernel
theorem d_Mo_init_1022 : decode cX9_init 1022 = .ok (.newarray .int, 2) := by decide +kernel
theorem d_Mo_init_1024 : decode cX9_init 1024 = .ok (.putfield 61, 3) := by decide +kernel
theorem d_Mo_init_1027 : decode cX9_init 1027 = .ok (.aload_n 0, 1) := by decide +kernel
theorem d_Mo_init_1028 : decode cX9_init 1028 = .ok (.iconst (-1), 1) := by decide +kernel
theorem d_Mo_init_1029 : decode cX9_init 1029 = .ok (.putfield 64, 3) := by decide +kernel
theorem d_Mo_init_1032 : decode cX9_init 1032 = .ok (.aload_n 0, 1) := by decide +kernel
theorem d_Mo_init_1033 : decode cX9_init 1033 = .ok (.bipush 24, 2) := by decide +kernel
theorem d_Mo_init_1035 : decode cX9_init 1035 = .ok (.newarray .int, 2) := by decide +kernel
theorem d_Mo_init_1037 : decode cX9_init 1037 = .ok (.putfield 68, 3) := by decide +kernel
theorem d_Mo_init_1040 : decode cX9_init 1040 = .ok (.aload_n 0, 1) := by decide +kernel
theorem d_Mo_init_1041 : decode cX9_init 1041 = .ok (.sipush 128, 3) := by decide +kernel
theorem d_Mo_init_1044 : decode cX9_init 1044 = .ok (.newarray .int, 2) := by decide +kernel
theorem d_Mo_init_1046 : decode cX9_init 1046 = .ok (.putfield 71, 3) := by decide +kernel
theorem d_Mo_init_1049 : decode cX9_init 1049 = .ok (.aload_n 0, 1) := by decide +kernel
theorem d_Mo_init_1050 : decode cX9_init 1050 = .ok (.sipush 128, 3) := by decide +kernel
theorem d_Mo_init_1053 : decode cX9_init 1053 = .ok (.newarray .int, 2) := by decide +kernel
theorem d_Mo_init_1055 : decode cX9_init 1055 = .ok (.putfield 74, 3) := by decide +kernel
theorem d_Mo_init_1058 : decode cX9_init 1058 = .ok (.aload_n 0, 1) := by decide +kernel
theorem d_Mo_init_1059 : decode cX9_init 1059 = .ok (.bipush 10, 2) := by decide +kernel
theorem d_Mo_init_1061 : decode cX9_init 1061 = .ok (.newarray .int, 2) := by decide +kernel
theorem d_Mo_init_1063 : decode cX9_init 1063 = .ok (.putfield 77, 3) := by decide +kernel
theorem d_Mo_init_1066 : decode cX9_init 1066 = .ok (.aload_n 0, 1) := by decide +kernel
theorem d_Mo_init_1067 : decode cX9_init 1067 = .ok (.sipush 420, 3) := by decide +kernel
theorem d_Mo_init_1070 : decode cX9_init 1070 = .ok (.newarray .int, 2) := by decide +kernel
theorem d_Mo_init_1072 : decode cX9_init 1072 = .ok (.putfield 80, 3) := by decide +kernel
theorem d_Mo_init_1075 : decode cX9_init 1075 = .ok (.aload_n 0, 1) := by decide +kernel
theorem d_Mo_init_1076 : decode cX9_init 1076 = .ok (.bipush 8, 2) := by decide +kernel
theorem d_Mo_init_1078 : decode cX9_init 1078 = .ok (.newarray .int, 2) := by decide +kernel
theorem d_Mo_init_1080 : decode cX9_init 1080 = .ok (.putfield 83, 3) := by decide +kernel
theorem d_Mo_init_1083 : decode cX9_init 1083 = .ok (.aload_n 0, 1) := by decide +kernel
theorem d_Mo_init_1084 : decode cX9_init 1084 = .ok (.bipush 8, 2) := by decide +kernel
theorem d_Mo_init_1086 : decode cX9_init 1086 = .ok (.newarray .int, 2) := by decide +kernel
theorem d_Mo_init_1088 : decode cX9_init 1088 = .ok (.putfield 86, 3) := by decide +kernel
theorem d_Mo_init_1091 : decode cX9_init 1091 = .ok (.aload_n 0, 1) := by decide +kernel
theorem d_Mo_init_1092 : decode cX9_init 1092 = .ok (.bipush 8, 2) := by decide +kernel
theorem d_Mo_init_1094 : decode cX9_init 1094 = .ok (.newarray .int, 2) := by decide +kernel
theorem d_Mo_init_1096 : decode cX9_init 1096 = .ok (.putfield 89, 3) := by decide +kernel
theorem d_Mo_init_1099 : decode cX9_init 1099 = .ok (.aload_n 0, 1) := by decide +kernel
theorem d_Mo_init_1100 : decode cX9_init 1100 = .ok (.bipush 6, 2) := by decide +kernel
theorem d_Mo_init_1102 : decode cX9_init 1102 = .ok (.newarray .int, 2) := by decide +kernel
theorem d_Mo_init_1104 : decode cX9_init 1104 = .ok (.putfield 92, 3) := by decide +kernel
theorem d_Mo_init_1107 : decode cX9_init 1107 = .ok (.aload_n 0, 1) := by decide +kernel
theorem d_Mo_init_1108 : decode cX9_init 1108 = .ok (.bipush 64, 2) := by decide +kernel
theorem d_Mo_init_1110 : decode cX9_init 1110 = .ok (.newarray .int, 2) := by decide +kernel
theorem d_Mo_init_1112 : decode cX9_init 1112 = .ok (.putfield 95, 3) := by decide +kernel
theorem d_Mo_init_1115 : decode cX9_init 1115 = .ok (.aload_n 0, 1) := by decide +kernel
theorem d_Mo_init_1116 : decode cX9_init 1116 = .ok (.bipush 64, 2) := by decide +kernel
theorem d_Mo_init_1118 : decode cX9_init 1118 = .ok (.newarray .int, 2) := by decide +kernel
theorem d_Mo_init_1120 : decode cX9_init 1120 = .ok (.putfield 98, 3) := by decide +kernel
theorem d_Mo_init_1123 : decode cX9_init 1123 = .ok (.aload_n 0, 1) := by decide +kernel
theorem d_Mo_init_1124 : decode cX9_init 1124 = .ok (.bipush 8, 2) := by decide +kernel
theorem d_Mo_init_1126 : decode cX9_init 1126 = .ok (.newarray .int, 2) := by decide +kernel
theorem d_Mo_init_1128 : decode cX9_init 1128 = .ok (.putfield 101, 3) := by decide +kernel
theorem d_Mo_init_1131 : decode cX9_init 1131 = .ok (.aload_n 0, 1) := by decide +kernel
theorem d_Mo_init_1132 : decode cX9_init 1132 = .ok (.sipush 256, 3) := by decide +kernel
theorem d_Mo_init_1135 : decode cX9_init 1135 = .ok (.newarray .int, 2) := by decide +kernel
theorem d_Mo_init_1137 : decode cX9_init 1137 = .ok (.putfield 104, 3) := by decide +kernel
theorem d_Mo_init_1140 : decode cX9_init 1140 = .ok (.aload_n 0, 1) := by decide +kernel
theorem d_Mo_init_1141 : decode cX9_init 1141 = .ok (.bipush 10, 2) := by decide +kernel
theorem d_Mo_init_1143 : decode cX9_init 1143 = .ok (.newarray .int, 2) := by decide +kernel
theorem d_Mo_init_1145 : decode cX9_init 1145 = .ok (.putfield 107, 3) := by decide +kernel
theorem d_Mo_init_1148 : decode cX9_init 1148 = .ok (.aload_n 0, 1) := by decide +kernel
theorem d_Mo_init_1149 : decode cX9_init 1149 = .ok (.bipush 6, 2) := by decide +kernel
theorem d_Mo_init_1151 : decode cX9_init 1151 = .ok (.newarray .int, 2) := by decide +kernel
theorem d_Mo_init_1153 : decode cX9_init 1153 = .ok (.putfield 110, 3) := by decide +kernel
theorem d_Mo_init_1156 : decode cX9_init 1156 = .ok (.aload_n 0, 1) := by decide +kernel
theorem d_Mo_init_1157 : decode cX9_init 1157 = .ok (.bipush 6, 2) := by decide +kernel
theorem d_Mo_init_1159 : decode cX9_init 1159 = .ok (.newarray .int, 2) := by decide +kernel
theorem d_Mo_init_1161 : decode cX9_init 1161 = .ok (.putfield 113, 3) := by decide +kernel
theorem d_Mo_init_1164 : decode cX9_init 1164 = .ok (.aload_n 0, 1) := by decide +kernel
theorem d_Mo_init_1165 : decode cX9_init 1165 = .ok (.bipush 10, 2) := by decide +kernel
theorem d_Mo_init_1167 : decode cX9_init 1167 = .ok (.newarray .int, 2) := by decide +kernel
theorem d_Mo_init_1169 : decode cX9_init 1169 = .ok (.putfield 116, 3) := by decide +kernel
theorem d_Mo_init_1172 : decode cX9_init 1172 = .ok (.aload_n 0, 1) := by decide +kernel
theorem d_Mo_init_1173 : decode cX9_init 1173 = .ok (.bipush 10, 2) := by decide +kernel
theorem d_Mo_init_1175 : decode cX9_init 1175 = .ok (.newarray .int, 2) := by decide +kernel
theorem d_Mo_init_1177 : decode cX9_init 1177 = .ok (.putfield 119, 3) := by decide +kernel
theorem d_Mo_init_1180 : decode cX9_init 1180 = .ok (.aload_n 0, 1) := by decide +kernel
theorem d_Mo_init_1181 : decode cX9_init 1181 = .ok (.bipush 24, 2) := by decide +kernel
theorem d_Mo_init_1183 : decode cX9_init 1183 = .ok (.newarray .int, 2) := by decide +kernel
theorem d_Mo_init_1185 : decode cX9_init 1185 = .ok (.putfield 122, 3) := by decide +kernel
theorem d_Mo_init_1188 : decode cX9_init 1188 = .ok (.aload_n 0, 1) := by decide +kernel
theorem d_Mo_init_1189 : decode cX9_init 1189 = .ok (.bipush 12, 2) := by decide +kernel
theorem d_Mo_init_1191 : decode cX9_init 1191 = .ok (.newarray .int, 2) := by decide +kernel
theorem d_Mo_init_1193 : decode cX9_init 1193 = .ok (.putfield 125, 3) := by decide +kernel
theorem d_Mo_init_1196 : decode cX9_init 1196 = .ok (.aload_n 0, 1) := by decide +kernel
theorem d_Mo_init_1197 : decode cX9_init 1197 = .ok (.iconst 4, 1) := by decide +kernel
theorem d_Mo_init_1198 : decode cX9_init 1198 = .ok (.newarray .int, 2) := by decide +kernel
theorem d_Mo_init_1200 : decode cX9_init 1200 = .ok (.putfield 128, 3) := by decide +kernel
theorem d_Mo_init_1203 : decode cX9_init 1203 = .ok (.aload_n 0, 1) := by decide +kernel
theorem d_Mo_init_1204 : decode cX9_init 1204 = .ok (.iconst 4, 1) := by decide +kernel
theorem d_Mo_init_1205 : decode cX9_init 1205 = .ok (.newarray .int, 2) := by decide +kernel
theorem d_Mo_init_1207 : decode cX9_init 1207 = .ok (.putfield 131, 3) := by decide +kernel
theorem d_Mo_init_1210 : decode cX9_init 1210 = .ok (.aload_n 0, 1) := by decide +kernel
theorem d_Mo_init_1211 : decode cX9_init 1211 = .ok (.bipush 24, 2) := by decide +kernel
theorem d_Mo_init_1213 : decode cX9_init 1213 = .ok (.newarray .int, 2) := by decide +kernel
theorem d_Mo_init_1215 : decode cX9_init 1215 = .ok (.putfield 134, 3) := by decide +kernel
theorem d_Mo_init_1218 : decode cX9_init 1218 = .ok (.aload_n 0, 1) := by decide +kernel
theorem d_Mo_init_1219 : decode cX9_init 1219 = .ok (.sipush 2100, 3) := by decide +kernel
theorem d_Mo_init_1222 : decode cX9_init 1222 = .ok (.newarray .int, 2) := by decide +kernel
theorem d_Mo_init_1224 : decode cX9_init 1224 = .ok (.putfield 137, 3) := by decide +kernel
theorem d_Mo_init_1227 : decode cX9_init 1227 = .ok (.return_, 1) := by decide +kernel
theorem d_Mo_undo_0 : decode cX9_undo 0 = .ok (.aload_n 0, 1) := by decide +kernel
theorem d_Mo_undo_1 : decode cX9_undo 1 = .ok (.iconst 0, 1) := by decide +kernel
theorem d_Mo_undo_2 : decode cX9_undo 2 = .ok (.putfield 140, 3) := by decide +kernel
theorem d_Mo_undo_5 : decode cX9_undo 5 = .ok (.aload_n 0, 1) := by decide +kernel
theorem d_Mo_undo_6 : decode cX9_undo 6 = .ok (.getfield 143, 3) := by decide +kernel
theorem d_Mo_undo_9 : decode cX9_undo 9 = .ok (.ifCond .ne 5, 3) := by decide +kernel
theorem d_Mo_undo_12 : decode cX9_undo 12 = .ok (.iconst 0, 1) := by decide +kernel
theorem d_Mo_undo_13 : decode cX9_undo 13 = .ok (.ireturn, 1) := by decide +kernel
theorem d_Mo_undo_14 : decode cX9_undo 14 = .ok (.aload_n 0, 1) := by decide +kernel
theorem d_Mo_undo_15 : decode cX9_undo 15 = .ok (.aload_n 0, 1) := by decide +kernel
theorem d_Mo_undo_16 : decode cX9_undo 16 = .ok (.getfield 143, 3) := by decide +kernel
theorem d_Mo_undo_19 : decode cX9_undo 19 = .ok (.iconst 1, 1) := by decide +kernel
theorem d_Mo_undo_20 : decode cX9_undo 20 = .ok (.isub, 1) := by decide +kernel
theorem d_Mo_undo_21 : decode cX9_undo 21 = .ok (.putfield 143, 3) := by decide +kernel
theorem d_Mo_undo_24 : decode cX9_undo 24 = .ok (.iconst 0, 1) := by decide +kernel
theorem d_Mo_undo_25 : decode cX9_undo 25 = .ok (.istore_n 1, 1) := by decide +kernel
theorem d_Mo_undo_26 : decode cX9_undo 26 = .ok (.iload_n 1, 1) := by decide +kernel
theorem d_Mo_undo_27 : decode cX9_undo 27 = .ok (.bipush 79, 2) := by decide +kernel
theorem d_Mo_undo_29 : decode cX9_undo 29 = .ok (.if_icmp .ge 29, 3) := by decide +kernel
theorem d_Mo_undo_32 : decode cX9_undo 32 = .ok (.aload_n 0, 1) := by decide +kernel
theorem d_Mo_undo_33 : decode cX9_undo 33 = .ok (.getfield 7, 3) := by decide +kernel
theorem d_Mo_undo_36 : decode cX9_undo 36 = .ok (.iload_n 1, 1) := by decide +kernel
theorem d_Mo_undo_37 : decode cX9_undo 37 = .ok (.aload_n 0, 1) := by decide +kernel
theorem d_Mo_undo_38 : decode cX9_undo 38 = .ok (.getfield 13, 3) := by decide +kernel
theorem d_Mo_undo_41 : decode cX9_undo 41 = .ok (.bipush 79, 2) := by decide +kernel
theorem d_Mo_undo_43 : decode cX9_undo 43 = .ok (.aload_n 0, 1) := by decide +kernel
theorem d_Mo_undo_44 : decode cX9_undo 44 = .ok (.getfield 143, 3) := by decide +kernel
theorem d_Mo_undo_47 : decode cX9_undo 47 = .ok (.imul, 1) := by decide +kernel
theorem d_Mo_undo_48 : decode cX9_undo 48 = .ok (.iload_n 1, 1) := by decide +kernel
theorem d_Mo_undo_49 : decode cX9_undo 49 = .ok (.iadd, 1) := by decide +kernel
theorem d_Mo_undo_50 : decode cX9_undo 50 = .ok (.iaload, 1) := by decide +kernel
theorem d_Mo_undo_51 : decode cX9_undo 51 = .ok (.iastore, 1) := by decide +kernel
theorem d_Mo_undo_52 : decode cX9_undo 52 = .ok (.iinc 1 1, 3) := by decide +kernel
theorem d_Mo_undo_55 : decode cX9_undo 55 = .ok (.goto (-29), 3) := by decide +kernel
theorem d_Mo_undo_58 : decode cX9_undo 58 = .ok (.iconst 1, 1) := by decide +kernel
theorem d_Mo_undo_59 : decode cX9_undo 59 = .ok (.ireturn, 1) := by decide +kernel
theorem d_Mo_state_0 : decode cX9_state 0 = .ok (.aload_n 0, 1) := by decide +kernel
theorem d_Mo_state_1 : decode cX9_state 1 = .ok (.iconst 0, 1) := by decide +kernel
theorem d_Mo_state_2 : decode cX9_state 2 = .ok (.putfield 140, 3) := by decide +kernel
theorem d_Mo_state_5 : decode cX9_state 5 = .ok (.aload_n 0, 1) := by decide +kernel
theorem d_Mo_state_6 : decode cX9_state 6 = .ok (.getfield 7, 3) := by decide +kernel
theorem d_Mo_state_9 : decode cX9_state 9 = .ok (.iconst 1, 1) := by decide +kernel
theorem d_Mo_state_10 : decode cX9_state 10 = .ok (.iaload, 1) := by decide +kernel
theorem d_Mo_state_11 : decode cX9_state 11 = .ok (.istore_n 2, 1) := by decide +kernel
theorem d_Mo_state_12 : decode cX9_state 12 = .ok (.aload_n 0, 1) := by decide +kernel
theorem d_Mo_state_13 : decode cX9_state 13 = .ok (.getfield 7, 3) := by decide +kernel
theorem d_Mo_state_16 : decode cX9_state 16 = .ok (.iconst 1, 1) := by decide +kernel
theorem d_Mo_state_17 : decode cX9_state 17 = .ok (.iload_n 1, 1) := by decide +kernel
theorem d_Mo_state_18 : decode cX9_state 18 = .ok (.iastore, 1) := by decide +kernel
theorem d_Mo_state_19 : decode cX9_state 19 = .ok (.aload_n 0, 1) := by decide +kernel
theorem d_Mo_state_20 : decode cX9_state 20 = .ok (.iconst 0, 1) := by decide +kernel
theorem d_Mo_state_21 : decode cX9_state 21 = .ok (.putfield 143, 3) := by decide +kernel
theorem d_Mo_state_24 : decode cX9_state 24 = .ok (.iload_n 2, 1) := by decide +kernel
theorem d_Mo_state_25 : decode cX9_state 25 = .ok (.ireturn, 1) := by decide +kernel
theorem d_Mo_isIn_0 : decode cX9_isIn 0 = .ok (.iload_n 1, 1) := by decide +kernel
theorem d_Mo_isIn_1 : decode cX9_isIn 1 = .ok (.iload_n 2, 1) := by decide +kernel
theorem d_Mo_isIn_2 : decode cX9_isIn 2 = .ok (.if_icmp .lt 12, 3) := by decide +kernel
theorem d_Mo_isIn_5 : decode cX9_isIn 5 = .ok (.iload_n 1, 1) := by decide +kernel
theorem d_Mo_isIn_6 : decode cX9_isIn 6 = .ok (.iload_n 3, 1) := by decide +kernel
theorem d_Mo_isIn_7 : decode cX9_isIn 7 = .ok (.if_icmp .gt 7, 3) := by decide +kernel
theorem d_Mo_isIn_10 : decode cX9_isIn 10 = .ok (.iconst 1, 1) := by decide +kernel
theorem d_Mo_isIn_11 : decode cX9_isIn 11 = .ok (.goto 4, 3) := by decide +kernel
theorem d_Mo_isIn_14 : decode cX9_isIn 14 = .ok (.iconst 0, 1) := by decide +kernel
theorem d_Mo_isIn_15 : decode cX9_isIn 15 = .ok (.ireturn, 1) := by decide +kernel
theorem d_Mo_traveller_0 : decode cX9_traveller 0 = .ok (.aload_n 0, 1) := by decide +kernel
theorem d_Mo_traveller_1 : decode cX9_traveller 1 = .ok (.iconst 0, 1) := by decide +kernel
theorem d_Mo_traveller_2 : decode cX9_traveller 2 = .ok (.putfield 140, 3) := by decide +kernel
theorem d_Mo_traveller_5 : decode cX9_traveller 5 = .ok (.aload_n 0, 1) := by decide +kernel
theorem d_Mo_traveller_6 : decode cX9_traveller 6 = .ok (.iload_n 1, 1) := by decide +kernel
theorem d_Mo_traveller_7 : decode cX9_traveller 7 = .ok (.iconst 0, 1) := by decide +kernel
theorem d_Mo_traveller_8 : decode cX9_traveller 8 = .ok (.iconst 5, 1) := by decide +kernel
theorem d_Mo_traveller_9 : decode cX9_traveller 9 = .ok (.invokevirtual 162, 3) := by decide +kernel
theorem d_Mo_traveller_12 : decode cX9_traveller 12 = .ok (.ifCond .eq 35, 3) := by decide +kernel
theorem d_Mo_traveller_15 : decode cX9_traveller 15 = .ok (.aload_n 0, 1) := by decide +kernel
theorem d_Mo_traveller_16 : decode cX9_traveller 16 = .ok (.iload_n 2, 1) := by decide +kernel
theorem d_Mo_traveller_17 : decode cX9_traveller 17 = .ok (.iconst 0, 1) := by decide +kernel
theorem d_Mo_traveller_18 : decode cX9_traveller 18 = .ok (.bipush 9, 2) := by decide +kernel
theorem d_Mo_traveller_20 : decode cX9_traveller 20 = .ok (.invokevirtual 162, 3) := by decide +kernel
theorem d_Mo_traveller_23 : decode cX9_traveller 23 = .ok (.ifCond .eq 24, 3) := by decide +kernel
theorem d_Mo_traveller_26 : decode cX9_traveller 26 = .ok (.aload_n 0, 1) := by decide +kernel
theorem d_Mo_traveller_27 : decode cX9_traveller 27 = .ok (.iload_n 3, 1) := by decide +kernel
theorem d_Mo_traveller_28 : decode cX9_traveller 28 = .ok (.iconst 0, 1) := by decide +kernel
theorem d_Mo_traveller_29 : decode cX9_traveller 29 = .ok (.sipush 9999, 3) := by decide +kernel
theorem d_Mo_traveller_32 : decode cX9_traveller 32 = .ok (.invokevirtual 162, 3) := by decide +kernel
theorem d_Mo_traveller_35 : decode cX9_traveller 35 = .ok (.ifCond .eq 12, 3) := by decide +kernel
theorem d_Mo_traveller_38 : decode cX9_traveller 38 = .ok (.aload_n 0, 1) := by decide +kernel
theorem d_Mo_traveller_39 : decode cX9_traveller 39 = .ok (.getfield 152, 3) := by decide +kernel
theorem d_Mo_traveller_42 : decode cX9_traveller 42 = .ok (.bipush 12, 2) := by decide +kernel
theorem d_Mo_traveller_44 : decode cX9_traveller 44 = .ok (.if_icmp .ne 5, 3) := by decide +kernel
theorem d_Mo_traveller_47 : decode cX9_traveller 47 = .ok (.iconst (-1), 1) := by decide +kernel
theorem d_Mo_traveller_48 : decode cX9_traveller 48 = .ok (.ireturn, 1) := by decide +kernel
theorem d_Mo_traveller_49 : decode cX9_traveller 49 = .ok (.aload_n 0, 1) := by decide +kernel
theorem d_Mo_traveller_50 : decode cX9_traveller 50 = .ok (.getfield 152, 3) := by decide +kernel
theorem d_Mo_traveller_53 : decode cX9_traveller 53 = .ok (.istore 4, 2) := by decide +kernel
theorem d_Mo_traveller_55 : decode cX9_traveller 55 = .ok (.aload_n 0, 1) := by decide +kernel
theorem d_Mo_traveller_56 : decode cX9_traveller 56 = .ok (.getfield 19, 3) := by decide +kernel
theorem d_Mo_traveller_59 : decode cX9_traveller 59 = .ok (.iload 4, 2) := by decide +kernel
theorem d_Mo_traveller_61 : decode cX9_traveller 61 = .ok (.iload_n 1, 1) := by decide +kernel
theorem d_Mo_traveller_62 : decode cX9_traveller 62 = .ok (.iastore, 1) := by decide +kernel
theorem d_Mo_traveller_63 : decode cX9_traveller 63 = .ok (.aload_n 0, 1) := by decide +kernel
theorem d_Mo_traveller_64 : decode cX9_traveller 64 = .ok (.getfield 22, 3) := by decide +kernel
theorem d_Mo_traveller_67 : decode cX9_traveller 67 = .ok (.iload 4, 2) := by decide +kernel
theorem d_Mo_traveller_69 : decode cX9_traveller 69 = .ok (.iload_n 2, 1) := by decide +kernel
theorem d_Mo_traveller_70 : decode cX9_traveller 70 = .ok (.iastore, 1) := by decide +kernel
theorem d_Mo_traveller_71 : decode cX9_traveller 71 = .ok (.aload_n 0, 1) := by decide +kernel
theorem d_Mo_traveller_72 : decode cX9_traveller 72 = .ok (.getfield 7, 3) := by decide +kernel
theorem d_Mo_traveller_75 : decode cX9_traveller 75 = .ok (.bipush 7, 2) := by decide +kernel
theorem d_Mo_traveller_77 : decode cX9_traveller 77 = .ok (.iload 4, 2) := by decide +kernel
theorem d_Mo_traveller_79 : decode cX9_traveller 79 = .ok (.iadd, 1) := by decide +kernel
theorem d_Mo_traveller_80 : decode cX9_traveller 80 = .ok (.iload_n 3, 1) := by decide +kernel
theorem d_Mo_traveller_81 : decode cX9_traveller 81 = .ok (.iastore, 1) := by decide +kernel
theorem d_Mo_traveller_82 : decode cX9_traveller 82 = .ok (.aload_n 0, 1) := by decide +kernel
theorem d_Mo_traveller_83 : decode cX9_traveller 83 = .ok (.getfield 7, 3) := by decide +kernel
theorem d_Mo_traveller_86 : decode cX9_traveller 86 = .ok (.bipush 19, 2) := by decide +kernel
theorem d_Mo_traveller_88 : decode cX9_traveller 88 = .ok (.iload 4, 2) := by decide +kernel
theorem d_Mo_traveller_90 : decode cX9_traveller 90 = .ok (.iadd, 1) := by decide +kernel
theorem d_Mo_traveller_91 : decode cX9_traveller 91 = .ok (.iconst 0, 1) := by decide +kernel
theorem d_Mo_traveller_92 : decode cX9_traveller 92 = .ok (.iastore, 1) := by decide +kernel
theorem d_Mo_traveller_93 : decode cX9_traveller 93 = .ok (.aload_n 0, 1) := by decide +kernel
theorem d_Mo_traveller_94 : decode cX9_traveller 94 = .ok (.getfield 7, 3) := by decide +kernel
theorem d_Mo_traveller_97 : decode cX9_traveller 97 = .ok (.bipush 31, 2) := by decide +kernel
theorem d_Mo_traveller_99 : decode cX9_traveller 99 = .ok (.iload 4, 2) := by decide +kernel
theorem d_Mo_traveller_101 : decode cX9_traveller 101 = .ok (.iadd, 1) := by decide +kernel
theorem d_Mo_traveller_102 : decode cX9_traveller 102 = .ok (.iconst 0, 1) := by decide +kernel
theorem d_Mo_traveller_103 : decode cX9_traveller 103 = .ok (.iastore, 1) := by decide +kernel
theorem d_Mo_traveller_104 : decode cX9_traveller 104 = .ok (.aload_n 0, 1) := by decide +kernel
theorem d_Mo_traveller_105 : decode cX9_traveller 105 = .ok (.getfield 7, 3) := by decide +kernel
theorem d_Mo_traveller_108 : decode cX9_traveller 108 = .ok (.bipush 43, 2) := by decide +kernel
theorem d_Mo_traveller_110 : decode cX9_traveller 110 = .ok (.iload 4, 2) := by decide +kernel
theorem d_Mo_traveller_112 : decode cX9_traveller 112 = .ok (.iadd, 1) := by decide +kernel
theorem d_Mo_traveller_113 : decode cX9_traveller 113 = .ok (.iconst 0, 1) := by decide +kernel
theorem d_Mo_traveller_114 : decode cX9_traveller 114 = .ok (.iastore, 1) := by decide +kernel
theorem d_Mo_traveller_115 : decode cX9_traveller 115 = .ok (.aload_n 0, 1) := by decide +kernel
theorem d_Mo_traveller_116 : decode cX9_traveller 116 = .ok (.getfield 7, 3) := by decide +kernel
theorem d_Mo_traveller_119 : decode cX9_traveller 119 = .ok (.bipush 55, 2) := by decide +kernel
theorem d_Mo_traveller_121 : decode cX9_traveller 121 = .ok (.iload 4, 2) := by decide +kernel
theorem d_Mo_traveller_123 : decode cX9_traveller 123 = .ok (.iadd, 1) := by decide +kernel
theorem d_Mo_traveller_124 : decode cX9_traveller 124 = .ok (.iconst 0, 1) := by decide +kernel
theorem d_Mo_traveller_125 : decode cX9_traveller 125 = .ok (.iastore, 1) := by decide +kernel
theorem d_Mo_traveller_126 : decode cX9_traveller 126 = .ok (.aload_n 0, 1) := by decide +kernel
theorem d_Mo_traveller_127 : decode cX9_traveller 127 = .ok (.iload 4, 2) := by decide +kernel
theorem d_Mo_traveller_129 : decode cX9_traveller 129 = .ok (.iconst 1, 1) := by decide +kernel
theorem d_Mo_traveller_130 : decode cX9_traveller 130 = .ok (.iadd, 1) := by decide +kernel
theorem d_Mo_traveller_131 : decode cX9_traveller 131 = .ok (.putfield 152, 3) := by decide +kernel
theorem d_Mo_traveller_134 : decode cX9_traveller 134 = .ok (.aload_n 0, 1) := by decide +kernel
theorem d_Mo_traveller_135 : decode cX9_traveller 135 = .ok (.iconst 0, 1) := by decide +kernel
theorem d_Mo_traveller_136 : decode cX9_traveller 136 = .ok (.putfield 143, 3) := by decide +kernel
theorem d_Mo_traveller_139 : decode cX9_traveller 139 = .ok (.iload 4, 2) := by decide +kernel
theorem d_Mo_traveller_141 : decode cX9_traveller 141 = .ok (.ireturn, 1) := by decide +kernel
theorem d_Mo_isGate_0 : decode cX9_isGate 0 = .ok (.iload_n 1, 1) := by decide +kernel
theorem d_Mo_isGate_1 : decode cX9_isGate 1 = .ok (.ifCond .lt 12, 3) := by decide +kernel
theorem d_Mo_isGate_4 : decode cX9_isGate 4 = .ok (.iload_n 1, 1) := by decide +kernel
theorem d_Mo_isGate_5 : decode cX9_isGate 5 = .ok (.iconst 4, 1) := by decide +kernel
theorem d_Mo_isGate_6 : decode cX9_isGate 6 = .ok (.if_icmp .ge 7, 3) := by decide +kernel
theorem d_Mo_isGate_9 : decode cX9_isGate 9 = .ok (.iconst 1, 1) := by decide +kernel
theorem d_Mo_isGate_10 : decode cX9_isGate 10 = .ok (.goto 4, 3) := by decide +kernel
theorem d_Mo_isGate_13 : decode cX9_isGate 13 = .ok (.iconst 0, 1) := by decide +kernel
theorem d_Mo_isGate_14 : decode cX9_isGate 14 = .ok (.ireturn, 1) := by decide +kernel
theorem d_Mo_officer_0 : decode cX9_officer 0 = .ok (.aload_n 0, 1) := by decide +kernel
theorem d_Mo_officer_1 : decode cX9_officer 1 = .ok (.iconst 0, 1) := by decide +kernel
theorem d_Mo_officer_2 : decode cX9_officer 2 = .ok (.putfield 140, 3) := by decide +kernel
theorem d_Mo_officer_5 : decode cX9_officer 5 = .ok (.aload_n 0, 1) := by decide +kernel
theorem d_Mo_officer_6 : decode cX9_officer 6 = .ok (.iload_n 1, 1) := by decide +kernel
theorem d_Mo_officer_7 : decode cX9_officer 7 = .ok (.invokevirtual 166, 3) := by decide +kernel
theorem d_Mo_officer_10 : decode cX9_officer 10 = .ok (.ifCond .eq 34, 3) := by decide +kernel
theorem d_Mo_officer_13 : decode cX9_officer 13 = .ok (.aload_n 0, 1) := by decide +kernel
theorem d_Mo_officer_14 : decode cX9_officer 14 = .ok (.iload_n 2, 1) := by decide +kernel
theorem d_Mo_officer_15 : decode cX9_officer 15 = .ok (.iconst 0, 1) := by decide +kernel
theorem d_Mo_officer_16 : decode cX9_officer 16 = .ok (.bipush 9, 2) := by decide +kernel
theorem d_Mo_officer_18 : decode cX9_officer 18 = .ok (.invokevirtual 162, 3) := by decide +kernel
theorem d_Mo_officer_21 : decode cX9_officer 21 = .ok (.ifCond .eq 23, 3) := by decide +kernel
theorem d_Mo_officer_24 : decode cX9_officer 24 = .ok (.aload_n 0, 1) := by decide +kernel
theorem d_Mo_officer_25 : decode cX9_officer 25 = .ok (.iload_n 3, 1) := by decide +kernel
theorem d_Mo_officer_26 : decode cX9_officer 26 = .ok (.iconst 0, 1) := by decide +kernel
theorem d_Mo_officer_27 : decode cX9_officer 27 = .ok (.bipush 9, 2) := by decide +kernel
theorem d_Mo_officer_29 : decode cX9_officer 29 = .ok (.invokevirtual 162, 3) := by decide +kernel
theorem d_Mo_officer_32 : decode cX9_officer 32 = .ok (.ifCond .eq 12, 3) := by decide +kernel
theorem d_Mo_officer_35 : decode cX9_officer 35 = .ok (.aload_n 0, 1) := by decide +kernel
theorem d_Mo_officer_36 : decode cX9_officer 36 = .ok (.getfield 155, 3) := by decide +kernel
theorem d_Mo_officer_39 : decode cX9_officer 39 = .ok (.bipush 6, 2) := by decide +kernel
theorem d_Mo_officer_41 : decode cX9_officer 41 = .ok (.if_icmp .ne 5, 3) := by decide +kernel
theorem d_Mo_officer_44 : decode cX9_officer 44 = .ok (.iconst (-1), 1) := by decide +kernel
theorem d_Mo_officer_45 : decode cX9_officer 45 = .ok (.ireturn, 1) := by decide +kernel
theorem d_Mo_officer_46 : decode cX9_officer 46 = .ok (.aload_n 0, 1) := by decide +kernel
theorem d_Mo_officer_47 : decode cX9_officer 47 = .ok (.getfield 7, 3) := by decide +kernel
theorem d_Mo_officer_50 : decode cX9_officer 50 = .ok (.bipush 67, 2) := by decide +kernel
theorem d_Mo_officer_52 : decode cX9_officer 52 = .ok (.aload_n 0, 1) := by decide +kernel
theorem d_Mo_officer_53 : decode cX9_officer 53 = .ok (.getfield 155, 3) := by decide +kernel
theorem d_Mo_officer_56 : decode cX9_officer 56 = .ok (.iadd, 1) := by decide +kernel
theorem d_Mo_officer_57 : decode cX9_officer 57 = .ok (.iload_n 1, 1) := by decide +kernel
theorem d_Mo_officer_58 : decode cX9_officer 58 = .ok (.iastore, 1) := by decide +kernel
theorem d_Mo_officer_59 : decode cX9_officer 59 = .ok (.aload_n 0, 1) := by decide +kernel
theorem d_Mo_officer_60 : decode cX9_officer 60 = .ok (.getfield 7, 3) := by decide +kernel
theorem d_Mo_officer_63 : decode cX9_officer 63 = .ok (.bipush 73, 2) := by decide +kernel
theorem d_Mo_officer_65 : decode cX9_officer 65 = .ok (.aload_n 0, 1) := by decide +kernel
theorem d_Mo_officer_66 : decode cX9_officer 66 = .ok (.getfield 155, 3) := by decide +kernel
theorem d_Mo_officer_69 : decode cX9_officer 69 = .ok (.iadd, 1) := by decide +kernel
theorem d_Mo_officer_70 : decode cX9_officer 70 = .ok (.iconst 0, 1) := by decide +kernel
theorem d_Mo_officer_71 : decode cX9_officer 71 = .ok (.iastore, 1) := by decide +kernel
theorem d_Mo_officer_72 : decode cX9_officer 72 = .ok (.aload_n 0, 1) := by decide +kernel
theorem d_Mo_officer_73 : decode cX9_officer 73 = .ok (.getfield 25, 3) := by decide +kernel
theorem d_Mo_officer_76 : decode cX9_officer 76 = .ok (.aload_n 0, 1) := by decide +kernel
theorem d_Mo_officer_77 : decode cX9_officer 77 = .ok (.getfield 155, 3) := by decide +kernel
theorem d_Mo_officer_80 : decode cX9_officer 80 = .ok (.iload_n 2, 1) := by decide +kernel
theorem d_Mo_officer_81 : decode cX9_officer 81 = .ok (.iastore, 1) := by decide +kernel
theorem d_Mo_officer_82 : decode cX9_officer 82 = .ok (.aload_n 0, 1) := by decide +kernel
theorem d_Mo_officer_83 : decode cX9_officer 83 = .ok (.getfield 28, 3) := by decide +kernel
theorem d_Mo_officer_86 : decode cX9_officer 86 = .ok (.aload_n 0, 1) := by decide +kernel
theorem d_Mo_officer_87 : decode cX9_officer 87 = .ok (.getfield 155, 3) := by decide +kernel
theorem d_Mo_officer_90 : decode cX9_officer 90 = .ok (.iload_n 3, 1) := by decide +kernel
theorem d_Mo_officer_91 : decode cX9_officer 91 = .ok (.iastore, 1) := by decide +kernel
theorem d_Mo_officer_92 : decode cX9_officer 92 = .ok (.aload_n 0, 1) := by decide +kernel
theorem d_Mo_officer_93 : decode cX9_officer 93 = .ok (.aload_n 0, 1) := by decide +kernel
theorem d_Mo_officer_94 : decode cX9_officer 94 = .ok (.getfield 155, 3) := by decide +kernel
theorem d_Mo_officer_97 : decode cX9_officer 97 = .ok (.iconst 1, 1) := by decide +kernel
theorem d_Mo_officer_98 : decode cX9_officer 98 = .ok (.iadd, 1) := by decide +kernel
theorem d_Mo_officer_99 : decode cX9_officer 99 = .ok (.putfield 155, 3) := by decide +kernel
theorem d_Mo_officer_102 : decode cX9_officer 102 = .ok (.aload_n 0, 1) := by decide +kernel
theorem d_Mo_officer_103 : decode cX9_officer 103 = .ok (.iconst 0, 1) := by decide +kernel
theorem d_Mo_officer_104 : decode cX9_officer 104 = .ok (.putfield 143, 3) := by decide +kernel
theorem d_Mo_officer_107 : decode cX9_officer 107 = .ok (.aload_n 0, 1) := by decide +kernel
theorem d_Mo_officer_108 : decode cX9_officer 108 = .ok (.getfield 155, 3) := by decide +kernel
theorem d_Mo_officer_111 : decode cX9_officer 111 = .ok (.iconst 1, 1) := by decide +kernel
theorem d_Mo_officer_112 : decode cX9_officer 112 = .ok (.isub, 1) := by decide +kernel
theorem d_Mo_officer_113 : decode cX9_officer 113 = .ok (.ireturn, 1) := by decide +kernel
theorem d_Mo_isTraveller_0 : decode cX9_isTraveller 0 = .ok (.iload_n 1, 1) := by decide +kernel
theorem d_Mo_isTraveller_1 : decode cX9_isTraveller 1 = .ok (.ifCond .lt 15, 3) := by decide +kernel
theorem d_Mo_isTraveller_4 : decode cX9_isTraveller 4 = .ok (.iload_n 1, 1) := by decide +kernel
theorem d_Mo_isTraveller_5 : decode cX9_isTraveller 5 = .ok (.aload_n 0, 1) := by decide +kernel
theorem d_Mo_isTraveller_6 : decode cX9_isTraveller 6 = .ok (.getfield 152, 3) := by decide +kernel
theorem d_Mo_isTraveller_9 : decode cX9_isTraveller 9 = .ok (.if_icmp .ge 7, 3) := by decide +kernel
theorem d_Mo_isTraveller_12 : decode cX9_isTraveller 12 = .ok (.iconst 1, 1) := by decide +kernel
theorem d_Mo_isTraveller_13 : decode cX9_isTraveller 13 = .ok (.goto 4, 3) := by decide +kernel
theorem d_Mo_isTraveller_16 : decode cX9_isTraveller 16 = .ok (.iconst 0, 1) := by decide +kernel
theorem d_Mo_isTraveller_17 : decode cX9_isTraveller 17 = .ok (.ireturn, 1) := by decide +kernel
theorem d_Mo_isOfficer_0 : decode cX9_isOfficer 0 = .ok (.iload_n 1, 1) := by decide +kernel
theorem d_Mo_isOfficer_1 : decode cX9_isOfficer 1 = .ok (.ifCond .lt 15, 3) := by decide +kernel
theorem d_Mo_isOfficer_4 : decode cX9_isOfficer 4 = .ok (.iload_n 1, 1) := by decide +kernel
theorem d_Mo_isOfficer_5 : decode cX9_isOfficer 5 = .ok (.aload_n 0, 1) := by decide +kernel
theorem d_Mo_isOfficer_6 : decode cX9_isOfficer 6 = .ok (.getfield 155, 3) := by decide +kernel
theorem d_Mo_isOfficer_9 : decode cX9_isOfficer 9 = .ok (.if_icmp .ge 7, 3) := by decide +kernel
theorem d_Mo_isOfficer_12 : decode cX9_isOfficer 12 = .ok (.iconst 1, 1) := by decide +kernel
theorem d_Mo_isOfficer_13 : decode cX9_isOfficer 13 = .ok (.goto 4, 3) := by decide +kernel
theorem d_Mo_isOfficer_16 : decode cX9_isOfficer 16 = .ok (.iconst 0, 1) := by decide +kernel
theorem d_Mo_isOfficer_17 : decode cX9_isOfficer 17 = .ok (.ireturn, 1) := by decide +kernel
theorem d_Mo_canSet_0 : decode cX9_canSet 0 = .ok (.aload_n 0, 1) := by decide +kernel
theorem d_Mo_canSet_1 : decode cX9_canSet 1 = .ok (.iload_n 1, 1) := by decide +kernel
theorem d_Mo_canSet_2 : decode cX9_canSet 2 = .ok (.iconst 0, 1) := by decide +kernel
theorem d_Mo_canSet_3 : decode cX9_canSet 3 = .ok (.iconst 2, 1) := by decide +kernel
theorem d_Mo_canSet_4 : decode cX9_canSet 4 = .ok (.invokevirtual 162, 3) := by decide +kernel
theorem d_Mo_canSet_7 : decode cX9_canSet 7 = .ok (.ifCond .eq 48, 3) := by decide +kernel
theorem d_Mo_canSet_10 : decode cX9_canSet 10 = .ok (.aload_n 0, 1) := by decide +kernel
theorem d_Mo_canSet_11 : decode cX9_canSet 11 = .ok (.iload_n 2, 1) := by decide +kernel
theorem d_Mo_canSet_12 : decode cX9_canSet 12 = .ok (.invokevirtual 170, 3) := by decide +kernel
theorem d_Mo_canSet_15 : decode cX9_canSet 15 = .ok (.ifCond .eq 38, 3) := by decide +kernel
theorem d_Mo_canSet_18 : decode cX9_canSet 18 = .ok (.aload_n 0, 1) := by decide +kernel
theorem d_Mo_canSet_19 : decode cX9_canSet 19 = .ok (.iload_n 3, 1) := by decide +kernel
theorem d_Mo_canSet_20 : decode cX9_canSet 20 = .ok (.iconst 0, 1) := by decide +kernel
theorem d_Mo_canSet_21 : decode cX9_canSet 21 = .ok (.iload_n 1, 1) := by decide +kernel
theorem d_Mo_canSet_22 : decode cX9_canSet 22 = .ok (.ifCond .ne 9, 3) := by decide +kernel
theorem d_Mo_canSet_25 : decode cX9_canSet 25 = .ok (.sipush 9999, 3) := by decide +kernel
theorem d_Mo_canSet_28 : decode cX9_canSet 28 = .ok (.goto 15, 3) := by decide +kernel
theorem d_Mo_canSet_31 : decode cX9_canSet 31 = .ok (.iload_n 1, 1) := by decide +kernel
theorem d_Mo_canSet_32 : decode cX9_canSet 32 = .ok (.iconst 1, 1) := by decide +kernel
theorem d_Mo_canSet_33 : decode cX9_canSet 33 = .ok (.if_icmp .ne 8, 3) := by decide +kernel
theorem d_Mo_canSet_36 : decode cX9_canSet 36 = .ok (.bipush 99, 2) := by decide +kernel
theorem d_Mo_canSet_38 : decode cX9_canSet 38 = .ok (.goto 5, 3) := by decide +kernel
theorem d_Mo_canSet_41 : decode cX9_canSet 41 = .ok (.bipush 9, 2) := by decide +kernel
theorem d_Mo_canSet_43 : decode cX9_canSet 43 = .ok (.invokevirtual 162, 3) := by decide +kernel
theorem d_Mo_canSet_46 : decode cX9_canSet 46 = .ok (.ifCond .eq 7, 3) := by decide +kernel
theorem d_Mo_canSet_49 : decode cX9_canSet 49 = .ok (.iconst 1, 1) := by decide +kernel
theorem d_Mo_canSet_50 : decode cX9_canSet 50 = .ok (.goto 4, 3) := by decide +kernel
theorem d_Mo_canSet_53 : decode cX9_canSet 53 = .ok (.iconst 0, 1) := by decide +kernel
theorem d_Mo_canSet_54 : decode cX9_canSet 54 = .ok (.ireturn, 1) := by decide +kernel
theorem d_Mo_canSet_55 : decode cX9_canSet 55 = .ok (.aload_n 0, 1) := by decide +kernel
theorem d_Mo_canSet_56 : decode cX9_canSet 56 = .ok (.iload_n 1, 1) := by decide +kernel
theorem d_Mo_canSet_57 : decode cX9_canSet 57 = .ok (.iconst 3, 1) := by decide +kernel
theorem d_Mo_canSet_58 : decode cX9_canSet 58 = .ok (.iconst 4, 1) := by decide +kernel
theorem d_Mo_canSet_59 : decode cX9_canSet 59 = .ok (.invokevirtual 162, 3) := by decide +kernel
theorem d_Mo_canSet_62 : decode cX9_canSet 62 = .ok (.ifCond .eq 26, 3) := by decide +kernel
theorem d_Mo_canSet_65 : decode cX9_canSet 65 = .ok (.aload_n 0, 1) := by decide +kernel
theorem d_Mo_canSet_66 : decode cX9_canSet 66 = .ok (.iload_n 2, 1) := by decide +kernel
theorem d_Mo_canSet_67 : decode cX9_canSet 67 = .ok (.invokevirtual 173, 3) := by decide +kernel
theorem d_Mo_canSet_70 : decode cX9_canSet 70 = .ok (.ifCond .eq 18, 3) := by decide +kernel
theorem d_Mo_canSet_73 : decode cX9_canSet 73 = .ok (.aload_n 0, 1) := by decide +kernel
theorem d_Mo_canSet_74 : decode cX9_canSet 74 = .ok (.iload_n 3, 1) := by decide +kernel
theorem d_Mo_canSet_75 : decode cX9_canSet 75 = .ok (.iconst 0, 1) := by decide +kernel
theorem d_Mo_canSet_76 : decode cX9_canSet 76 = .ok (.bipush 9, 2) := by decide +kernel
theorem d_Mo_canSet_78 : decode cX9_canSet 78 = .ok (.invokevirtual 162, 3) := by decide +kernel
theorem d_Mo_canSet_81 : decode cX9_canSet 81 = .ok (.ifCond .eq 7, 3) := by decide +kernel
theorem d_Mo_canSet_84 : decode cX9_canSet 84 = .ok (.iconst 1, 1) := by decide +kernel
theorem d_Mo_canSet_85 : decode cX9_canSet 85 = .ok (.goto 4, 3) := by decide +kernel
theorem d_Mo_canSet_88 : decode cX9_canSet 88 = .ok (.iconst 0, 1) := by decide +kernel
theorem d_Mo_canSet_89 : decode cX9_canSet 89 = .ok (.ireturn, 1) := by decide +kernel
theorem d_Mo_set_0 : decode cX9_set 0 = .ok (.aload_n 0, 1) := by decide +kernel
theorem d_Mo_set_1 : decode cX9_set 1 = .ok (.iconst 0, 1) := by decide +kernel
theorem d_Mo_set_2 : decode cX9_set 2 = .ok (.putfield 140, 3) := by decide +kernel
theorem d_Mo_set_5 : decode cX9_set 5 = .ok (.aload_n 0, 1) := by decide +kernel
theorem d_Mo_set_6 : decode cX9_set 6 = .ok (.iload_n 1, 1) := by decide +kernel
theorem d_Mo_set_7 : decode cX9_set 7 = .ok (.iload_n 2, 1) := by decide +kernel
theorem d_Mo_set_8 : decode cX9_set 8 = .ok (.iload_n 3, 1) := by decide +kernel
theorem d_Mo_set_9 : decode cX9_set 9 = .ok (.invokevirtual 176, 3) := by decide +kernel
theorem d_Mo_set_12 : decode cX9_set 12 = .ok (.ifCond .ne 5, 3) := by decide +kernel
theorem d_Mo_set_15 : decode cX9_set 15 = .ok (.iconst 0, 1) := by decide +kernel
theorem d_Mo_set_16 : decode cX9_set 16 = .ok (.ireturn, 1) := by decide +kernel
theorem d_Mo_set_17 : decode cX9_set 17 = .ok (.iload_n 1, 1) := by decide +kernel
theorem d_Mo_set_18 : decode cX9_set 18 = .ok (.ifCond .ne 13, 3) := by decide +kernel
theorem d_Mo_set_21 : decode cX9_set 21 = .ok (.aload_n 0, 1) := by decide +kernel
theorem d_Mo_set_22 : decode cX9_set 22 = .ok (.getfield 7, 3) := by decide +kernel
theorem d_Mo_set_25 : decode cX9_set 25 = .ok (.bipush 7, 2) := by decide +kernel
theorem d_Mo_set_27 : decode cX9_set 27 = .ok (.iload_n 2, 1) := by decide +kernel
theorem d_Mo_set_28 : decode cX9_set 28 = .ok (.iadd, 1) := by decide +kernel
theorem d_Mo_set_29 : decode cX9_set 29 = .ok (.iload_n 3, 1) := by decide +kernel
theorem d_Mo_set_30 : decode cX9_set 30 = .ok (.iastore, 1) := by decide +kernel
theorem d_Mo_set_31 : decode cX9_set 31 = .ok (.iload_n 1, 1) := by decide +kernel
theorem d_Mo_set_32 : decode cX9_set 32 = .ok (.iconst 1, 1) := by decide +kernel
theorem d_Mo_set_33 : decode cX9_set 33 = .ok (.if_icmp .ne 13, 3) := by decide +kernel
theorem d_Mo_set_36 : decode cX9_set 36 = .ok (.aload_n 0, 1) := by decide +kernel
theorem d_Mo_set_37 : decode cX9_set 37 = .ok (.getfield 7, 3) := by decide +kernel
theorem d_Mo_set_40 : decode cX9_set 40 = .ok (.bipush 19, 2) := by decide +kernel
theorem d_Mo_set_42 : decode cX9_set 42 = .ok (.iload_n 2, 1) := by decide +kernel
theorem d_Mo_set_43 : decode cX9_set 43 = .ok (.iadd, 1) := by decide +kernel
theorem d_Mo_set_44 : decode cX9_set 44 = .ok (.iload_n 3, 1) := by decide +kernel
theorem d_Mo_set_45 : decode cX9_set 45 = .ok (.iastore, 1) := by decide +kernel
theorem d_Mo_set_46 : decode cX9_set 46 = .ok (.iload_n 1, 1) := by decide +kernel
theorem d_Mo_set_47 : decode cX9_set 47 = .ok (.iconst 2, 1) := by decide +kernel
theorem d_Mo_set_48 : decode cX9_set 48 = .ok (.if_icmp .ne 10, 3) := by decide +kernel
theorem d_Mo_set_51 : decode cX9_set 51 = .ok (.aload_n 0, 1) := by decide +kernel
theorem d_Mo_set_52 : decode cX9_set 52 = .ok (.getfield 22, 3) := by decide +kernel
theorem d_Mo_set_55 : decode cX9_set 55 = .ok (.iload_n 2, 1) := by decide +kernel
theorem d_Mo_set_56 : decode cX9_set 56 = .ok (.iload_n 3, 1) := by decide +kernel
theorem d_Mo_set_57 : decode cX9_set 57 = .ok (.iastore, 1) := by decide +kernel
theorem d_Mo_set_58 : decode cX9_set 58 = .ok (.iload_n 1, 1) := by decide +kernel
theorem d_Mo_set_59 : decode cX9_set 59 = .ok (.iconst 3, 1) := by decide +kernel
theorem d_Mo_set_60 : decode cX9_set 60 = .ok (.if_icmp .ne 13, 3) := by decide +kernel
theorem d_Mo_set_63 : decode cX9_set 63 = .ok (.aload_n 0, 1) := by decide +kernel
theorem d_Mo_set_64 : decode cX9_set 64 = .ok (.getfield 7, 3) := by decide +kernel
theorem d_Mo_set_67 : decode cX9_set 67 = .ok (.bipush 73, 2) := by decide +kernel
theorem d_Mo_set_69 : decode cX9_set 69 = .ok (.iload_n 2, 1) := by decide +kernel
theorem d_Mo_set_70 : decode cX9_set 70 = .ok (.iadd, 1) := by decide +kernel
theorem d_Mo_set_71 : decode cX9_set 71 = .ok (.iload_n 3, 1) := by decide +kernel
theorem d_Mo_set_72 : decode cX9_set 72 = .ok (.iastore, 1) := by decide +kernel
theorem d_Mo_set_73 : decode cX9_set 73 = .ok (.iload_n 1, 1) := by decide +kernel
theorem d_Mo_set_74 : decode cX9_set 74 = .ok (.iconst 4, 1) := by decide +kernel
theorem d_Mo_set_75 : decode cX9_set 75 = .ok (.if_icmp .ne 10, 3) := by decide +kernel
theorem d_Mo_set_78 : decode cX9_set 78 = .ok (.aload_n 0, 1) := by decide +kernel
theorem d_Mo_set_79 : decode cX9_set 79 = .ok (.getfield 28, 3) := by decide +kernel
theorem d_Mo_set_82 : decode cX9_set 82 = .ok (.iload_n 2, 1) := by decide +kernel
theorem d_Mo_set_83 : decode cX9_set 83 = .ok (.iload_n 3, 1) := by decide +kernel
theorem d_Mo_set_84 : decode cX9_set 84 = .ok (.iastore, 1) := by decide +kernel
theorem d_Mo_set_85 : decode cX9_set 85 = .ok (.aload_n 0, 1) := by decide +kernel
theorem d_Mo_set_86 : decode cX9_set 86 = .ok (.iconst 0, 1) := by decide +kernel
theorem d_Mo_set_87 : decode cX9_set 87 = .ok (.putfield 143, 3) := by decide +kernel
theorem d_Mo_set_90 : decode cX9_set 90 = .ok (.iconst 1, 1) := by decide +kernel
theorem d_Mo_set_91 : decode cX9_set 91 = .ok (.ireturn, 1) := by decide +kernel
theorem d_Mo_types_0 : decode cX9_types 0 = .ok (.bipush 24, 2) := by decide +kernel
theorem d_Mo_types_2 : decode cX9_types 2 = .ok (.istore_n 2, 1) := by decide +kernel
theorem d_Mo_types_3 : decode cX9_types 3 = .ok (.iload_n 2, 1) := by decide +kernel
theorem d_Mo_types_4 : decode cX9_types 4 = .ok (.ifCond .lt 35, 3) := by decide +kernel
theorem d_Mo_types_7 : decode cX9_types 7 = .ok (.aload_n 0, 1) := by decide +kernel
theorem d_Mo_types_8 : decode cX9_types 8 = .ok (.getfield 34, 3) := by decide +kernel
theorem d_Mo_types_11 : decode cX9_types 11 = .ok (.aload_n 0, 1) := by decide +kernel
theorem d_Mo_types_12 : decode cX9_types 12 = .ok (.getfield 179, 3) := by decide +kernel
theorem d_Mo_types_15 : decode cX9_types 15 = .ok (.iload_n 1, 1) := by decide +kernel
theorem d_Mo_types_16 : decode cX9_types 16 = .ok (.iload_n 2, 1) := by decide +kernel
theorem d_Mo_types_17 : decode cX9_types 17 = .ok (.ishr, 1) := by decide +kernel
theorem d_Mo_types_18 : decode cX9_types 18 = .ok (.sipush 255, 3) := by decide +kernel
theorem d_Mo_types_21 : decode cX9_types 21 = .ok (.iand, 1) := by decide +kernel
theorem d_Mo_types_22 : decode cX9_types 22 = .ok (.iastore, 1) := by decide +kernel
theorem d_Mo_types_23 : decode cX9_types 23 = .ok (.aload_n 0, 1) := by decide +kernel
theorem d_Mo_types_24 : decode cX9_types 24 = .ok (.aload_n 0, 1) := by decide +kernel
theorem d_Mo_types_25 : decode cX9_types 25 = .ok (.getfield 179, 3) := by decide +kernel
theorem d_Mo_types_28 : decode cX9_types 28 = .ok (.iconst 1, 1) := by decide +kernel
theorem d_Mo_types_29 : decode cX9_types 29 = .ok (.iadd, 1) := by decide +kernel
theorem d_Mo_types_30 : decode cX9_types 30 = .ok (.putfield 179, 3) := by decide +kernel
theorem d_Mo_types_33 : decode cX9_types 33 = .ok (.iinc 2 (-8), 3) := by decide +kernel
theorem d_Mo_types_36 : decode cX9_types 36 = .ok (.goto (-33), 3) := by decide +kernel
theorem d_Mo_types_39 : decode cX9_types 39 = .ok (.return_, 1) := by decide +kernel
theorem d_Mo_feed_0 : decode cX9_feed 0 = .ok (.aload_n 0, 1) := by decide +kernel
theorem d_Mo_feed_1 : decode cX9_feed 1 = .ok (.iconst 0, 1) := by decide +kernel
theorem d_Mo_feed_2 : decode cX9_feed 2 = .ok (.putfield 140, 3) := by decide +kernel
theorem d_Mo_feed_5 : decode cX9_feed 5 = .ok (.aload_n 0, 1) := by decide +kernel
theorem d_Mo_feed_6 : decode cX9_feed 6 = .ok (.getfield 179, 3) := by decide +kernel
theorem d_Mo_feed_9 : decode cX9_feed 9 = .ok (.sipush 380, 3) := by decide +kernel
theorem d_Mo_feed_12 : decode cX9_feed 12 = .ok (.if_icmp .le 5, 3) := by decide +kernel
theorem d_Mo_feed_15 : decode cX9_feed 15 = .ok (.iconst (-1), 1) := by decide +kernel
theorem d_Mo_feed_16 : decode cX9_feed 16 = .ok (.ireturn, 1) := by decide +kernel
theorem d_Mo_feed_17 : decode cX9_feed 17 = .ok (.aload_n 0, 1) := by decide +kernel
theorem d_Mo_feed_18 : decode cX9_feed 18 = .ok (.iload_n 1, 1) := by decide +kernel
theorem d_Mo_feed_19 : decode cX9_feed 19 = .ok (.invokevirtual 182, 3) := by decide +kernel
theorem d_Mo_feed_22 : decode cX9_feed 22 = .ok (.aload_n 0, 1) := by decide +kernel
theorem d_Mo_feed_23 : decode cX9_feed 23 = .ok (.iload_n 2, 1) := by decide +kernel
theorem d_Mo_feed_24 : decode cX9_feed 24 = .ok (.invokevirtual 182, 3) := by decide +kernel
theorem d_Mo_feed_27 : decode cX9_feed 27 = .ok (.aload_n 0, 1) := by decide +kernel
theorem d_Mo_feed_28 : decode cX9_feed 28 = .ok (.iload_n 3, 1) := by decide +kernel
theorem d_Mo_feed_29 : decode cX9_feed 29 = .ok (.invokevirtual 182, 3) := by decide +kernel
theorem d_Mo_feed_32 : decode cX9_feed 32 = .ok (.aload_n 0, 1) := by decide +kernel
theorem d_Mo_feed_33 : decode cX9_feed 33 = .ok (.iload 4, 2) := by decide +kernel
theorem d_Mo_feed_35 : decode cX9_feed 35 = .ok (.invokevirtual 182, 3) := by decide +kernel
theorem d_Mo_feed_38 : decode cX9_feed 38 = .ok (.aload_n 0, 1) := by decide +kernel
theorem d_Mo_feed_39 : decode cX9_feed 39 = .ok (.iload 5, 2) := by decide +kernel
theorem d_Mo_feed_41 : decode cX9_feed 41 = .ok (.invokevirtual 182, 3) := by decide +kernel
theorem d_Mo_feed_44 : decode cX9_feed 44 = .ok (.aload_n 0, 1) := by decide +kernel
theorem d_Mo_feed_45 : decode cX9_feed 45 = .ok (.getfield 179, 3) := by decide +kernel
theorem d_Mo_feed_48 : decode cX9_feed 48 = .ok (.ireturn, 1) := by decide +kernel
theorem d_Mo_end_0 : decode cX9_end 0 = .ok (.aload_n 0, 1) := by decide +kernel
theorem d_Mo_end_1 : decode cX9_end 1 = .ok (.iconst 0, 1) := by decide +kernel
theorem d_Mo_end_2 : decode cX9_end 2 = .ok (.putfield 140, 3) := by decide +kernel
theorem d_Mo_end_5 : decode cX9_end 5 = .ok (.aload_n 0, 1) := by decide +kernel
theorem d_Mo_end_6 : decode cX9_end 6 = .ok (.iload_n 1, 1) := by decide +kernel
theorem d_Mo_end_7 : decode cX9_end 7 = .ok (.iconst 0, 1) := by decide +kernel
theorem d_Mo_end_8 : decode cX9_end 8 = .ok (.aload_n 0, 1) := by decide +kernel
theorem d_Mo_end_9 : decode cX9_end 9 = .ok (.getfield 179, 3) := by decide +kernel
theorem d_Mo_end_12 : decode cX9_end 12 = .ok (.invokevirtual 162, 3) := by decide +kernel
theorem d_Mo_end_15 : decode cX9_end 15 = .ok (.ifCond .ne 5, 3) := by decide +kernel
theorem d_Mo_end_18 : decode cX9_end 18 = .ok (.iconst 0, 1) := by decide +kernel
theorem d_Mo_end_19 : decode cX9_end 19 = .ok (.ireturn, 1) := by decide +kernel
theorem d_Mo_end_20 : decode cX9_end 20 = .ok (.aload_n 0, 1) := by decide +kernel
theorem d_Mo_end_21 : decode cX9_end 21 = .ok (.iload_n 1, 1) := by decide +kernel
theorem d_Mo_end_22 : decode cX9_end 22 = .ok (.putfield 179, 3) := by decide +kernel
theorem d_Mo_end_25 : decode cX9_end 25 = .ok (.iconst 1, 1) := by decide +kernel
theorem d_Mo_end_26 : decode cX9_end 26 = .ok (.ireturn, 1) := by decide +kernel
theorem d_Mo_raw_0 : decode cX9_raw 0 = .ok (.iload_n 1, 1) := by decide +kernel
theorem d_Mo_raw_1 : decode cX9_raw 1 = .ok (.aload_n 0, 1) := by decide +kernel
theorem d_Mo_raw_2 : decode cX9_raw 2 = .ok (.getfield 179, 3) := by decide +kernel
theorem d_Mo_raw_5 : decode cX9_raw 5 = .ok (.if_icmp .ge 12, 3) := by decide +kernel
theorem d_Mo_raw_8 : decode cX9_raw 8 = .ok (.aload_n 0, 1) := by decide +kernel
theorem d_Mo_raw_9 : decode cX9_raw 9 = .ok (.getfield 34, 3) := by decide +kernel
theorem d_Mo_raw_12 : decode cX9_raw 12 = .ok (.iload_n 1, 1) := by decide +kernel
theorem d_Mo_raw_13 : decode cX9_raw 13 = .ok (.iaload, 1) := by decide +kernel
theorem d_Mo_raw_14 : decode cX9_raw 14 = .ok (.goto 4, 3) := by decide +kernel
theorem d_Mo_raw_17 : decode cX9_raw 17 = .ok (.iconst (-1), 1) := by decide +kernel
theorem d_Mo_raw_18 : decode cX9_raw 18 = .ok (.ireturn, 1) := by decide +kernel
theorem d_Mo_isLetter_0 : decode cX9_isLetter 0 = .ok (.aload_n 0, 1) := by decide +kernel
theorem d_Mo_isLetter_1 : decode cX9_isLetter 1 = .ok (.iload_n 1, 1) := by decide +kernel
theorem d_Mo_isLetter_2 : decode cX9_isLetter 2 = .ok (.bipush 97, 2) := by decide +kernel
theorem d_Mo_isLetter_4 : decode cX9_isLetter 4 = .ok (.bipush 122, 2) := by decide +kernel
theorem d_Mo_isLetter_6 : decode cX9_isLetter 6 = .ok (.invokevirtual 162, 3) := by decide +kernel
theorem d_Mo_isLetter_9 : decode cX9_isLetter 9 = .ok (.ifCond .ne 15, 3) := by decide +kernel
theorem d_Mo_isLetter_12 : decode cX9_isLetter 12 = .ok (.aload_n 0, 1) := by decide +kernel
theorem d_Mo_isLetter_13 : decode cX9_isLetter 13 = .ok (.iload_n 1, 1) := by decide +kernel
theorem d_Mo_isLetter_14 : decode cX9_isLetter 14 = .ok (.bipush 65, 2) := by decide +kernel
theorem d_Mo_isLetter_16 : decode cX9_isLetter 16 = .ok (.bipush 90, 2) := by decide +kernel
theorem d_Mo_isLetter_18 : decode cX9_isLetter 18 = .ok (.invokevirtual 162, 3) := by decide +kernel
theorem d_Mo_isLetter_21 : decode cX9_isLetter 21 = .ok (.ifCond .eq 7, 3) := by decide +kernel
theorem d_Mo_isLetter_24 : decode cX9_isLetter 24 = .ok (.iconst 1, 1) := by decide +kernel
theorem d_Mo_isLetter_25 : decode cX9_isLetter 25 = .ok (.goto 4, 3) := by decide +kernel
theorem d_Mo_isLetter_28 : decode cX9_isLetter 28 = .ok (.iconst 0, 1) := by decide +kernel
theorem d_Mo_isLetter_29 : decode cX9_isLetter 29 = .ok (.ireturn, 1) := by decide +kernel
theorem d_Mo_wordAt_0 : decode cX9_wordAt 0 = .ok (.iconst (-1), 1) := by decide +kernel
theorem d_Mo_wordAt_1 : decode cX9_wordAt 1 = .ok (.istore_n 3, 1) := by decide +kernel
theorem d_Mo_wordAt_2 : decode cX9_wordAt 2 = .ok (.iconst 0, 1) := by decide +kernel
theorem d_Mo_wordAt_3 : decode cX9_wordAt 3 = .ok (.istore 4, 2) := by decide +kernel
theorem d_Mo_wordAt_5 : decode cX9_wordAt 5 = .ok (.iload 4, 2) := by decide +kernel
theorem d_Mo_wordAt_7 : decode cX9_wordAt 7 = .ok (.sipush 143, 3) := by decide +kernel
theorem d_Mo_wordAt_10 : decode cX9_wordAt 10 = .ok (.if_icmp .ge 108, 3) := by decide +kernel
theorem d_Mo_wordAt_13 : decode cX9_wordAt 13 = .ok (.iconst 0, 1) := by decide +kernel
theorem d_Mo_wordAt_14 : decode cX9_wordAt 14 = .ok (.istore 5, 2) := by decide +kernel
theorem d_Mo_wordAt_16 : decode cX9_wordAt 16 = .ok (.iload_n 3, 1) := by decide +kernel
theorem d_Mo_wordAt_17 : decode cX9_wordAt 17 = .ok (.iconst 1, 1) := by decide +kernel
theorem d_Mo_wordAt_18 : decode cX9_wordAt 18 = .ok (.iadd, 1) := by decide +kernel
theorem d_Mo_wordAt_19 : decode cX9_wordAt 19 = .ok (.istore_n 3, 1) := by decide +kernel
theorem d_Mo_wordAt_20 : decode cX9_wordAt 20 = .ok (.iload_n 1, 1) := by decide +kernel
theorem d_Mo_wordAt_21 : decode cX9_wordAt 21 = .ok (.iload 5, 2) := by decide +kernel
theorem d_Mo_wordAt_23 : decode cX9_wordAt 23 = .ok (.iadd, 1) := by decide +kernel
theorem d_Mo_wordAt_24 : decode cX9_wordAt 24 = .ok (.iload_n 2, 1) := by decide +kernel
theorem d_Mo_wordAt_25 : decode cX9_wordAt 25 = .ok (.if_icmp .ge 36, 3) := by decide +kernel
theorem d_Mo_wordAt_28 : decode cX9_wordAt 28 = .ok (.aload_n 0, 1) := by decide +kernel
theorem d_Mo_wordAt_29 : decode cX9_wordAt 29 = .ok (.getfield 37, 3) := by decide +kernel
theorem d_Mo_wordAt_32 : decode cX9_wordAt 32 = .ok (.iload 4, 2) := by decide +kernel
theorem d_Mo_wordAt_34 : decode cX9_wordAt 34 = .ok (.iconst 1, 1) := by decide +kernel
theorem d_Mo_wordAt_35 : decode cX9_wordAt 35 = .ok (.iadd, 1) := by decide +kernel
theorem d_Mo_wordAt_36 : decode cX9_wordAt 36 = .ok (.iload 5, 2) := by decide +kernel
theorem d_Mo_wordAt_38 : decode cX9_wordAt 38 = .ok (.iadd, 1) := by decide +kernel
theorem d_Mo_wordAt_39 : decode cX9_wordAt 39 = .ok (.iaload, 1) := by decide +kernel
theorem d_Mo_wordAt_40 : decode cX9_wordAt 40 = .ok (.aload_n 0, 1) := by decide +kernel
theorem d_Mo_wordAt_41 : decode cX9_wordAt 41 = .ok (.getfield 34, 3) := by decide +kernel
theorem d_Mo_wordAt_44 : decode cX9_wordAt 44 = .ok (.iload_n 1, 1) := by decide +kernel
theorem d_Mo_wordAt_45 : decode cX9_wordAt 45 = .ok (.iload 5, 2) := by decide +kernel
theorem d_Mo_wordAt_47 : decode cX9_wordAt 47 = .ok (.iadd, 1) := by decide +kernel
theorem d_Mo_wordAt_48 : decode cX9_wordAt 48 = .ok (.iaload, 1) := by decide +kernel
theorem d_Mo_wordAt_49 : decode cX9_wordAt 49 = .ok (.if_icmp .ne 12, 3) := by decide +kernel
theorem d_Mo_wordAt_52 : decode cX9_wordAt 52 = .ok (.iload 5, 2) := by decide +kernel
theorem d_Mo_wordAt_54 : decode cX9_wordAt 54 = .ok (.iconst 1, 1) := by decide +kernel
theorem d_Mo_wordAt_55 : decode cX9_wordAt 55 = .ok (.iadd, 1) := by decide +kernel
theorem d_Mo_wordAt_56 : decode cX9_wordAt 56 = .ok (.istore 5, 2) := by decide +kernel
theorem d_Mo_wordAt_58 : decode cX9_wordAt 58 = .ok (.goto (-38), 3) := by decide +kernel
theorem d_Mo_wordAt_61 : decode cX9_wordAt 61 = .ok (.iload_n 1, 1) := by decide +kernel
theorem d_Mo_wordAt_62 : decode cX9_wordAt 62 = .ok (.iload 5, 2) := by decide +kernel
theorem d_Mo_wordAt_64 : decode cX9_wordAt 64 = .ok (.iadd, 1) := by decide +kernel
theorem d_Mo_wordAt_65 : decode cX9_wordAt 65 = .ok (.iload_n 2, 1) := by decide +kernel
theorem d_Mo_wordAt_66 : decode cX9_wordAt 66 = .ok (.if_icmp .ne 22, 3) := by decide +kernel
theorem d_Mo_wordAt_69 : decode cX9_wordAt 69 = .ok (.aload_n 0, 1) := by decide +kernel
theorem d_Mo_wordAt_70 : decode cX9_wordAt 70 = .ok (.getfield 37, 3) := by decide +kernel
theorem d_Mo_wordAt_73 : decode cX9_wordAt 73 = .ok (.iload 4, 2) := by decide +kernel
theorem d_Mo_wordAt_75 : decode cX9_wordAt 75 = .ok (.iconst 1, 1) := by decide +kernel
theorem d_Mo_wordAt_76 : decode cX9_wordAt 76 = .ok (.iadd, 1) := by decide +kernel
theorem d_Mo_wordAt_77 : decode cX9_wordAt 77 = .ok (.iload 5, 2) := by decide +kernel
theorem d_Mo_wordAt_79 : decode cX9_wordAt 79 = .ok (.iadd, 1) := by decide +kernel
theorem d_Mo_wordAt_80 : decode cX9_wordAt 80 = .ok (.iaload, 1) := by decide +kernel
theorem d_Mo_wordAt_81 : decode cX9_wordAt 81 = .ok (.bipush 32, 2) := by decide +kernel
theorem d_Mo_wordAt_83 : decode cX9_wordAt 83 = .ok (.if_icmp .ne 5, 3) := by decide +kernel
theorem d_Mo_wordAt_86 : decode cX9_wordAt 86 = .ok (.iload_n 3, 1) := by decide +kernel
theorem d_Mo_wordAt_87 : decode cX9_wordAt 87 = .ok (.ireturn, 1) := by decide +kernel
theorem d_Mo_wordAt_88 : decode cX9_wordAt 88 = .ok (.iload 4, 2) := by decide +kernel
theorem d_Mo_wordAt_90 : decode cX9_wordAt 90 = .ok (.iconst 1, 1) := by decide +kernel
theorem d_Mo_wordAt_91 : decode cX9_wordAt 91 = .ok (.iadd, 1) := by decide +kernel
theorem d_Mo_wordAt_92 : decode cX9_wordAt 92 = .ok (.istore 4, 2) := by decide +kernel
theorem d_Mo_wordAt_94 : decode cX9_wordAt 94 = .ok (.aload_n 0, 1) := by decide +kernel
theorem d_Mo_wordAt_95 : decode cX9_wordAt 95 = .ok (.getfield 37, 3) := by decide +kernel
theorem d_Mo_wordAt_98 : decode cX9_wordAt 98 = .ok (.iload 4, 2) := by decide +kernel
theorem d_Mo_wordAt_100 : decode cX9_wordAt 100 = .ok (.iaload, 1) := by decide +kernel
theorem d_Mo_wordAt_101 : decode cX9_wordAt 101 = .ok (.bipush 32, 2) := by decide +kernel
theorem d_Mo_wordAt_103 : decode cX9_wordAt 103 = .ok (.if_icmp .eq 12, 3) := by decide +kernel
theorem d_Mo_wordAt_106 : decode cX9_wordAt 106 = .ok (.iload 4, 2) := by decide +kernel
theorem d_Mo_wordAt_108 : decode cX9_wordAt 108 = .ok (.iconst 1, 1) := by decide +kernel
theorem d_Mo_wordAt_109 : decode cX9_wordAt 109 = .ok (.iadd, 1) := by decide +kernel
theorem d_Mo_wordAt_110 : decode cX9_wordAt 110 = .ok (.istore 4, 2) := by decide +kernel
theorem d_Mo_wordAt_112 : decode cX9_wordAt 112 = .ok (.goto (-18), 3) := by decide +kernel
theorem d_Mo_wordAt_115 : decode cX9_wordAt 115 = .ok (.goto (-110), 3) := by decide +kernel
theorem d_Mo_wordAt_118 : decode cX9_wordAt 118 = .ok (.iconst (-1), 1) := by decide +kernel
theorem d_Mo_wordAt_119 : decode cX9_wordAt 119 = .ok (.ireturn, 1) := by decide +kernel
theorem d_Mo_isDigit_0 : decode cX9_isDigit 0 = .ok (.aload_n 0, 1) := by decide +kernel
theorem d_Mo_isDigit_1 : decode cX9_isDigit 1 = .ok (.iload_n 1, 1) := by decide +kernel
theorem d_Mo_isDigit_2 : decode cX9_isDigit 2 = .ok (.bipush 48, 2) := by decide +kernel
theorem d_Mo_isDigit_4 : decode cX9_isDigit 4 = .ok (.bipush 57, 2) := by decide +kernel
theorem d_Mo_isDigit_6 : decode cX9_isDigit 6 = .ok (.invokevirtual 162, 3) := by decide +kernel
theorem d_Mo_isDigit_9 : decode cX9_isDigit 9 = .ok (.ireturn, 1) := by decide +kernel
theorem d_Mo_isMarkSign_0 : decode cX9_isMarkSign 0 = .ok (.iload_n 1, 1) := by decide +kernel
theorem d_Mo_isMarkSign_1 : decode cX9_isMarkSign 1 = .ok (.bipush 59, 2) := by decide +kernel
theorem d_Mo_isMarkSign_3 : decode cX9_isMarkSign 3 = .ok (.if_icmp .eq 57, 3) := by decide +kernel
theorem d_Mo_isMarkSign_6 : decode cX9_isMarkSign 6 = .ok (.iload_n 1, 1) := by decide +kernel
theorem d_Mo_isMarkSign_7 : decode cX9_isMarkSign 7 = .ok (.bipush 43, 2) := by decide +kernel
theorem d_Mo_isMarkSign_9 : decode cX9_isMarkSign 9 = .ok (.if_icmp .eq 51, 3) := by decide +kernel
theorem d_Mo_isMarkSign_12 : decode cX9_isMarkSign 12 = .ok (.iload_n 1, 1) := by decide +kernel
theorem d_Mo_isMarkSign_13 : decode cX9_isMarkSign 13 = .ok (.bipush 45, 2) := by decide +kernel
theorem d_Mo_isMarkSign_15 : decode cX9_isMarkSign 15 = .ok (.if_icmp .eq 45, 3) := by decide +kernel
theorem d_Mo_isMarkSign_18 : decode cX9_isMarkSign 18 = .ok (.iload_n 1, 1) := by decide +kernel
theorem d_Mo_isMarkSign_19 : decode cX9_isMarkSign 19 = .ok (.bipush 42, 2) := by decide +kernel
theorem d_Mo_isMarkSign_21 : decode cX9_isMarkSign 21 = .ok (.if_icmp .eq 39, 3) := by decide +kernel
theorem d_Mo_isMarkSign_24 : decode cX9_isMarkSign 24 = .ok (.iload_n 1, 1) := by decide +kernel
theorem d_Mo_isMarkSign_25 : decode cX9_isMarkSign 25 = .ok (.bipush 47, 2) := by decide +kernel
theorem d_Mo_isMarkSign_27 : decode cX9_isMarkSign 27 = .ok (.if_icmp .eq 33, 3) := by decide +kernel
theorem d_Mo_isMarkSign_30 : decode cX9_isMarkSign 30 = .ok (.iload_n 1, 1) := by decide +kernel
theorem d_Mo_isMarkSign_31 : decode cX9_isMarkSign 31 = .ok (.bipush 40, 2) := by decide +kernel
theorem d_Mo_isMarkSign_33 : decode cX9_isMarkSign 33 = .ok (.if_icmp .eq 27, 3) := by decide +kernel
theorem d_Mo_isMarkSign_36 : decode cX9_isMarkSign 36 = .ok (.iload_n 1, 1) := by decide +kernel
theorem d_Mo_isMarkSign_37 : decode cX9_isMarkSign 37 = .ok (.bipush 41, 2) := by decide +kernel
theorem d_Mo_isMarkSign_39 : decode cX9_isMarkSign 39 = .ok (.if_icmp .eq 21, 3) := by decide +kernel
theorem d_Mo_isMarkSign_42 : decode cX9_isMarkSign 42 = .ok (.iload_n 1, 1) := by decide +kernel
theorem d_Mo_isMarkSign_43 : decode cX9_isMarkSign 43 = .ok (.bipush 60, 2) := by decide +kernel
theorem d_Mo_isMarkSign_45 : decode cX9_isMarkSign 45 = .ok (.if_icmp .eq 15, 3) := by decide +kernel
theorem d_Mo_isMarkSign_48 : decode cX9_isMarkSign 48 = .ok (.iload_n 1, 1) := by decide +kernel
theorem d_Mo_isMarkSign_49 : decode cX9_isMarkSign 49 = .ok (.bipush 61, 2) := by decide +kernel
theorem d_Mo_isMarkSign_51 : decode cX9_isMarkSign 51 = .ok (.if_icmp .eq 9, 3) := by decide +kernel
theorem d_Mo_isMarkSign_54 : decode cX9_isMarkSign 54 = .ok (.iload_n 1, 1) := by decide +kernel
theorem d_Mo_isMarkSign_55 : decode cX9_isMarkSign 55 = .ok (.bipush 62, 2) := by decide +kernel
theorem d_Mo_isMarkSign_57 : decode cX9_isMarkSign 57 = .ok (.if_icmp .ne 7, 3) := by decide +kernel
theorem d_Mo_isMarkSign_60 : decode cX9_isMarkSign 60 = .ok (.iconst 1, 1) := by decide +kernel
theorem d_Mo_isMarkSign_61 : decode cX9_isMarkSign 61 = .ok (.goto 4, 3) := by decide +kernel
theorem d_Mo_isMarkSign_64 : decode cX9_isMarkSign 64 = .ok (.iconst 0, 1) := by decide +kernel
theorem d_Mo_isMarkSign_65 : decode cX9_isMarkSign 65 = .ok (.ireturn, 1) := by decide +kernel
theorem d_Mo_reads_0 : decode cX9_reads 0 = .ok (.aload_n 0, 1) := by decide +kernel
theorem d_Mo_reads_1 : decode cX9_reads 1 = .ok (.aload_n 0, 1) := by decide +kernel
theorem d_Mo_reads_2 : decode cX9_reads 2 = .ok (.getfield 186, 3) := by decide +kernel
theorem d_Mo_reads_5 : decode cX9_reads 5 = .ok (.invokevirtual 189, 3) := by decide +kernel
theorem d_Mo_reads_8 : decode cX9_reads 8 = .ok (.bipush 32, 2) := by decide +kernel
theorem d_Mo_reads_10 : decode cX9_reads 10 = .ok (.if_icmp .eq 16, 3) := by decide +kernel
theorem d_Mo_reads_13 : decode cX9_reads 13 = .ok (.aload_n 0, 1) := by decide +kernel
theorem d_Mo_reads_14 : decode cX9_reads 14 = .ok (.aload_n 0, 1) := by decide +kernel
theorem d_Mo_reads_15 : decode cX9_reads 15 = .ok (.getfield 186, 3) := by decide +kernel
theorem d_Mo_reads_18 : decode cX9_reads 18 = .ok (.invokevirtual 189, 3) := by decide +kernel
theorem d_Mo_reads_21 : decode cX9_reads 21 = .ok (.bipush 10, 2) := by decide +kernel
theorem d_Mo_reads_23 : decode cX9_reads 23 = .ok (.if_icmp .ne 16, 3) := by decide +kernel
theorem d_Mo_reads_26 : decode cX9_reads 26 = .ok (.aload_n 0, 1) := by decide +kernel
theorem d_Mo_reads_27 : decode cX9_reads 27 = .ok (.aload_n 0, 1) := by decide +kernel
theorem d_Mo_reads_28 : decode cX9_reads 28 = .ok (.getfield 186, 3) := by decide +kernel
theorem d_Mo_reads_31 : decode cX9_reads 31 = .ok (.iconst 1, 1) := by decide +kernel
theorem d_Mo_reads_32 : decode cX9_reads 32 = .ok (.iadd, 1) := by decide +kernel
theorem d_Mo_reads_33 : decode cX9_reads 33 = .ok (.putfield 186, 3) := by decide +kernel
theorem d_Mo_reads_36 : decode cX9_reads 36 = .ok (.goto (-36), 3) := by decide +kernel
theorem d_Mo_reads_39 : decode cX9_reads 39 = .ok (.aload_n 0, 1) := by decide +kernel
theorem d_Mo_reads_40 : decode cX9_reads 40 = .ok (.aload_n 0, 1) := by decide +kernel
theorem d_Mo_reads_41 : decode cX9_reads 41 = .ok (.getfield 186, 3) := by decide +kernel
theorem d_Mo_reads_44 : decode cX9_reads 44 = .ok (.putfield 193, 3) := by decide +kernel
theorem d_Mo_reads_47 : decode cX9_reads 47 = .ok (.aload_n 0, 1) := by decide +kernel
theorem d_Mo_reads_48 : decode cX9_reads 48 = .ok (.iconst 1, 1) := by decide +kernel
theorem d_Mo_reads_49 : decode cX9_reads 49 = .ok (.putfield 196, 3) := by decide +kernel
theorem d_Mo_reads_52 : decode cX9_reads 52 = .ok (.aload_n 0, 1) := by decide +kernel
theorem d_Mo_reads_53 : decode cX9_reads 53 = .ok (.aload_n 0, 1) := by decide +kernel
theorem d_Mo_reads_54 : decode cX9_reads 54 = .ok (.getfield 186, 3) := by decide +kernel
theorem d_Mo_reads_57 : decode cX9_reads 57 = .ok (.invokevirtual 189, 3) := by decide +kernel
theorem d_Mo_reads_60 : decode cX9_reads 60 = .ok (.istore_n 1, 1) := by decide +kernel
theorem d_Mo_reads_61 : decode cX9_reads 61 = .ok (.iload_n 1, 1) := by decide +kernel
theorem d_Mo_reads_62 : decode cX9_reads 62 = .ok (.iconst (-1), 1) := by decide +kernel
theorem d_Mo_reads_63 : decode cX9_reads 63 = .ok (.if_icmp .ne 9, 3) := by decide +kernel
theorem d_Mo_reads_66 : decode cX9_reads 66 = .ok (.aload_n 0, 1) := by decide +kernel
theorem d_Mo_reads_67 : decode cX9_reads 67 = .ok (.iconst 0, 1) := by decide +kernel
theorem d_Mo_reads_68 : decode cX9_reads 68 = .ok (.putfield 196, 3) := by decide +kernel
theorem d_Mo_reads_71 : decode cX9_reads 71 = .ok (.return_, 1) := by decide +kernel
theorem d_Mo_reads_72 : decode cX9_reads 72 = .ok (.aload_n 0, 1) := by decide +kernel
theorem d_Mo_reads_73 : decode cX9_reads 73 = .ok (.aload_n 0, 1) := by decide +kernel
theorem d_Mo_reads_74 : decode cX9_reads 74 = .ok (.getfield 186, 3) := by decide +kernel
theorem d_Mo_reads_77 : decode cX9_reads 77 = .ok (.iconst 1, 1) := by decide +kernel
theorem d_Mo_reads_78 : decode cX9_reads 78 = .ok (.iadd, 1) := by decide +kernel
theorem d_Mo_reads_79 : decode cX9_reads 79 = .ok (.putfield 186, 3) := by decide +kernel
theorem d_Mo_reads_82 : decode cX9_reads 82 = .ok (.aload_n 0, 1) := by decide +kernel
theorem d_Mo_reads_83 : decode cX9_reads 83 = .ok (.iload_n 1, 1) := by decide +kernel
theorem d_Mo_reads_84 : decode cX9_reads 84 = .ok (.putfield 199, 3) := by decide +kernel
theorem d_Mo_reads_87 : decode cX9_reads 87 = .ok (.aload_n 0, 1) := by decide +kernel
theorem d_Mo_reads_88 : decode cX9_reads 88 = .ok (.iload_n 1, 1) := by decide +kernel
theorem d_Mo_reads_89 : decode cX9_reads 89 = .ok (.invokevirtual 202, 3) := by decide +kernel
theorem d_Mo_reads_92 : decode cX9_reads 92 = .ok (.ifCond .eq 63, 3) := by decide +kernel
theorem d_Mo_reads_95 : decode cX9_reads 95 = .ok (.aload_n 0, 1) := by decide +kernel
theorem d_Mo_reads_96 : decode cX9_reads 96 = .ok (.aload_n 0, 1) := by decide +kernel
theorem d_Mo_reads_97 : decode cX9_reads 97 = .ok (.aload_n 0, 1) := by decide +kernel
theorem d_Mo_reads_98 : decode cX9_reads 98 = .ok (.getfield 186, 3) := by decide +kernel
theorem d_Mo_reads_101 : decode cX9_reads 101 = .ok (.invokevirtual 189, 3) := by decide +kernel
theorem d_Mo_reads_104 : decode cX9_reads 104 = .ok (.invokevirtual 202, 3) := by decide +kernel
theorem d_Mo_reads_107 : decode cX9_reads 107 = .ok (.ifCond .eq 16, 3) := by decide +kernel
theorem d_Mo_reads_110 : decode cX9_reads 110 = .ok (.aload_n 0, 1) := by decide +kernel
theorem d_Mo_reads_111 : decode cX9_reads 111 = .ok (.aload_n 0, 1) := by decide +kernel
theorem d_Mo_reads_112 : decode cX9_reads 112 = .ok (.getfield 186, 3) := by decide +kernel
theorem d_Mo_reads_115 : decode cX9_reads 115 = .ok (.iconst 1, 1) := by decide +kernel
theorem d_Mo_reads_116 : decode cX9_reads 116 = .ok (.iadd, 1) := by decide +kernel
theorem d_Mo_reads_117 : decode cX9_reads 117 = .ok (.putfield 186, 3) := by decide +kernel
theorem d_Mo_reads_120 : decode cX9_reads 120 = .ok (.goto (-25), 3) := by decide +kernel
theorem d_Mo_reads_123 : decode cX9_reads 123 = .ok (.aload_n 0, 1) := by decide +kernel
theorem d_Mo_reads_124 : decode cX9_reads 124 = .ok (.aload_n 0, 1) := by decide +kernel
theorem d_Mo_reads_125 : decode cX9_reads 125 = .ok (.aload_n 0, 1) := by decide +kernel
theorem d_Mo_reads_126 : decode cX9_reads 126 = .ok (.getfield 193, 3) := by decide +kernel
theorem d_Mo_reads_129 : decode cX9_reads 129 = .ok (.aload_n 0, 1) := by decide +kernel
theorem d_Mo_reads_130 : decode cX9_reads 130 = .ok (.getfield 186, 3) := by decide +kernel
theorem d_Mo_reads_133 : decode cX9_reads 133 = .ok (.invokevirtual 205, 3) := by decide +kernel
theorem d_Mo_reads_136 : decode cX9_reads 136 = .ok (.putfield 199, 3) := by decide +kernel
theorem d_Mo_reads_139 : decode cX9_reads 139 = .ok (.aload_n 0, 1) := by decide +kernel
theorem d_Mo_reads_140 : decode cX9_reads 140 = .ok (.getfield 199, 3) := by decide +kernel
theorem d_Mo_reads_143 : decode cX9_reads 143 = .ok (.iconst (-1), 1) := by decide +kernel
theorem d_Mo_reads_144 : decode cX9_reads 144 = .ok (.if_icmp .eq 129, 3) := by decide +kernel
theorem d_Mo_reads_147 : decode cX9_reads 147 = .ok (.aload_n 0, 1) := by decide +kernel
theorem d_Mo_reads_148 : decode cX9_reads 148 = .ok (.iconst 2, 1) := by decide +kernel
theorem d_Mo_reads_149 : decode cX9_reads 149 = .ok (.putfield 196, 3) := by decide +kernel
theorem d_Mo_reads_152 : decode cX9_reads 152 = .ok (.goto 121, 3) := by decide +kernel
theorem d_Mo_reads_155 : decode cX9_reads 155 = .ok (.aload_n 0, 1) := by decide +kernel
theorem d_Mo_reads_156 : decode cX9_reads 156 = .ok (.iload_n 1, 1) := by decide +kernel
theorem d_Mo_reads_157 : decode cX9_reads 157 = .ok (.invokevirtual 209, 3) := by decide +kernel
theorem d_Mo_reads_160 : decode cX9_reads 160 = .ok (.ifCond .eq 100, 3) := by decide +kernel
theorem d_Mo_reads_163 : decode cX9_reads 163 = .ok (.aload_n 0, 1) := by decide +kernel
theorem d_Mo_reads_164 : decode cX9_reads 164 = .ok (.iload_n 1, 1) := by decide +kernel
theorem d_Mo_reads_165 : decode cX9_reads 165 = .ok (.bipush 48, 2) := by decide +kernel
theorem d_Mo_reads_167 : decode cX9_reads 167 = .ok (.isub, 1) := by decide +kernel
theorem d_Mo_reads_168 : decode cX9_reads 168 = .ok (.putfield 199, 3) := by decide +kernel
theorem d_Mo_reads_171 : decode cX9_reads 171 = .ok (.aload_n 0, 1) := by decide +kernel
theorem d_Mo_reads_172 : decode cX9_reads 172 = .ok (.aload_n 0, 1) := by decide +kernel
theorem d_Mo_reads_173 : decode cX9_reads 173 = .ok (.aload_n 0, 1) := by decide +kernel
theorem d_Mo_reads_174 : decode cX9_reads 174 = .ok (.getfield 186, 3) := by decide +kernel
theorem d_Mo_reads_177 : decode cX9_reads 177 = .ok (.invokevirtual 189, 3) := by decide +kernel
theorem d_Mo_reads_180 : decode cX9_reads 180 = .ok (.invokevirtual 209, 3) := by decide +kernel
theorem d_Mo_reads_183 : decode cX9_reads 183 = .ok (.ifCond .eq 56, 3) := by decide +kernel
theorem d_Mo_reads_186 : decode cX9_reads 186 = .ok (.aload_n 0, 1) := by decide +kernel
theorem d_Mo_reads_187 : decode cX9_reads 187 = .ok (.aload_n 0, 1) := by decide +kernel
theorem d_Mo_reads_188 : decode cX9_reads 188 = .ok (.getfield 199, 3) := by decide +kernel
theorem d_Mo_reads_191 : decode cX9_reads 191 = .ok (.sipush 10000, 3) := by decide +kernel
theorem d_Mo_reads_194 : decode cX9_reads 194 = .ok (.if_icmp .ge 25, 3) := by decide +kernel
theorem d_Mo_reads_197 : decode cX9_reads 197 = .ok (.bipush 10, 2) := by decide +kernel
theorem d_Mo_reads_199 : decode cX9_reads 199 = .ok (.aload_n 0, 1) := by decide +kernel
theorem d_Mo_reads_200 : decode cX9_reads 200 = .ok (.getfield 199, 3) := by decide +kernel
theorem d_Mo_reads_203 : decode cX9_reads 203 = .ok (.imul, 1) := by decide +kernel
theorem d_Mo_reads_204 : decode cX9_reads 204 = .ok (.aload_n 0, 1) := by decide +kernel
theorem d_Mo_reads_205 : decode cX9_reads 205 = .ok (.aload_n 0, 1) := by decide +kernel
theorem d_Mo_reads_206 : decode cX9_reads 206 = .ok (.getfield 186, 3) := by decide +kernel
theorem d_Mo_reads_209 : decode cX9_reads 209 = .ok (.invokevirtual 189, 3) := by decide +kernel
theorem d_Mo_reads_212 : decode cX9_reads 212 = .ok (.iadd, 1) := by decide +kernel
theorem d_Mo_reads_213 : decode cX9_reads 213 = .ok (.bipush 48, 2) := by decide +kernel
theorem d_Mo_reads_215 : decode cX9_reads 215 = .ok (.isub, 1) := by decide +kernel
theorem d_Mo_reads_216 : decode cX9_reads 216 = .ok (.goto 7, 3) := by decide +kernel
theorem d_Mo_reads_219 : decode cX9_reads 219 = .ok (.aload_n 0, 1) := by decide +kernel
theorem d_Mo_reads_220 : decode cX9_reads 220 = .ok (.getfield 199, 3) := by decide +kernel
theorem d_Mo_reads_223 : decode cX9_reads 223 = .ok (.putfield 199, 3) := by decide +kernel
theorem d_Mo_reads_226 : decode cX9_reads 226 = .ok (.aload_n 0, 1) := by decide +kernel
theorem d_Mo_reads_227 : decode cX9_reads 227 = .ok (.aload_n 0, 1) := by decide +kernel
theorem d_Mo_reads_228 : decode cX9_reads 228 = .ok (.getfield 186, 3) := by decide +kernel
theorem d_Mo_reads_231 : decode cX9_reads 231 = .ok (.iconst 1, 1) := by decide +kernel
theorem d_Mo_reads_232 : decode cX9_reads 232 = .ok (.iadd, 1) := by decide +kernel
theorem d_Mo_reads_233 : decode cX9_reads 233 = .ok (.putfield 186, 3) := by decide +kernel
theorem d_Mo_reads_236 : decode cX9_reads 236 = .ok (.goto (-65), 3) := by decide +kernel
theorem d_Mo_reads_239 : decode cX9_reads 239 = .ok (.aload_n 0, 1) := by decide +kernel
theorem d_Mo_reads_240 : decode cX9_reads 240 = .ok (.getfield 186, 3) := by decide +kernel
theorem d_Mo_reads_243 : decode cX9_reads 243 = .ok (.aload_n 0, 1) := by decide +kernel
theorem d_Mo_reads_244 : decode cX9_reads 244 = .ok (.getfield 193, 3) := by decide +kernel
theorem d_Mo_reads_247 : decode cX9_reads 247 = .ok (.isub, 1) := by decide +kernel
theorem d_Mo_reads_248 : decode cX9_reads 248 = .ok (.iconst 5, 1) := by decide +kernel
theorem d_Mo_reads_249 : decode cX9_reads 249 = .ok (.if_icmp .ge 24, 3) := by decide +kernel
theorem d_Mo_reads_252 : decode cX9_reads 252 = .ok (.aload_n 0, 1) := by decide +kernel
theorem d_Mo_reads_253 : decode cX9_reads 253 = .ok (.iconst 3, 1) := by decide +kernel
theorem d_Mo_reads_254 : decode cX9_reads 254 = .ok (.putfield 196, 3) := by decide +kernel
theorem d_Mo_reads_257 : decode cX9_reads 257 = .ok (.goto 16, 3) := by decide +kernel
theorem d_Mo_reads_260 : decode cX9_reads 260 = .ok (.aload_n 0, 1) := by decide +kernel
theorem d_Mo_reads_261 : decode cX9_reads 261 = .ok (.iload_n 1, 1) := by decide +kernel
theorem d_Mo_reads_262 : decode cX9_reads 262 = .ok (.invokevirtual 212, 3) := by decide +kernel
theorem d_Mo_reads_265 : decode cX9_reads 265 = .ok (.ifCond .eq 8, 3) := by decide +kernel
theorem d_Mo_reads_268 : decode cX9_reads 268 = .ok (.aload_n 0, 1) := by decide +kernel
theorem d_Mo_reads_269 : decode cX9_reads 269 = .ok (.iconst 4, 1) := by decide +kernel
theorem d_Mo_reads_270 : decode cX9_reads 270 = .ok (.putfield 196, 3) := by decide +kernel
theorem d_Mo_reads_273 : decode cX9_reads 273 = .ok (.return_, 1) := by decide +kernel
theorem d_Mo_isWord_0 : decode cX9_isWord 0 = .ok (.aload_n 0, 1) := by decide +kernel
theorem d_Mo_isWord_1 : decode cX9_isWord 1 = .ok (.getfield 196, 3) := by decide +kernel
theorem d_Mo_isWord_4 : decode cX9_isWord 4 = .ok (.iconst 2, 1) := by decide +kernel
theorem d_Mo_isWord_5 : decode cX9_isWord 5 = .ok (.if_icmp .ne 15, 3) := by decide +kernel
theorem d_Mo_isWord_8 : decode cX9_isWord 8 = .ok (.aload_n 0, 1) := by decide +kernel
theorem d_Mo_isWord_9 : decode cX9_isWord 9 = .ok (.getfield 199, 3) := by decide +kernel
theorem d_Mo_isWord_12 : decode cX9_isWord 12 = .ok (.iload_n 1, 1) := by decide +kernel
theorem d_Mo_isWord_13 : decode cX9_isWord 13 = .ok (.if_icmp .ne 7, 3) := by decide +kernel
theorem d_Mo_isWord_16 : decode cX9_isWord 16 = .ok (.iconst 1, 1) := by decide +kernel
theorem d_Mo_isWord_17 : decode cX9_isWord 17 = .ok (.goto 4, 3) := by decide +kernel
theorem d_Mo_isWord_20 : decode cX9_isWord 20 = .ok (.iconst 0, 1) := by decide +kernel
theorem d_Mo_isWord_21 : decode cX9_isWord 21 = .ok (.ireturn, 1) := by decide +kernel
theorem d_Mo_errs_0 : decode cX9_errs 0 = .ok (.aload_n 0, 1) := by decide +kernel
theorem d_Mo_errs_1 : decode cX9_errs 1 = .ok (.iload_n 1, 1) := by decide +kernel
theorem d_Mo_errs_2 : decode cX9_errs 2 = .ok (.putfield 215, 3) := by decide +kernel
theorem d_Mo_errs_5 : decode cX9_errs 5 = .ok (.aload_n 0, 1) := by decide +kernel
theorem d_Mo_errs_6 : decode cX9_errs 6 = .ok (.aload_n 0, 1) := by decide +kernel
theorem d_Mo_errs_7 : decode cX9_errs 7 = .ok (.getfield 193, 3) := by decide +kernel
theorem d_Mo_errs_10 : decode cX9_errs 10 = .ok (.putfield 218, 3) := by decide +kernel
theorem d_Mo_errs_13 : decode cX9_errs 13 = .ok (.iconst (-1), 1) := by decide +kernel
theorem d_Mo_errs_14 : decode cX9_errs 14 = .ok (.ireturn, 1) := by decide +kernel
theorem d_Mo_readNumber_0 : decode cX9_readNumber 0 = .ok (.aload_n 0, 1) := by decide +kernel
theorem d_Mo_readNumber_1 : decode cX9_readNumber 1 = .ok (.getfield 196, 3) := by decide +kernel
theorem d_Mo_readNumber_4 : decode cX9_readNumber 4 = .ok (.iconst 3, 1) := by decide +kernel
theorem d_Mo_readNumber_5 : decode cX9_readNumber 5 = .ok (.if_icmp .eq 9, 3) := by decide +kernel
theorem d_Mo_readNumber_8 : decode cX9_readNumber 8 = .ok (.aload_n 0, 1) := by decide +kernel
theorem d_Mo_readNumber_9 : decode cX9_readNumber 9 = .ok (.iconst 1, 1) := by decide +kernel
theorem d_Mo_readNumber_10 : decode cX9_readNumber 10 = .ok (.invokevirtual 227, 3) := by decide +kernel
theorem d_Mo_readNumber_13 : decode cX9_readNumber 13 = .ok (.ireturn, 1) := by decide +kernel
theorem d_Mo_readNumber_14 : decode cX9_readNumber 14 = .ok (.aload_n 0, 1) := by decide +kernel
theorem d_Mo_readNumber_15 : decode cX9_readNumber 15 = .ok (.aload_n 0, 1) := by decide +kernel
theorem d_Mo_readNumber_16 : decode cX9_readNumber 16 = .ok (.getfield 199, 3) := by decide +kernel
theorem d_Mo_readNumber_19 : decode cX9_readNumber 19 = .ok (.iload_n 1, 1) := by decide +kernel
theorem d_Mo_readNumber_20 : decode cX9_readNumber 20 = .ok (.iload_n 2, 1) := by decide +kernel
theorem d_Mo_readNumber_21 : decode cX9_readNumber 21 = .ok (.invokevirtual 162, 3) := by decide +kernel
theorem d_Mo_readNumber_24 : decode cX9_readNumber 24 = .ok (.ifCond .ne 9, 3) := by decide +kernel
theorem d_Mo_readNumber_27 : decode cX9_readNumber 27 = .ok (.aload_n 0, 1) := by decide +kernel
theorem d_Mo_readNumber_28 : decode cX9_readNumber 28 = .ok (.iconst 2, 1) := by decide +kernel
theorem d_Mo_readNumber_29 : decode cX9_readNumber 29 = .ok (.invokevirtual 227, 3) := by decide +kernel
theorem d_Mo_readNumber_32 : decode cX9_readNumber 32 = .ok (.ireturn, 1) := by decide +kernel
theorem d_Mo_readNumber_33 : decode cX9_readNumber 33 = .ok (.aload_n 0, 1) := by decide +kernel
theorem d_Mo_readNumber_34 : decode cX9_readNumber 34 = .ok (.getfield 199, 3) := by decide +kernel
theorem d_Mo_readNumber_37 : decode cX9_readNumber 37 = .ok (.istore_n 3, 1) := by decide +kernel
theorem d_Mo_readNumber_38 : decode cX9_readNumber 38 = .ok (.aload_n 0, 1) := by decide +kernel
theorem d_Mo_readNumber_39 : decode cX9_readNumber 39 = .ok (.invokevirtual 234, 3) := by decide +kernel
theorem d_Mo_readNumber_42 : decode cX9_readNumber 42 = .ok (.iload_n 3, 1) := by decide +kernel
theorem d_Mo_readNumber_43 : decode cX9_readNumber 43 = .ok (.ireturn, 1) := by decide +kernel
theorem d_Mo_readTold_0 : decode cX9_readTold 0 = .ok (.aload_n 0, 1) := by decide +kernel
theorem d_Mo_readTold_1 : decode cX9_readTold 1 = .ok (.iload_n 1, 1) := by decide +kernel
theorem d_Mo_readTold_2 : decode cX9_readTold 2 = .ok (.invokevirtual 256, 3) := by decide +kernel
theorem d_Mo_readTold_5 : decode cX9_readTold 5 = .ok (.ifCond .ne 9, 3) := by decide +kernel
theorem d_Mo_readTold_8 : decode cX9_readTold 8 = .ok (.aload_n 0, 1) := by decide +kernel
theorem d_Mo_readTold_9 : decode cX9_readTold 9 = .ok (.iconst 1, 1) := by decide +kernel
theorem d_Mo_readTold_10 : decode cX9_readTold 10 = .ok (.invokevirtual 227, 3) := by decide +kernel
theorem d_Mo_readTold_13 : decode cX9_readTold 13 = .ok (.ireturn, 1) := by decide +kernel
theorem d_Mo_readTold_14 : decode cX9_readTold 14 = .ok (.aload_n 0, 1) := by decide +kernel
theorem d_Mo_readTold_15 : decode cX9_readTold 15 = .ok (.invokevirtual 234, 3) := by decide +kernel
theorem d_Mo_readTold_18 : decode cX9_readTold 18 = .ok (.aload_n 0, 1) := by decide +kernel
theorem d_Mo_readTold_19 : decode cX9_readTold 19 = .ok (.iload_n 2, 1) := by decide +kernel
theorem d_Mo_readTold_20 : decode cX9_readTold 20 = .ok (.iload_n 3, 1) := by decide +kernel
theorem d_Mo_readTold_21 : decode cX9_readTold 21 = .ok (.invokevirtual 278, 3) := by decide +kernel
theorem d_Mo_readTold_24 : decode cX9_readTold 24 = .ok (.ireturn, 1) := by decide +kernel
theorem d_Mo_isSign_0 : decode cX9_isSign 0 = .ok (.aload_n 0, 1) := by decide +kernel
theorem d_Mo_isSign_1 : decode cX9_isSign 1 = .ok (.getfield 196, 3) := by decide +kernel
theorem d_Mo_isSign_4 : decode cX9_isSign 4 = .ok (.iconst 4, 1) := by decide +kernel
theorem d_Mo_isSign_5 : decode cX9_isSign 5 = .ok (.if_icmp .ne 15, 3) := by decide +kernel
theorem d_Mo_isSign_8 : decode cX9_isSign 8 = .ok (.aload_n 0, 1) := by decide +kernel
theorem d_Mo_isSign_9 : decode cX9_isSign 9 = .ok (.getfield 199, 3) := by decide +kernel
theorem d_Mo_isSign_12 : decode cX9_isSign 12 = .ok (.iload_n 1, 1) := by decide +kernel
theorem d_Mo_isSign_13 : decode cX9_isSign 13 = .ok (.if_icmp .ne 7, 3) := by decide +kernel
theorem d_Mo_isSign_16 : decode cX9_isSign 16 = .ok (.iconst 1, 1) := by decide +kernel
theorem d_Mo_isSign_17 : decode cX9_isSign 17 = .ok (.goto 4, 3) := by decide +kernel
theorem d_Mo_isSign_20 : decode cX9_isSign 20 = .ok (.iconst 0, 1) := by decide +kernel
theorem d_Mo_isSign_21 : decode cX9_isSign 21 = .ok (.ireturn, 1) := by decide +kernel
theorem d_Mo_readMark_0 : decode cX9_readMark 0 = .ok (.aload_n 0, 1) := by decide +kernel
theorem d_Mo_readMark_1 : decode cX9_readMark 1 = .ok (.iload_n 1, 1) := by decide +kernel
theorem d_Mo_readMark_2 : decode cX9_readMark 2 = .ok (.invokevirtual 241, 3) := by decide +kernel
theorem d_Mo_readMark_5 : decode cX9_readMark 5 = .ok (.ifCond .ne 9, 3) := by decide +kernel
theorem d_Mo_readMark_8 : decode cX9_readMark 8 = .ok (.aload_n 0, 1) := by decide +kernel
theorem d_Mo_readMark_9 : decode cX9_readMark 9 = .ok (.iconst 1, 1) := by decide +kernel
theorem d_Mo_readMark_10 : decode cX9_readMark 10 = .ok (.invokevirtual 227, 3) := by decide +kernel
theorem d_Mo_readMark_13 : decode cX9_readMark 13 = .ok (.ireturn, 1) := by decide +kernel
theorem d_Mo_readMark_14 : decode cX9_readMark 14 = .ok (.aload_n 0, 1) := by decide +kernel
theorem d_Mo_readMark_15 : decode cX9_readMark 15 = .ok (.invokevirtual 234, 3) := by decide +kernel
theorem d_Mo_readMark_18 : decode cX9_readMark 18 = .ok (.iconst 0, 1) := by decide +kernel
theorem d_Mo_readMark_19 : decode cX9_readMark 19 = .ok (.ireturn, 1) := by decide +kernel
theorem d_Mo_readKinLine_0 : decode cX9_readKinLine 0 = .ok (.aload_n 0, 1) := by decide +kernel
theorem d_Mo_readKinLine_1 : decode cX9_readKinLine 1 = .ok (.bipush 17, 2) := by decide +kernel
theorem d_Mo_readKinLine_3 : decode cX9_readKinLine 3 = .ok (.iconst 0, 1) := by decide +kernel
theorem d_Mo_readKinLine_4 : decode cX9_readKinLine 4 = .ok (.aload_n 0, 1) := by decide +kernel
theorem d_Mo_readKinLine_5 : decode cX9_readKinLine 5 = .ok (.getfield 152, 3) := by decide +kernel
theorem d_Mo_readKinLine_8 : decode cX9_readKinLine 8 = .ok (.iconst 1, 1) := by decide +kernel
theorem d_Mo_readKinLine_9 : decode cX9_readKinLine 9 = .ok (.isub, 1) := by decide +kernel
theorem d_Mo_readKinLine_10 : decode cX9_readKinLine 10 = .ok (.invokevirtual 281, 3) := by decide +kernel
theorem d_Mo_readKinLine_13 : decode cX9_readKinLine 13 = .ok (.istore_n 1, 1) := by decide +kernel
theorem d_Mo_readKinLine_14 : decode cX9_readKinLine 14 = .ok (.iload_n 1, 1) := by decide +kernel
theorem d_Mo_readKinLine_15 : decode cX9_readKinLine 15 = .ok (.iconst (-1), 1) := by decide +kernel
theorem d_Mo_readKinLine_16 : decode cX9_readKinLine 16 = .ok (.if_icmp .ne 5, 3) := by decide +kernel
theorem d_Mo_readKinLine_19 : decode cX9_readKinLine 19 = .ok (.iconst (-1), 1) := by decide +kernel
theorem d_Mo_readKinLine_20 : decode cX9_readKinLine 20 = .ok (.ireturn, 1) := by decide +kernel
theorem d_Mo_readKinLine_21 : decode cX9_readKinLine 21 = .ok (.aload_n 0, 1) := by decide +kernel
theorem d_Mo_readKinLine_22 : decode cX9_readKinLine 22 = .ok (.bipush 18, 2) := by decide +kernel
theorem d_Mo_readKinLine_24 : decode cX9_readKinLine 24 = .ok (.invokevirtual 256, 3) := by decide +kernel
theorem d_Mo_readKinLine_27 : decode cX9_readKinLine 27 = .ok (.ifCond .ne 9, 3) := by decide +kernel
theorem d_Mo_readKinLine_30 : decode cX9_readKinLine 30 = .ok (.aload_n 0, 1) := by decide +kernel
theorem d_Mo_readKinLine_31 : decode cX9_readKinLine 31 = .ok (.iconst 1, 1) := by decide +kernel
theorem d_Mo_readKinLine_32 : decode cX9_readKinLine 32 = .ok (.invokevirtual 227, 3) := by decide +kernel
theorem d_Mo_readKinLine_35 : decode cX9_readKinLine 35 = .ok (.ireturn, 1) := by decide +kernel
theorem d_Mo_readKinLine_36 : decode cX9_readKinLine 36 = .ok (.aload_n 0, 1) := by decide +kernel
theorem d_Mo_readKinLine_37 : decode cX9_readKinLine 37 = .ok (.invokevirtual 234, 3) := by decide +kernel
theorem d_Mo_readKinLine_40 : decode cX9_readKinLine 40 = .ok (.aload_n 0, 1) := by decide +kernel
theorem d_Mo_readKinLine_41 : decode cX9_readKinLine 41 = .ok (.getfield 196, 3) := by decide +kernel
theorem d_Mo_readKinLine_44 : decode cX9_readKinLine 44 = .ok (.iconst 3, 1) := by decide +kernel
theorem d_Mo_readKinLine_45 : decode cX9_readKinLine 45 = .ok (.if_icmp .ne 17, 3) := by decide +kernel
theorem d_Mo_readKinLine_48 : decode cX9_readKinLine 48 = .ok (.aload_n 0, 1) := by decide +kernel
theorem d_Mo_readKinLine_49 : decode cX9_readKinLine 49 = .ok (.getfield 199, 3) := by decide +kernel
theorem d_Mo_readKinLine_52 : decode cX9_readKinLine 52 = .ok (.iload_n 1, 1) := by decide +kernel
theorem d_Mo_readKinLine_53 : decode cX9_readKinLine 53 = .ok (.if_icmp .ne 9, 3) := by decide +kernel
theorem d_Mo_readKinLine_56 : decode cX9_readKinLine 56 = .ok (.aload_n 0, 1) := by decide +kernel
theorem d_Mo_readKinLine_57 : decode cX9_readKinLine 57 = .ok (.iconst 2, 1) := by decide +kernel
theorem d_Mo_readKinLine_58 : decode cX9_readKinLine 58 = .ok (.invokevirtual 227, 3) := by decide +kernel
theorem d_Mo_readKinLine_61 : decode cX9_readKinLine 61 = .ok (.ireturn, 1) := by decide +kernel
theorem d_Mo_readKinLine_62 : decode cX9_readKinLine 62 = .ok (.aload_n 0, 1) := by decide +kernel
theorem d_Mo_readKinLine_63 : decode cX9_readKinLine 63 = .ok (.iconst 0, 1) := by decide +kernel
theorem d_Mo_readKinLine_64 : decode cX9_readKinLine 64 = .ok (.aload_n 0, 1) := by decide +kernel
theorem d_Mo_readKinLine_65 : decode cX9_readKinLine 65 = .ok (.getfield 152, 3) := by decide +kernel
theorem d_Mo_readKinLine_68 : decode cX9_readKinLine 68 = .ok (.iconst 1, 1) := by decide +kernel
theorem d_Mo_readKinLine_69 : decode cX9_readKinLine 69 = .ok (.isub, 1) := by decide +kernel
theorem d_Mo_readKinLine_70 : decode cX9_readKinLine 70 = .ok (.invokevirtual 278, 3) := by decide +kernel
theorem d_Mo_readKinLine_73 : decode cX9_readKinLine 73 = .ok (.istore_n 2, 1) := by decide +kernel
theorem d_Mo_readKinLine_74 : decode cX9_readKinLine 74 = .ok (.iload_n 2, 1) := by decide +kernel
theorem d_Mo_readKinLine_75 : decode cX9_readKinLine 75 = .ok (.iconst (-1), 1) := by decide +kernel
theorem d_Mo_readKinLine_76 : decode cX9_readKinLine 76 = .ok (.if_icmp .ne 5, 3) := by decide +kernel
theorem d_Mo_readKinLine_79 : decode cX9_readKinLine 79 = .ok (.iconst (-1), 1) := by decide +kernel
theorem d_Mo_readKinLine_80 : decode cX9_readKinLine 80 = .ok (.ireturn, 1) := by decide +kernel
theorem d_Mo_readKinLine_81 : decode cX9_readKinLine 81 = .ok (.aload_n 0, 1) := by decide +kernel
theorem d_Mo_readKinLine_82 : decode cX9_readKinLine 82 = .ok (.getfield 68, 3) := by decide +kernel
theorem d_Mo_readKinLine_85 : decode cX9_readKinLine 85 = .ok (.bipush 12, 2) := by decide +kernel
theorem d_Mo_readKinLine_87 : decode cX9_readKinLine 87 = .ok (.iload_n 1, 1) := by decide +kernel
theorem d_Mo_readKinLine_88 : decode cX9_readKinLine 88 = .ok (.iadd, 1) := by decide +kernel
theorem d_Mo_readKinLine_89 : decode cX9_readKinLine 89 = .ok (.aload_n 0, 1) := by decide +kernel
theorem d_Mo_readKinLine_90 : decode cX9_readKinLine 90 = .ok (.getfield 68, 3) := by decide +kernel
theorem d_Mo_readKinLine_93 : decode cX9_readKinLine 93 = .ok (.bipush 12, 2) := by decide +kernel
theorem d_Mo_readKinLine_95 : decode cX9_readKinLine 95 = .ok (.iload_n 1, 1) := by decide +kernel
theorem d_Mo_readKinLine_96 : decode cX9_readKinLine 96 = .ok (.iadd, 1) := by decide +kernel
theorem d_Mo_readKinLine_97 : decode cX9_readKinLine 97 = .ok (.iaload, 1) := by decide +kernel
theorem d_Mo_readKinLine_98 : decode cX9_readKinLine 98 = .ok (.iconst 1, 1) := by decide +kernel
theorem d_Mo_readKinLine_99 : decode cX9_readKinLine 99 = .ok (.iload_n 2, 1) := by decide +kernel
theorem d_Mo_readKinLine_100 : decode cX9_readKinLine 100 = .ok (.ishl, 1) := by decide +kernel
theorem d_Mo_readKinLine_101 : decode cX9_readKinLine 101 = .ok (.ior, 1) := by decide +kernel
theorem d_Mo_readKinLine_102 : decode cX9_readKinLine 102 = .ok (.iastore, 1) := by decide +kernel
theorem d_Mo_readKinLine_103 : decode cX9_readKinLine 103 = .ok (.aload_n 0, 1) := by decide +kernel
theorem d_Mo_readKinLine_104 : decode cX9_readKinLine 104 = .ok (.getfield 68, 3) := by decide +kernel
theorem d_Mo_readKinLine_107 : decode cX9_readKinLine 107 = .ok (.bipush 12, 2) := by decide +kernel
theorem d_Mo_readKinLine_109 : decode cX9_readKinLine 109 = .ok (.iload_n 2, 1) := by decide +kernel
theorem d_Mo_readKinLine_110 : decode cX9_readKinLine 110 = .ok (.iadd, 1) := by decide +kernel
theorem d_Mo_readKinLine_111 : decode cX9_readKinLine 111 = .ok (.aload_n 0, 1) := by decide +kernel
theorem d_Mo_readKinLine_112 : decode cX9_readKinLine 112 = .ok (.getfield 68, 3) := by decide +kernel
theorem d_Mo_readKinLine_115 : decode cX9_readKinLine 115 = .ok (.bipush 12, 2) := by decide +kernel
theorem d_Mo_readKinLine_117 : decode cX9_readKinLine 117 = .ok (.iload_n 2, 1) := by decide +kernel
theorem d_Mo_readKinLine_118 : decode cX9_readKinLine 118 = .ok (.iadd, 1) := by decide +kernel
theorem d_Mo_readKinLine_119 : decode cX9_readKinLine 119 = .ok (.iaload, 1) := by decide +kernel
theorem d_Mo_readKinLine_120 : decode cX9_readKinLine 120 = .ok (.iconst 1, 1) := by decide +kernel
theorem d_Mo_readKinLine_121 : decode cX9_readKinLine 121 = .ok (.iload_n 1, 1) := by decide +kernel
theorem d_Mo_readKinLine_122 : decode cX9_readKinLine 122 = .ok (.ishl, 1) := by decide +kernel
theorem d_Mo_readKinLine_123 : decode cX9_readKinLine 123 = .ok (.ior, 1) := by decide +kernel
theorem d_Mo_readKinLine_124 : decode cX9_readKinLine 124 = .ok (.iastore, 1) := by decide +kernel
theorem d_Mo_readKinLine_125 : decode cX9_readKinLine 125 = .ok (.aload_n 0, 1) := by decide +kernel
theorem d_Mo_readKinLine_126 : decode cX9_readKinLine 126 = .ok (.bipush 59, 2) := by decide +kernel
theorem d_Mo_readKinLine_128 : decode cX9_readKinLine 128 = .ok (.invokevirtual 285, 3) := by decide +kernel
theorem d_Mo_readKinLine_131 : decode cX9_readKinLine 131 = .ok (.ireturn, 1) := by decide +kernel
theorem d_Mo_readKin_0 : decode cX9_readKin 0 = .ok (.iconst 0, 1) := by decide +kernel
theorem d_Mo_readKin_1 : decode cX9_readKin 1 = .ok (.istore_n 1, 1) := by decide +kernel
theorem d_Mo_readKin_2 : decode cX9_readKin 2 = .ok (.iload_n 1, 1) := by decide +kernel
theorem d_Mo_readKin_3 : decode cX9_readKin 3 = .ok (.bipush 12, 2) := by decide +kernel
theorem d_Mo_readKin_5 : decode cX9_readKin 5 = .ok (.if_icmp .ge 19, 3) := by decide +kernel
theorem d_Mo_readKin_8 : decode cX9_readKin 8 = .ok (.aload_n 0, 1) := by decide +kernel
theorem d_Mo_readKin_9 : decode cX9_readKin 9 = .ok (.getfield 68, 3) := by decide +kernel
theorem d_Mo_readKin_12 : decode cX9_readKin 12 = .ok (.bipush 12, 2) := by decide +kernel
theorem d_Mo_readKin_14 : decode cX9_readKin 14 = .ok (.iload_n 1, 1) := by decide +kernel
theorem d_Mo_readKin_15 : decode cX9_readKin 15 = .ok (.iadd, 1) := by decide +kernel
theorem d_Mo_readKin_16 : decode cX9_readKin 16 = .ok (.iconst 0, 1) := by decide +kernel
theorem d_Mo_readKin_17 : decode cX9_readKin 17 = .ok (.iastore, 1) := by decide +kernel
theorem d_Mo_readKin_18 : decode cX9_readKin 18 = .ok (.iinc 1 1, 3) := by decide +kernel
theorem d_Mo_readKin_21 : decode cX9_readKin 21 = .ok (.goto (-19), 3) := by decide +kernel
theorem d_Mo_readKin_24 : decode cX9_readKin 24 = .ok (.iconst 0, 1) := by decide +kernel
theorem d_Mo_readKin_25 : decode cX9_readKin 25 = .ok (.istore_n 1, 1) := by decide +kernel
theorem d_Mo_readKin_26 : decode cX9_readKin 26 = .ok (.aload_n 0, 1) := by decide +kernel
theorem d_Mo_readKin_27 : decode cX9_readKin 27 = .ok (.bipush 17, 2) := by decide +kernel
theorem d_Mo_readKin_29 : decode cX9_readKin 29 = .ok (.invokevirtual 256, 3) := by decide +kernel
theorem d_Mo_readKin_32 : decode cX9_readKin 32 = .ok (.ifCond .eq 32, 3) := by decide +kernel
theorem d_Mo_readKin_35 : decode cX9_readKin 35 = .ok (.iload_n 1, 1) := by decide +kernel
theorem d_Mo_readKin_36 : decode cX9_readKin 36 = .ok (.bipush 16, 2) := by decide +kernel
theorem d_Mo_readKin_38 : decode cX9_readKin 38 = .ok (.if_icmp .ne 9, 3) := by decide +kernel
theorem d_Mo_readKin_41 : decode cX9_readKin 41 = .ok (.aload_n 0, 1) := by decide +kernel
theorem d_Mo_readKin_42 : decode cX9_readKin 42 = .ok (.iconst 3, 1) := by decide +kernel
theorem d_Mo_readKin_43 : decode cX9_readKin 43 = .ok (.invokevirtual 227, 3) := by decide +kernel
theorem d_Mo_readKin_46 : decode cX9_readKin 46 = .ok (.ireturn, 1) := by decide +kernel
theorem d_Mo_readKin_47 : decode cX9_readKin 47 = .ok (.aload_n 0, 1) := by decide +kernel
theorem d_Mo_readKin_48 : decode cX9_readKin 48 = .ok (.invokevirtual 288, 3) := by decide +kernel
theorem d_Mo_readKin_51 : decode cX9_readKin 51 = .ok (.iconst (-1), 1) := by decide +kernel
theorem d_Mo_readKin_52 : decode cX9_readKin 52 = .ok (.if_icmp .ne 5, 3) := by decide +kernel
theorem d_Mo_readKin_55 : decode cX9_readKin 55 = .ok (.iconst (-1), 1) := by decide +kernel
theorem d_Mo_readKin_56 : decode cX9_readKin 56 = .ok (.ireturn, 1) := by decide +kernel
theorem d_Mo_readKin_57 : decode cX9_readKin 57 = .ok (.iload_n 1, 1) := by decide +kernel
theorem d_Mo_readKin_58 : decode cX9_readKin 58 = .ok (.iconst 1, 1) := by decide +kernel
theorem d_Mo_readKin_59 : decode cX9_readKin 59 = .ok (.iadd, 1) := by decide +kernel
theorem d_Mo_readKin_60 : decode cX9_readKin 60 = .ok (.istore_n 1, 1) := by decide +kernel
theorem d_Mo_readKin_61 : decode cX9_readKin 61 = .ok (.goto (-35), 3) := by decide +kernel
theorem d_Mo_readKin_64 : decode cX9_readKin 64 = .ok (.aload_n 0, 1) := by decide +kernel
theorem d_Mo_readKin_65 : decode cX9_readKin 65 = .ok (.getfield 196, 3) := by decide +kernel
theorem d_Mo_readKin_68 : decode cX9_readKin 68 = .ok (.ifCond .ne 7, 3) := by decide +kernel
theorem d_Mo_readKin_71 : decode cX9_readKin 71 = .ok (.iload_n 1, 1) := by decide +kernel
theorem d_Mo_readKin_72 : decode cX9_readKin 72 = .ok (.goto 8, 3) := by decide +kernel
theorem d_Mo_readKin_75 : decode cX9_readKin 75 = .ok (.aload_n 0, 1) := by decide +kernel
theorem d_Mo_readKin_76 : decode cX9_readKin 76 = .ok (.iconst 1, 1) := by decide +kernel
theorem d_Mo_readKin_77 : decode cX9_readKin 77 = .ok (.invokevirtual 227, 3) := by decide +kernel
theorem d_Mo_readKin_80 : decode cX9_readKin 80 = .ok (.ireturn, 1) := by decide +kernel
theorem d_Mo_mostFor_0 : decode cX9_mostFor 0 = .ok (.iload_n 1, 1) := by decide +kernel
theorem d_Mo_mostFor_1 : decode cX9_mostFor 1 = .ok (.iconst 2, 1) := by decide +kernel
theorem d_Mo_mostFor_2 : decode cX9_mostFor 2 = .ok (.if_icmp .eq 8, 3) := by decide +kernel
theorem d_Mo_mostFor_5 : decode cX9_mostFor 5 = .ok (.iload_n 1, 1) := by decide +kernel
theorem d_Mo_mostFor_6 : decode cX9_mostFor 6 = .ok (.iconst 3, 1) := by decide +kernel
theorem d_Mo_mostFor_7 : decode cX9_mostFor 7 = .ok (.if_icmp .ne 5, 3) := by decide +kernel
theorem d_Mo_mostFor_10 : decode cX9_mostFor 10 = .ok (.iconst 3, 1) := by decide +kernel
theorem d_Mo_mostFor_11 : decode cX9_mostFor 11 = .ok (.ireturn, 1) := by decide +kernel
theorem d_Mo_mostFor_12 : decode cX9_mostFor 12 = .ok (.iload_n 1, 1) := by decide +kernel
theorem d_Mo_mostFor_13 : decode cX9_mostFor 13 = .ok (.iconst 4, 1) := by decide +kernel
theorem d_Mo_mostFor_14 : decode cX9_mostFor 14 = .ok (.if_icmp .ne 12, 3) := by decide +kernel
theorem d_Mo_mostFor_17 : decode cX9_mostFor 17 = .ok (.aload_n 0, 1) := by decide +kernel
theorem d_Mo_mostFor_18 : decode cX9_mostFor 18 = .ok (.getfield 155, 3) := by decide +kernel
theorem d_Mo_mostFor_21 : decode cX9_mostFor 21 = .ok (.iconst 1, 1) := by decide +kernel
theorem d_Mo_mostFor_22 : decode cX9_mostFor 22 = .ok (.isub, 1) := by decide +kernel
theorem d_Mo_mostFor_23 : decode cX9_mostFor 23 = .ok (.goto 9, 3) := by decide +kernel
theorem d_Mo_mostFor_26 : decode cX9_mostFor 26 = .ok (.aload_n 0, 1) := by decide +kernel
theorem d_Mo_mostFor_27 : decode cX9_mostFor 27 = .ok (.getfield 152, 3) := by decide +kernel
theorem d_Mo_mostFor_30 : decode cX9_mostFor 30 = .ok (.iconst 1, 1) := by decide +kernel
theorem d_Mo_mostFor_31 : decode cX9_mostFor 31 = .ok (.isub, 1) := by decide +kernel
theorem d_Mo_mostFor_32 : decode cX9_mostFor 32 = .ok (.ireturn, 1) := by decide +kernel
theorem d_Mo_readDeed_0 : decode cX9_readDeed 0 = .ok (.aload_n 0, 1) := by decide +kernel
theorem d_Mo_readDeed_1 : decode cX9_readDeed 1 = .ok (.getfield 71, 3) := by decide +kernel
theorem d_Mo_readDeed_4 : decode cX9_readDeed 4 = .ok (.iload_n 1, 1) := by decide +kernel
theorem d_Mo_readDeed_5 : decode cX9_readDeed 5 = .ok (.aload_n 0, 1) := by decide +kernel
theorem d_Mo_readDeed_6 : decode cX9_readDeed 6 = .ok (.bipush 19, 2) := by decide +kernel
theorem d_Mo_readDeed_8 : decode cX9_readDeed 8 = .ok (.iconst 0, 1) := by decide +kernel
theorem d_Mo_readDeed_9 : decode cX9_readDeed 9 = .ok (.sipush 999, 3) := by decide +kernel
theorem d_Mo_readDeed_12 : decode cX9_readDeed 12 = .ok (.invokevirtual 281, 3) := by decide +kernel
theorem d_Mo_readDeed_15 : decode cX9_readDeed 15 = .ok (.iastore, 1) := by decide +kernel
theorem d_Mo_readDeed_16 : decode cX9_readDeed 16 = .ok (.aload_n 0, 1) := by decide +kernel
theorem d_Mo_readDeed_17 : decode cX9_readDeed 17 = .ok (.getfield 71, 3) := by decide +kernel
theorem d_Mo_readDeed_20 : decode cX9_readDeed 20 = .ok (.iload_n 1, 1) := by decide +kernel
theorem d_Mo_readDeed_21 : decode cX9_readDeed 21 = .ok (.iaload, 1) := by decide +kernel
theorem d_Mo_readDeed_22 : decode cX9_readDeed 22 = .ok (.iconst (-1), 1) := by decide +kernel
theorem d_Mo_readDeed_23 : decode cX9_readDeed 23 = .ok (.if_icmp .ne 5, 3) := by decide +kernel
theorem d_Mo_readDeed_26 : decode cX9_readDeed 26 = .ok (.iconst (-1), 1) := by decide +kernel
theorem d_Mo_readDeed_27 : decode cX9_readDeed 27 = .ok (.ireturn, 1) := by decide +kernel
theorem d_Mo_readDeed_28 : decode cX9_readDeed 28 = .ok (.aload_n 0, 1) := by decide +kernel
theorem d_Mo_readDeed_29 : decode cX9_readDeed 29 = .ok (.getfield 196, 3) := by decide +kernel
theorem d_Mo_readDeed_32 : decode cX9_readDeed 32 = .ok (.iconst 2, 1) := by decide +kernel
theorem d_Mo_readDeed_33 : decode cX9_readDeed 33 = .ok (.if_icmp .ne 13, 3) := by decide +kernel
theorem d_Mo_readDeed_36 : decode cX9_readDeed 36 = .ok (.aload_n 0, 1) := by decide +kernel
theorem d_Mo_readDeed_37 : decode cX9_readDeed 37 = .ok (.getfield 199, 3) := by decide +kernel
theorem d_Mo_readDeed_40 : decode cX9_readDeed 40 = .ok (.bipush 20, 2) := by decide +kernel
theorem d_Mo_readDeed_42 : decode cX9_readDeed 42 = .ok (.isub, 1) := by decide +kernel
theorem d_Mo_readDeed_43 : decode cX9_readDeed 43 = .ok (.goto 4, 3) := by decide +kernel
theorem d_Mo_readDeed_46 : decode cX9_readDeed 46 = .ok (.iconst (-1), 1) := by decide +kernel
theorem d_Mo_readDeed_47 : decode cX9_readDeed 47 = .ok (.istore_n 2, 1) := by decide +kernel
theorem d_Mo_readDeed_48 : decode cX9_readDeed 48 = .ok (.iload_n 2, 1) := by decide +kernel
theorem d_Mo_readDeed_49 : decode cX9_readDeed 49 = .ok (.ifCond .eq 20, 3) := by decide +kernel
theorem d_Mo_readDeed_52 : decode cX9_readDeed 52 = .ok (.aload_n 0, 1) := by decide +kernel
theorem d_Mo_readDeed_53 : decode cX9_readDeed 53 = .ok (.iload_n 2, 1) := by decide +kernel
theorem d_Mo_readDeed_54 : decode cX9_readDeed 54 = .ok (.iconst 2, 1) := by decide +kernel
theorem d_Mo_readDeed_55 : decode cX9_readDeed 55 = .ok (.bipush 6, 2) := by decide +kernel
theorem d_Mo_readDeed_57 : decode cX9_readDeed 57 = .ok (.invokevirtual 162, 3) := by decide +kernel
theorem d_Mo_readDeed_60 : decode cX9_readDeed 60 = .ok (.ifCond .ne 9, 3) := by decide +kernel
theorem d_Mo_readDeed_63 : decode cX9_readDeed 63 = .ok (.aload_n 0, 1) := by decide +kernel
theorem d_Mo_readDeed_64 : decode cX9_readDeed 64 = .ok (.iconst 1, 1) := by decide +kernel
theorem d_Mo_readDeed_65 : decode cX9_readDeed 65 = .ok (.invokevirtual 227, 3) := by decide +kernel
theorem d_Mo_readDeed_68 : decode cX9_readDeed 68 = .ok (.ireturn, 1) := by decide +kernel
theorem d_Mo_readDeed_69 : decode cX9_readDeed 69 = .ok (.aload_n 0, 1) := by decide +kernel
theorem d_Mo_readDeed_70 : decode cX9_readDeed 70 = .ok (.invokevirtual 234, 3) := by decide +kernel
theorem d_Mo_readDeed_73 : decode cX9_readDeed 73 = .ok (.aload_n 0, 1) := by decide +kernel
theorem d_Mo_readDeed_74 : decode cX9_readDeed 74 = .ok (.getfield 71, 3) := by decide +kernel
theorem d_Mo_readDeed_77 : decode cX9_readDeed 77 = .ok (.iload_n 1, 1) := by decide +kernel
theorem d_Mo_readDeed_78 : decode cX9_readDeed 78 = .ok (.iconst 1, 1) := by decide +kernel
theorem d_Mo_readDeed_79 : decode cX9_readDeed 79 = .ok (.iadd, 1) := by decide +kernel
theorem d_Mo_readDeed_80 : decode cX9_readDeed 80 = .ok (.iload_n 2, 1) := by decide +kernel
theorem d_Mo_readDeed_81 : decode cX9_readDeed 81 = .ok (.iastore, 1) := by decide +kernel
theorem d_Mo_readDeed_82 : decode cX9_readDeed 82 = .ok (.aload_n 0, 1) := by decide +kernel
theorem d_Mo_readDeed_83 : decode cX9_readDeed 83 = .ok (.getfield 71, 3) := by decide +kernel
theorem d_Mo_readDeed_86 : decode cX9_readDeed 86 = .ok (.iload_n 1, 1) := by decide +kernel
theorem d_Mo_readDeed_87 : decode cX9_readDeed 87 = .ok (.iconst 2, 1) := by decide +kernel
theorem d_Mo_readDeed_88 : decode cX9_readDeed 88 = .ok (.iadd, 1) := by decide +kernel
theorem d_Mo_readDeed_89 : decode cX9_readDeed 89 = .ok (.aload_n 0, 1) := by decide +kernel
theorem d_Mo_readDeed_90 : decode cX9_readDeed 90 = .ok (.iconst 0, 1) := by decide +kernel
theorem d_Mo_readDeed_91 : decode cX9_readDeed 91 = .ok (.aload_n 0, 1) := by decide +kernel
theorem d_Mo_readDeed_92 : decode cX9_readDeed 92 = .ok (.iload_n 2, 1) := by decide +kernel
theorem d_Mo_readDeed_93 : decode cX9_readDeed 93 = .ok (.invokevirtual 291, 3) := by decide +kernel
theorem d_Mo_readDeed_96 : decode cX9_readDeed 96 = .ok (.invokevirtual 278, 3) := by decide +kernel
theorem d_Mo_readDeed_99 : decode cX9_readDeed 99 = .ok (.iastore, 1) := by decide +kernel
theorem d_Mo_readDeed_100 : decode cX9_readDeed 100 = .ok (.aload_n 0, 1) := by decide +kernel
theorem d_Mo_readDeed_101 : decode cX9_readDeed 101 = .ok (.getfield 71, 3) := by decide +kernel
theorem d_Mo_readDeed_104 : decode cX9_readDeed 104 = .ok (.iload_n 1, 1) := by decide +kernel
theorem d_Mo_readDeed_105 : decode cX9_readDeed 105 = .ok (.iconst 2, 1) := by decide +kernel
theorem d_Mo_readDeed_106 : decode cX9_readDeed 106 = .ok (.iadd, 1) := by decide +kernel
theorem d_Mo_readDeed_107 : decode cX9_readDeed 107 = .ok (.iaload, 1) := by decide +kernel
theorem d_Mo_readDeed_108 : decode cX9_readDeed 108 = .ok (.iconst (-1), 1) := by decide +kernel
theorem d_Mo_readDeed_109 : decode cX9_readDeed 109 = .ok (.if_icmp .ne 5, 3) := by decide +kernel
theorem d_Mo_readDeed_112 : decode cX9_readDeed 112 = .ok (.iconst (-1), 1) := by decide +kernel
theorem d_Mo_readDeed_113 : decode cX9_readDeed 113 = .ok (.ireturn, 1) := by decide +kernel
theorem d_Mo_readDeed_114 : decode cX9_readDeed 114 = .ok (.aload_n 0, 1) := by decide +kernel
theorem d_Mo_readDeed_115 : decode cX9_readDeed 115 = .ok (.getfield 71, 3) := by decide +kernel
theorem d_Mo_readDeed_118 : decode cX9_readDeed 118 = .ok (.iload_n 1, 1) := by decide +kernel
theorem d_Mo_readDeed_119 : decode cX9_readDeed 119 = .ok (.iconst 3, 1) := by decide +kernel
theorem d_Mo_readDeed_120 : decode cX9_readDeed 120 = .ok (.iadd, 1) := by decide +kernel
theorem d_Mo_readDeed_121 : decode cX9_readDeed 121 = .ok (.iload_n 2, 1) := by decide +kernel
theorem d_Mo_readDeed_122 : decode cX9_readDeed 122 = .ok (.ifCond .eq 8, 3) := by decide +kernel
theorem d_Mo_readDeed_125 : decode cX9_readDeed 125 = .ok (.iload_n 2, 1) := by decide +kernel
theorem d_Mo_readDeed_126 : decode cX9_readDeed 126 = .ok (.iconst 4, 1) := by decide +kernel
theorem d_Mo_readDeed_127 : decode cX9_readDeed 127 = .ok (.if_icmp .ne 14, 3) := by decide +kernel
theorem d_Mo_readDeed_130 : decode cX9_readDeed 130 = .ok (.aload_n 0, 1) := by decide +kernel
theorem d_Mo_readDeed_131 : decode cX9_readDeed 131 = .ok (.bipush 21, 2) := by decide +kernel
theorem d_Mo_readDeed_133 : decode cX9_readDeed 133 = .ok (.iconst 0, 1) := by decide +kernel
theorem d_Mo_readDeed_134 : decode cX9_readDeed 134 = .ok (.iconst 3, 1) := by decide +kernel
theorem d_Mo_readDeed_135 : decode cX9_readDeed 135 = .ok (.invokevirtual 281, 3) := by decide +kernel
theorem d_Mo_readDeed_138 : decode cX9_readDeed 138 = .ok (.goto 4, 3) := by decide +kernel
theorem d_Mo_readDeed_141 : decode cX9_readDeed 141 = .ok (.iconst 0, 1) := by decide +kernel
theorem d_Mo_readDeed_142 : decode cX9_readDeed 142 = .ok (.iastore, 1) := by decide +kernel
theorem d_Mo_readDeed_143 : decode cX9_readDeed 143 = .ok (.aload_n 0, 1) := by decide +kernel
theorem d_Mo_readDeed_144 : decode cX9_readDeed 144 = .ok (.getfield 71, 3) := by decide +kernel
theorem d_Mo_readDeed_147 : decode cX9_readDeed 147 = .ok (.iload_n 1, 1) := by decide +kernel
theorem d_Mo_readDeed_148 : decode cX9_readDeed 148 = .ok (.iconst 3, 1) := by decide +kernel
theorem d_Mo_readDeed_149 : decode cX9_readDeed 149 = .ok (.iadd, 1) := by decide +kernel
theorem d_Mo_readDeed_150 : decode cX9_readDeed 150 = .ok (.iaload, 1) := by decide +kernel
theorem d_Mo_readDeed_151 : decode cX9_readDeed 151 = .ok (.iconst (-1), 1) := by decide +kernel
theorem d_Mo_readDeed_152 : decode cX9_readDeed 152 = .ok (.if_icmp .ne 7, 3) := by decide +kernel
theorem d_Mo_readDeed_155 : decode cX9_readDeed 155 = .ok (.iconst (-1), 1) := by decide +kernel
theorem d_Mo_readDeed_156 : decode cX9_readDeed 156 = .ok (.goto 9, 3) := by decide +kernel
theorem d_Mo_readDeed_159 : decode cX9_readDeed 159 = .ok (.aload_n 0, 1) := by decide +kernel
theorem d_Mo_readDeed_160 : decode cX9_readDeed 160 = .ok (.bipush 59, 2) := by decide +kernel
theorem d_Mo_readDeed_162 : decode cX9_readDeed 162 = .ok (.invokevirtual 285, 3) := by decide +kernel
theorem d_Mo_readDeed_165 : decode cX9_readDeed 165 = .ok (.ireturn, 1) := by decide +kernel
theorem d_Mo_readShifts_0 : decode cX9_readShifts 0 = .ok (.iconst 0, 1) := by decide +kernel
theorem d_Mo_readShifts_1 : decode cX9_readShifts 1 = .ok (.istore_n 1, 1) := by decide +kernel
theorem d_Mo_readShifts_2 : decode cX9_readShifts 2 = .ok (.aload_n 0, 1) := by decide +kernel
theorem d_Mo_readShifts_3 : decode cX9_readShifts 3 = .ok (.bipush 19, 2) := by decide +kernel
theorem d_Mo_readShifts_5 : decode cX9_readShifts 5 = .ok (.invokevirtual 256, 3) := by decide +kernel
theorem d_Mo_readShifts_8 : decode cX9_readShifts 8 = .ok (.ifCond .eq 38, 3) := by decide +kernel
theorem d_Mo_readShifts_11 : decode cX9_readShifts 11 = .ok (.iload_n 1, 1) := by decide +kernel
theorem d_Mo_readShifts_12 : decode cX9_readShifts 12 = .ok (.bipush 16, 2) := by decide +kernel
theorem d_Mo_readShifts_14 : decode cX9_readShifts 14 = .ok (.if_icmp .ne 9, 3) := by decide +kernel
theorem d_Mo_readShifts_17 : decode cX9_readShifts 17 = .ok (.aload_n 0, 1) := by decide +kernel
theorem d_Mo_readShifts_18 : decode cX9_readShifts 18 = .ok (.iconst 3, 1) := by decide +kernel
theorem d_Mo_readShifts_19 : decode cX9_readShifts 19 = .ok (.invokevirtual 227, 3) := by decide +kernel
theorem d_Mo_readShifts_22 : decode cX9_readShifts 22 = .ok (.ireturn, 1) := by decide +kernel
theorem d_Mo_readShifts_23 : decode cX9_readShifts 23 = .ok (.aload_n 0, 1) := by decide +kernel
theorem d_Mo_readShifts_24 : decode cX9_readShifts 24 = .ok (.bipush 64, 2) := by decide +kernel
theorem d_Mo_readShifts_26 : decode cX9_readShifts 26 = .ok (.iconst 4, 1) := by decide +kernel
theorem d_Mo_readShifts_27 : decode cX9_readShifts 27 = .ok (.iload_n 1, 1) := by decide +kernel
theorem d_Mo_readShifts_28 : decode cX9_readShifts 28 = .ok (.imul, 1) := by decide +kernel
theorem d_Mo_readShifts_29 : decode cX9_readShifts 29 = .ok (.iadd, 1) := by decide +kernel
theorem d_Mo_readShifts_30 : decode cX9_readShifts 30 = .ok (.invokevirtual 294, 3) := by decide +kernel
theorem d_Mo_readShifts_33 : decode cX9_readShifts 33 = .ok (.iconst (-1), 1) := by decide +kernel
theorem d_Mo_readShifts_34 : decode cX9_readShifts 34 = .ok (.if_icmp .ne 5, 3) := by decide +kernel
theorem d_Mo_readShifts_37 : decode cX9_readShifts 37 = .ok (.iconst (-1), 1) := by decide +kernel
theorem d_Mo_readShifts_38 : decode cX9_readShifts 38 = .ok (.ireturn, 1) := by decide +kernel
theorem d_Mo_readShifts_39 : decode cX9_readShifts 39 = .ok (.iload_n 1, 1) := by decide +kernel
theorem d_Mo_readShifts_40 : decode cX9_readShifts 40 = .ok (.iconst 1, 1) := by decide +kernel
theorem d_Mo_readShifts_41 : decode cX9_readShifts 41 = .ok (.iadd, 1) := by decide +kernel
theorem d_Mo_readShifts_42 : decode cX9_readShifts 42 = .ok (.istore_n 1, 1) := by decide +kernel
theorem d_Mo_readShifts_43 : decode cX9_readShifts 43 = .ok (.goto (-41), 3) := by decide +kernel
theorem d_Mo_readShifts_46 : decode cX9_readShifts 46 = .ok (.aload_n 0, 1) := by decide +kernel
theorem d_Mo_readShifts_47 : decode cX9_readShifts 47 = .ok (.getfield 196, 3) := by decide +kernel
theorem d_Mo_readShifts_50 : decode cX9_readShifts 50 = .ok (.ifCond .ne 7, 3) := by decide +kernel
theorem d_Mo_readShifts_53 : decode cX9_readShifts 53 = .ok (.iload_n 1, 1) := by decide +kernel
theorem d_Mo_readShifts_54 : decode cX9_readShifts 54 = .ok (.goto 8, 3) := by decide +kernel
theorem d_Mo_readShifts_57 : decode cX9_readShifts 57 = .ok (.aload_n 0, 1) := by decide +kernel
theorem d_Mo_readShifts_58 : decode cX9_readShifts 58 = .ok (.iconst 1, 1) := by decide +kernel
theorem d_Mo_readShifts_59 : decode cX9_readShifts 59 = .ok (.invokevirtual 227, 3) := by decide +kernel
theorem d_Mo_readShifts_62 : decode cX9_readShifts 62 = .ok (.ireturn, 1) := by decide +kernel
theorem d_Mo_readRoad_0 : decode cX9_readRoad 0 = .ok (.aload_n 0, 1) := by decide +kernel
theorem d_Mo_readRoad_1 : decode cX9_readRoad 1 = .ok (.getfield 74, 3) := by decide +kernel
theorem d_Mo_readRoad_4 : decode cX9_readRoad 4 = .ok (.iload_n 1, 1) := by decide +kernel
theorem d_Mo_readRoad_5 : decode cX9_readRoad 5 = .ok (.aload_n 0, 1) := by decide +kernel
theorem d_Mo_readRoad_6 : decode cX9_readRoad 6 = .ok (.bipush 27, 2) := by decide +kernel
theorem d_Mo_readRoad_8 : decode cX9_readRoad 8 = .ok (.iconst 0, 1) := by decide +kernel
theorem d_Mo_readRoad_9 : decode cX9_readRoad 9 = .ok (.bipush 9, 2) := by decide +kernel
theorem d_Mo_readRoad_11 : decode cX9_readRoad 11 = .ok (.invokevirtual 281, 3) := by decide +kernel
theorem d_Mo_readRoad_14 : decode cX9_readRoad 14 = .ok (.iastore, 1) := by decide +kernel
theorem d_Mo_readRoad_15 : decode cX9_readRoad 15 = .ok (.aload_n 0, 1) := by decide +kernel
theorem d_Mo_readRoad_16 : decode cX9_readRoad 16 = .ok (.getfield 74, 3) := by decide +kernel
theorem d_Mo_readRoad_19 : decode cX9_readRoad 19 = .ok (.iload_n 1, 1) := by decide +kernel
theorem d_Mo_readRoad_20 : decode cX9_readRoad 20 = .ok (.iaload, 1) := by decide +kernel
theorem d_Mo_readRoad_21 : decode cX9_readRoad 21 = .ok (.iconst (-1), 1) := by decide +kernel
theorem d_Mo_readRoad_22 : decode cX9_readRoad 22 = .ok (.if_icmp .ne 5, 3) := by decide +kernel
theorem d_Mo_readRoad_25 : decode cX9_readRoad 25 = .ok (.iconst (-1), 1) := by decide +kernel
theorem d_Mo_readRoad_26 : decode cX9_readRoad 26 = .ok (.ireturn, 1) := by decide +kernel
theorem d_Mo_readRoad_27 : decode cX9_readRoad 27 = .ok (.aload_n 0, 1) := by decide +kernel
theorem d_Mo_readRoad_28 : decode cX9_readRoad 28 = .ok (.getfield 196, 3) := by decide +kernel
theorem d_Mo_readRoad_31 : decode cX9_readRoad 31 = .ok (.iconst 3, 1) := by decide +kernel
theorem d_Mo_readRoad_32 : decode cX9_readRoad 32 = .ok (.if_icmp .ne 22, 3) := by decide +kernel
theorem d_Mo_readRoad_35 : decode cX9_readRoad 35 = .ok (.aload_n 0, 1) := by decide +kernel
theorem d_Mo_readRoad_36 : decode cX9_readRoad 36 = .ok (.getfield 199, 3) := by decide +kernel
theorem d_Mo_readRoad_39 : decode cX9_readRoad 39 = .ok (.aload_n 0, 1) := by decide +kernel
theorem d_Mo_readRoad_40 : decode cX9_readRoad 40 = .ok (.getfield 74, 3) := by decide +kernel
theorem d_Mo_readRoad_43 : decode cX9_readRoad 43 = .ok (.iload_n 1, 1) := by decide +kernel
theorem d_Mo_readRoad_44 : decode cX9_readRoad 44 = .ok (.iaload, 1) := by decide +kernel
theorem d_Mo_readRoad_45 : decode cX9_readRoad 45 = .ok (.if_icmp .ne 9, 3) := by decide +kernel
theorem d_Mo_readRoad_48 : decode cX9_readRoad 48 = .ok (.aload_n 0, 1) := by decide +kernel
theorem d_Mo_readRoad_49 : decode cX9_readRoad 49 = .ok (.iconst 2, 1) := by decide +kernel
theorem d_Mo_readRoad_50 : decode cX9_readRoad 50 = .ok (.invokevirtual 227, 3) := by decide +kernel
theorem d_Mo_readRoad_53 : decode cX9_readRoad 53 = .ok (.ireturn, 1) := by decide +kernel
theorem d_Mo_readRoad_54 : decode cX9_readRoad 54 = .ok (.aload_n 0, 1) := by decide +kernel
theorem d_Mo_readRoad_55 : decode cX9_readRoad 55 = .ok (.getfield 74, 3) := by decide +kernel
theorem d_Mo_readRoad_58 : decode cX9_readRoad 58 = .ok (.iload_n 1, 1) := by decide +kernel
theorem d_Mo_readRoad_59 : decode cX9_readRoad 59 = .ok (.iconst 1, 1) := by decide +kernel
