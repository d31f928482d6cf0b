/-! ===== state, fault, end, who, book, ledger, years ===== -/
theorem op_state (b : Nat) : B_state (Inv b) b (b + 131) := by
  intro h I v
  obtain ⟨s, cd, c_stat, c_realm, c_book, c_law, c_kin, c_shi, c_roa, c_ord, c_han, c_wei, c_bag, c_pri, c_cnt, c_led, c_yea, c_log, c_rdr, c_msc, c_img⟩ := I
  have K0 : gK h b = (0, 8) := s.K 0 (by decide) rfl
  have K1 : gK h (b + 1) = (0, 1) := s.K 1 (by decide) rfl
  have K2 : gK h (b + 2) = (0, 5) := s.K 2 (by decide) rfl
  have K40 : gK h (b + 40) = (0, 3) := s.K 40 (by decide) rfl
  have K131 : gK h (b + 131) = (0, 9) := s.K 131 (by decide) rfl
  have K132 : gK h (b + 132) = (1, 79) := s.K 132 (by decide) rfl
  have R0_0 : gR h b 0 = some (b + 1) := s.R 0 0 rfl
  have R1_0 : gR h (b + 1) 0 = some (b + 2) := s.R 1 0 rfl
  have R0_1 : gR h b 1 = some (b + 40) := s.R 0 1 rfl
  have R131_1 : gR h (b + 131) 1 = some (b + 132) := s.R 131 1 rfl
  have cr := c_realm
  obtain ⟨⟨hnt, hno⟩, ro, F1, F9, F0, F15, F16, F17, F18, F19, F14, F7, F8, RT, RO⟩ := cr
  have RT : ∀ t, t < ntOf h b → gI h (b + 3) t = gI h (b + 135) t ∧ gI h (b + 4) t = gI h (b + 136) t ∧ gI h (b + 5) t = gI h (b + 132) (7 + t) ∧ gI h (b + 6) t = gI h (b + 132) (19 + t) ∧ gI h (b + 7) t = gI h (b + 132) (31 + t) - 1 := RT
  have RO : ∀ o, o < noOf h b → gI h (b + 8) o = gI h (b + 132) (67 + o) ∧ gI h (b + 9) o = gI h (b + 137) o ∧ gI h (b + 10) o = gI h (b + 138) o ∧ gI h (b + 11) o = gI h (b + 132) (73 + o) := RO
  have hN6 : gI h (b + 131) 6 = nI (ntOf h b) := c_stat.1
  have hN7 : gI h (b + 131) 7 = nI (noOf h b) := c_stat.2.1
  have t1 : Sn [(2, 0, 1), (40, 2, 3)] b h (sI (sI h (b + 2) 0 v) (b + 40) 2 0) := (Sn.rf.put 2 0 v (by decide)).put 40 2 0 (by decide)
  have t2 : Sn [(131, 0, 1), (132, 1, 2), (131, 3, 4)] b (sI (sI h (b + 2) 0 v) (b + 40) 2 0) (sI (sI (sI (sI (sI h (b + 2) 0 v) (b + 40) 2 0) (b + 131) 0 0) (b + 132) 1 v) (b + 131) 3 0) := ((Sn.rf.put 131 0 0 (by decide)).put 132 1 v (by decide)).put 131 3 0 (by decide)
  have t := t1.app t2
  refine both_mk (r := gI h (b + 2) 0) ?_ t1 ?_ t2 ?_
  · simp [f_Tc_state, f_Log_forget, ↓ob_eq, ob_some, ldI, ldR, ldO, stI, stZ, stR, isO, wrA_n, rdA_n, wrA_l, rdA_l, gK_sI, gR_sI, gX_sI, gN_sI, gK_cp, gR_cp, gX_cp, gN_cp, rtZ_0, rtZ_1, if_true, reduceIte, and_self, true_and, and_true, K0, K1, K2, K40, R0_0, R1_0, R0_1]
  · simp (disch := omega) [f_Mo_state, ↓ob_eq, ob_some, ldI, ldR, ldO, stI, stZ, stR, isO, wrA_n, rdA_n, wrA_l, rdA_l, gK_sI, gR_sI, gX_sI, gN_sI, gK_cp, gR_cp, gX_cp, gN_cp, rtZ_0, rtZ_1, if_true, reduceIte, and_self, true_and, and_true, K131, K132, R131_1, gI_q, gI_n1, gI_n2, F0]
  · have n_log : C_log (sI (sI (sI (sI (sI h (b + 2) 0 v) (b + 40) 2 0) (b + 131) 0 0) (b + 132) 1 v) (b + 131) 3 0) b := by
      refine C_log_0 ?_ ?_ ?_ ?_ ?_
      · unfold ntOf; simp (disch := omega) only [gI_q, gI_n1, gI_n2]; exact hnt
      · unfold noOf; simp (disch := omega) only [gI_q, gI_n1, gI_n2]; exact hno
      · simp (disch := omega) only [gI_q, gI_n1, gI_n2]; exact c_log.nx
      · simp (disch := omega) only [gI_q, gI_n1, gI_n2]
      · simp (disch := omega) only [gI_q, gI_n1, gI_n2]
    have n_realm : C_realm (sI (sI (sI (sI (sI h (b + 2) 0 v) (b + 40) 2 0) (b + 131) 0 0) (b + 132) 1 v) (b + 131) 3 0) b := by
      have e : C_realm (sI (sI (sI (sI (sI h (b + 2) 0 v) (b + 40) 2 0) (b + 131) 0 0) (b + 132) 1 v) (b + 131) 3 0) b = C_realm (sI (sI h (b + 2) 0 v) (b + 132) 1 v) b := by
        unfold C_realm RealmAt RlR RowOK ntOf noOf
        simp (disch := omega) only [gI_q, gI_n1, gI_n2]
      rw [e]
      unfold C_realm RealmAt RlR RowOK ntOf noOf
      simp (disch := omega) only [gI_q, gI_n1, gI_n2]
      exact ⟨⟨hnt, hno⟩, ro, F1, F9, trivial, F15, F16, F17, F18, F19, F14, F7, F8, RT, RO⟩
    exact ⟨s.sn t, cd.cg t, c_stat.cg t (by decide), n_realm, c_book.cg t (by decide), c_law.cg t (by decide), c_kin.cg t (by decide), c_shi.cg t (by decide), c_roa.cg t (by decide), c_ord.cg t (by decide), c_han.cg t (by decide), c_wei.cg t (by decide), c_bag.cg t (by decide), c_pri.cg t (by decide), c_cnt.cg t (by decide), c_led.cg t (by decide), c_yea.cg t (by decide), n_log, c_rdr.cg t (by decide), c_msc.cg t (by decide), c_img.cg t (by decide)⟩
theorem op_fault (b : Nat) : B_fault (Inv b) b (b + 131) := by
  intro h I v
  have I0 := I
  obtain ⟨s, cd, c_stat, c_realm, c_book, c_law, c_kin, c_shi, c_roa, c_ord, c_han, c_wei, c_bag, c_pri, c_cnt, c_led, c_yea, c_log, c_rdr, c_msc, c_img⟩ := I
  have K0 : gK h b = (0, 8) := s.K 0 (by decide) rfl
  have K102 : gK h (b + 102) = (0, 4) := s.K 102 (by decide) rfl
  have K131 : gK h (b + 131) = (0, 9) := s.K 131 (by decide) rfl
  have R0_2 : gR h b 2 = some (b + 102) := s.R 0 2 rfl
  obtain ⟨_, q1, q2, _⟩ := c_rdr
  by_cases h0 : v = 0
  · exact both_ref I0 (r := gI h (b + 102) 2) (by simp [f_Tc_fault, h0, ↓ob_eq, ob_some, ldI, ldR, ldO, stI, stZ, stR, isO, wrA_n, rdA_n, wrA_l, rdA_l, gK_sI, gR_sI, gX_sI, gN_sI, gK_cp, gR_cp, gX_cp, gN_cp, rtZ_0, rtZ_1, if_true, reduceIte, and_self, true_and, and_true, K0, K102, R0_2]) (by simp (disch := omega) [f_Mo_fault, h0, ↓ob_eq, ob_some, ldI, ldR, ldO, stI, stZ, stR, isO, wrA_n, rdA_n, wrA_l, rdA_l, gK_sI, gR_sI, gX_sI, gN_sI, gK_cp, gR_cp, gX_cp, gN_cp, rtZ_0, rtZ_1, if_true, reduceIte, and_self, true_and, and_true, K131, gI_q, gI_n1, gI_n2, q1])
  · by_cases h1 : v = 1
    · exact both_ref I0 (r := gI h (b + 102) 3) (by simp [f_Tc_fault, h1, ↓ob_eq, ob_some, ldI, ldR, ldO, stI, stZ, stR, isO, wrA_n, rdA_n, wrA_l, rdA_l, gK_sI, gR_sI, gX_sI, gN_sI, gK_cp, gR_cp, gX_cp, gN_cp, rtZ_0, rtZ_1, if_true, reduceIte, and_self, true_and, and_true, K0, K102, R0_2]) (by simp (disch := omega) [f_Mo_fault, h1, ↓ob_eq, ob_some, ldI, ldR, ldO, stI, stZ, stR, isO, wrA_n, rdA_n, wrA_l, rdA_l, gK_sI, gR_sI, gX_sI, gN_sI, gK_cp, gR_cp, gX_cp, gN_cp, rtZ_0, rtZ_1, if_true, reduceIte, and_self, true_and, and_true, K131, gI_q, gI_n1, gI_n2, q2])
    · exact both_ref I0 (r := -1) (by simp [f_Tc_fault, h0, h1, ↓ob_eq, ob_some, ldI, ldR, ldO, stI, stZ, stR, isO, wrA_n, rdA_n, wrA_l, rdA_l, gK_sI, gR_sI, gX_sI, gN_sI, gK_cp, gR_cp, gX_cp, gN_cp, rtZ_0, rtZ_1, if_true, reduceIte, and_self, true_and, and_true]) (by simp [f_Mo_fault, h0, h1, ↓ob_eq, ob_some, ldI, ldR, ldO, stI, stZ, stR, isO, wrA_n, rdA_n, wrA_l, rdA_l, gK_sI, gR_sI, gX_sI, gN_sI, gK_cp, gR_cp, gX_cp, gN_cp, rtZ_0, rtZ_1, if_true, reduceIte, and_self, true_and, and_true, K131])
theorem op_end (b : Nat) : B_end (Inv b) b (b + 131) := by
  intro h I v
  have I0 := I
  obtain ⟨s, cd, c_stat, c_realm, c_book, c_law, c_kin, c_shi, c_roa, c_ord, c_han, c_wei, c_bag, c_pri, c_cnt, c_led, c_yea, c_log, c_rdr, c_msc, c_img⟩ := I
  have K0 : gK h b = (0, 8) := s.K 0 (by decide) rfl
  have K102 : gK h (b + 102) = (0, 4) := s.K 102 (by decide) rfl
  have K131 : gK h (b + 131) = (0, 9) := s.K 131 (by decide) rfl
  have R0_2 : gR h b 2 = some (b + 102) := s.R 0 2 rfl
  obtain ⟨⟨n, hn, m1, m2⟩, q1, q2, q3⟩ := c_rdr
  by_cases h0 : v < 0
  · exact both_ref I0 (r := 0) (by simp [f_Tc_end, h0, ↓ob_eq, ob_some, ldI, ldR, ldO, stI, stZ, stR, isO, wrA_n, rdA_n, wrA_l, rdA_l, gK_sI, gR_sI, gX_sI, gN_sI, gK_cp, gR_cp, gX_cp, gN_cp, rtZ_0, rtZ_1, if_true, reduceIte, and_self, true_and, and_true]) (by simp [f_Mo_end, f_Mo_isIn, h0, ↓ob_eq, ob_some, ldI, ldR, ldO, stI, stZ, stR, isO, wrA_n, rdA_n, wrA_l, rdA_l, gK_sI, gR_sI, gX_sI, gN_sI, gK_cp, gR_cp, gX_cp, gN_cp, rtZ_0, rtZ_1, if_true, reduceIte, and_self, true_and, and_true, K131])
  · by_cases h1 : v ≤ nI n
    · have h2 : ¬ nI n < v := fun q => (fa_of_lt q).2.1 h1
      obtain ⟨k, hk, rfl⟩ := I_upto (by omega) h0 h2
      have t1 : Sn [(102, 1, 2)] b h (sI h (b + 102) 1 (nI k)) := Sn.rf.put 102 1 _ (by decide)
      have t2 : Sn [(131, 0, 1), (131, 14, 15)] b (sI h (b + 102) 1 (nI k)) (sI (sI (sI h (b + 102) 1 (nI k)) (b + 131) 0 0) (b + 131) 14 (nI k)) := (Sn.rf.put 131 0 0 (by decide)).put 131 14 _ (by decide)
      have t := t1.app t2
      refine both_mk (r := 1) ?_ t1 ?_ t2 ?_
      · simp [f_Tc_end, h0, h1, ↓ob_eq, ob_some, ldI, ldR, ldO, stI, stZ, stR, isO, wrA_n, rdA_n, wrA_l, rdA_l, gK_sI, gR_sI, gX_sI, gN_sI, gK_cp, gR_cp, gX_cp, gN_cp, rtZ_0, rtZ_1, if_true, reduceIte, and_self, true_and, and_true, K0, K102, R0_2, m1]
      · simp (disch := omega) [f_Mo_end, f_Mo_isIn, h0, h2, ↓ob_eq, ob_some, ldI, ldR, ldO, stI, stZ, stR, isO, wrA_n, rdA_n, wrA_l, rdA_l, gK_sI, gR_sI, gX_sI, gN_sI, gK_cp, gR_cp, gX_cp, gN_cp, rtZ_0, rtZ_1, if_true, reduceIte, and_self, true_and, and_true, K131, gI_q, gI_n1, gI_n2, m2]
      · have n_rdr : C_rdr (sI (sI (sI h (b + 102) 1 (nI k)) (b + 131) 0 0) (b + 131) 14 (nI k)) b := by
          refine ⟨⟨k, by omega, ?_, ?_⟩, ?_, ?_, ?_⟩
          · simp (disch := omega) only [gI_q, gI_n1, gI_n2]
          · simp (disch := omega) only [gI_q, gI_n1, gI_n2]
          · simp (disch := omega) only [gI_q, gI_n1, gI_n2]; exact q1
          · simp (disch := omega) only [gI_q, gI_n1, gI_n2]; exact q2
          · intro j hj; simp (disch := omega) only [gI_q, gI_n1, gI_n2]; exact q3 j hj
        exact ⟨s.sn t, cd.cg t, c_stat.cg t (by decide), c_realm.cg t (by decide), c_book.cg t (by decide), c_law.cg t (by decide), c_kin.cg t (by decide), c_shi.cg t (by decide), c_roa.cg t (by decide), c_ord.cg t (by decide), c_han.cg t (by decide), c_wei.cg t (by decide), c_bag.cg t (by decide), c_pri.cg t (by decide), c_cnt.cg t (by decide), c_led.cg t (by decide), c_yea.cg t (by decide), c_log.cg t (by decide), n_rdr, c_msc.cg t (by decide), c_img.cg t (by decide)⟩
    · have h2 : nI n < v := fa_of_nle h1
      exact both_ref I0 (r := 0) (by simp [f_Tc_end, h0, h1, ↓ob_eq, ob_some, ldI, ldR, ldO, stI, stZ, stR, isO, wrA_n, rdA_n, wrA_l, rdA_l, gK_sI, gR_sI, gX_sI, gN_sI, gK_cp, gR_cp, gX_cp, gN_cp, rtZ_0, rtZ_1, if_true, reduceIte, and_self, true_and, and_true, K0, K102, R0_2, m1]) (by simp (disch := omega) [f_Mo_end, f_Mo_isIn, h0, h2, ↓ob_eq, ob_some, ldI, ldR, ldO, stI, stZ, stR, isO, wrA_n, rdA_n, wrA_l, rdA_l, gK_sI, gR_sI, gX_sI, gN_sI, gK_cp, gR_cp, gX_cp, gN_cp, rtZ_0, rtZ_1, if_true, reduceIte, and_self, true_and, and_true, K131, gI_q, gI_n1, gI_n2, m2])
theorem op_who (b : Nat) : B_who (Inv b) b (b + 131) := by
  intro h I v w
  have I0 := I
  obtain ⟨s, cd, c_stat, c_realm, c_book, c_law, c_kin, c_shi, c_roa, c_ord, c_han, c_wei, c_bag, c_pri, c_cnt, c_led, c_yea, c_log, c_rdr, c_msc, c_img⟩ := I
  have K0 : gK h b = (0, 8) := s.K 0 (by decide) rfl
  have K1 : gK h (b + 1) = (0, 1) := s.K 1 (by decide) rfl
  have K2 : gK h (b + 2) = (0, 5) := s.K 2 (by decide) rfl
  have K8 : gK h (b + 8) = (1, 6) := s.K 8 (by decide) rfl
  have K9 : gK h (b + 9) = (1, 6) := s.K 9 (by decide) rfl
  have K10 : gK h (b + 10) = (1, 6) := s.K 10 (by decide) rfl
  have K11 : gK h (b + 11) = (1, 6) := s.K 11 (by decide) rfl
  have K131 : gK h (b + 131) = (0, 9) := s.K 131 (by decide) rfl
  have K132 : gK h (b + 132) = (1, 79) := s.K 132 (by decide) rfl
  have K137 : gK h (b + 137) = (1, 6) := s.K 137 (by decide) rfl
  have K138 : gK h (b + 138) = (1, 6) := s.K 138 (by decide) rfl
  have R0_0 : gR h b 0 = some (b + 1) := s.R 0 0 rfl
  have R1_0 : gR h (b + 1) 0 = some (b + 2) := s.R 1 0 rfl
  have R2_10 : gR h (b + 2) 10 = some (b + 8) := s.R 2 10 rfl
  have R2_11 : gR h (b + 2) 11 = some (b + 9) := s.R 2 11 rfl
  have R2_12 : gR h (b + 2) 12 = some (b + 10) := s.R 2 12 rfl
  have R2_13 : gR h (b + 2) 13 = some (b + 11) := s.R 2 13 rfl
  have R131_1 : gR h (b + 131) 1 = some (b + 132) := s.R 131 1 rfl
  have R131_10 : gR h (b + 131) 10 = some (b + 137) := s.R 131 10 rfl
  have R131_11 : gR h (b + 131) 11 = some (b + 138) := s.R 131 11 rfl
  have cr := c_realm
  obtain ⟨⟨hnt, hno⟩, ro, F1, F9, F0, F15, F16, F17, F18, F19, F14, F7, F8, RT, RO⟩ := cr
  have RT : ∀ t, t < ntOf h b → gI h (b + 3) t = gI h (b + 135) t ∧ gI h (b + 4) t = gI h (b + 136) t ∧ gI h (b + 5) t = gI h (b + 132) (7 + t) ∧ gI h (b + 6) t = gI h (b + 132) (19 + t) ∧ gI h (b + 7) t = gI h (b + 132) (31 + t) - 1 := RT
  have RO : ∀ o, o < noOf h b → gI h (b + 8) o = gI h (b + 132) (67 + o) ∧ gI h (b + 9) o = gI h (b + 137) o ∧ gI h (b + 10) o = gI h (b + 138) o ∧ gI h (b + 11) o = gI h (b + 132) (73 + o) := RO
  have hN6 : gI h (b + 131) 6 = nI (ntOf h b) := c_stat.1
  have hN7 : gI h (b + 131) 7 = nI (noOf h b) := c_stat.2.1
  have e7 : gI (sI h (b + 131) 0 0) (b + 131) 7 = nI (noOf h b) := by simp (disch := omega) only [gI_q, gI_n1, gI_n2]; exact hN7
  rcases off_cases v (noOf h b) hno with ⟨k, hk, rfl, u1, u2⟩ | ⟨u1, u2⟩
  · have u1 := u1 (b + 2) h K2 F9
    have u2 := u2 (b + 131) (sI h (b + 131) 0 0) K131 e7
    obtain ⟨r1, r2, r3, r4⟩ := RO k hk
    have hk6 : k < 6 := by omega
    have hk1 : 67 + k < 79 := by omega
    have hk2 : 73 + k < 79 := by omega
    by_cases h0 : w = 0
    · exact both_ref I0 (r := gI h (b + 8) k) (by simp (disch := omega) [f_Tc_who, u1, h0, ↓ob_eq, ob_some, ldI, ldR, ldO, stI, stZ, stR, isO, wrA_n, rdA_n, wrA_l, rdA_l, gK_sI, gR_sI, gX_sI, gN_sI, gK_cp, gR_cp, gX_cp, gN_cp, rtZ_0, rtZ_1, if_true, reduceIte, and_self, true_and, and_true, K0, K1, K2, K8, R0_0, R1_0, R2_10, hk6]) (by simp (disch := omega) [f_Mo_who, u2, h0, ↓ob_eq, ob_some, ldI, ldR, ldO, stI, stZ, stR, isO, wrA_n, rdA_n, wrA_l, rdA_l, gK_sI, gR_sI, gX_sI, gN_sI, gK_cp, gR_cp, gX_cp, gN_cp, rtZ_0, rtZ_1, if_true, reduceIte, and_self, true_and, and_true, K131, K132, R131_1, gI_q, gI_n1, gI_n2, L_addn, hk1, r1])
    · by_cases h1 : w = 1
      · exact both_ref I0 (r := gI h (b + 9) k) (by simp (disch := omega) [f_Tc_who, u1, h1, ↓ob_eq, ob_some, ldI, ldR, ldO, stI, stZ, stR, isO, wrA_n, rdA_n, wrA_l, rdA_l, gK_sI, gR_sI, gX_sI, gN_sI, gK_cp, gR_cp, gX_cp, gN_cp, rtZ_0, rtZ_1, if_true, reduceIte, and_self, true_and, and_true, K0, K1, K2, K9, R0_0, R1_0, R2_11, hk6]) (by simp (disch := omega) [f_Mo_who, u2, h1, ↓ob_eq, ob_some, ldI, ldR, ldO, stI, stZ, stR, isO, wrA_n, rdA_n, wrA_l, rdA_l, gK_sI, gR_sI, gX_sI, gN_sI, gK_cp, gR_cp, gX_cp, gN_cp, rtZ_0, rtZ_1, if_true, reduceIte, and_self, true_and, and_true, K131, K137, R131_10, gI_q, gI_n1, gI_n2, hk6, r2])
      · by_cases h2 : w = 2
        · exact both_ref I0 (r := gI h (b + 10) k) (by simp (disch := omega) [f_Tc_who, u1, h2, ↓ob_eq, ob_some, ldI, ldR, ldO, stI, stZ, stR, isO, wrA_n, rdA_n, wrA_l, rdA_l, gK_sI, gR_sI, gX_sI, gN_sI, gK_cp, gR_cp, gX_cp, gN_cp, rtZ_0, rtZ_1, if_true, reduceIte, and_self, true_and, and_true, K0, K1, K2, K10, R0_0, R1_0, R2_12, hk6]) (by simp (disch := omega) [f_Mo_who, u2, h2, ↓ob_eq, ob_some, ldI, ldR, ldO, stI, stZ, stR, isO, wrA_n, rdA_n, wrA_l, rdA_l, gK_sI, gR_sI, gX_sI, gN_sI, gK_cp, gR_cp, gX_cp, gN_cp, rtZ_0, rtZ_1, if_true, reduceIte, and_self, true_and, and_true, K131, K138, R131_11, gI_q, gI_n1, gI_n2, hk6, r3])
        · by_cases h3 : w = 3
          · exact both_ref I0 (r := gI h (b + 11) k) (by simp (disch := omega) [f_Tc_who, u1, h3, ↓ob_eq, ob_some, ldI, ldR, ldO, stI, stZ, stR, isO, wrA_n, rdA_n, wrA_l, rdA_l, gK_sI, gR_sI, gX_sI, gN_sI, gK_cp, gR_cp, gX_cp, gN_cp, rtZ_0, rtZ_1, if_true, reduceIte, and_self, true_and, and_true, K0, K1, K2, K11, R0_0, R1_0, R2_13, hk6]) (by simp (disch := omega) [f_Mo_who, u2, h3, ↓ob_eq, ob_some, ldI, ldR, ldO, stI, stZ, stR, isO, wrA_n, rdA_n, wrA_l, rdA_l, gK_sI, gR_sI, gX_sI, gN_sI, gK_cp, gR_cp, gX_cp, gN_cp, rtZ_0, rtZ_1, if_true, reduceIte, and_self, true_and, and_true, K131, K132, R131_1, gI_q, gI_n1, gI_n2, L_addn, hk2, r4])
          · exact both_ref I0 (r := -1) (by simp (disch := omega) [f_Tc_who, u1, h0, h1, h2, h3, ↓ob_eq, ob_some, ldI, ldR, ldO, stI, stZ, stR, isO, wrA_n, rdA_n, wrA_l, rdA_l, gK_sI, gR_sI, gX_sI, gN_sI, gK_cp, gR_cp, gX_cp, gN_cp, rtZ_0, rtZ_1, if_true, reduceIte, and_self, true_and, and_true, K0, K1, K2, R0_0, R1_0]) (by simp (disch := omega) [f_Mo_who, u2, h0, h1, h2, h3, ↓ob_eq, ob_some, ldI, ldR, ldO, stI, stZ, stR, isO, wrA_n, rdA_n, wrA_l, rdA_l, gK_sI, gR_sI, gX_sI, gN_sI, gK_cp, gR_cp, gX_cp, gN_cp, rtZ_0, rtZ_1, if_true, reduceIte, and_self, true_and, and_true, K131])
  · have u1 := u1 (b + 2) h K2 F9
    have u2 := u2 (b + 131) (sI h (b + 131) 0 0) K131 e7
    exact both_ref I0 (r := -1) (by simp [f_Tc_who, u1, ↓ob_eq, ob_some, ldI, ldR, ldO, stI, stZ, stR, isO, wrA_n, rdA_n, wrA_l, rdA_l, gK_sI, gR_sI, gX_sI, gN_sI, gK_cp, gR_cp, gX_cp, gN_cp, rtZ_0, rtZ_1, if_true, reduceIte, and_self, true_and, and_true, K0, K1, K2, R0_0, R1_0]) (by simp [f_Mo_who, u2, ↓ob_eq, ob_some, ldI, ldR, ldO, stI, stZ, stR, isO, wrA_n, rdA_n, wrA_l, rdA_l, gK_sI, gR_sI, gX_sI, gN_sI, gK_cp, gR_cp, gX_cp, gN_cp, rtZ_0, rtZ_1, if_true, reduceIte, and_self, true_and, and_true, K131])
theorem op_book (b : Nat) : B_book (Inv b) b (b + 131) := by
  intro h I v w
  have I0 := I
  obtain ⟨s, cd, c_stat, c_realm, c_book, c_law, c_kin, c_shi, c_roa, c_ord, c_han, c_wei, c_bag, c_pri, c_cnt, c_led, c_yea, c_log, c_rdr, c_msc, c_img⟩ := I
  have K0 : gK h b = (0, 8) := s.K 0 (by decide) rfl
  have K1 : gK h (b + 1) = (0, 1) := s.K 1 (by decide) rfl
  have K2 : gK h (b + 2) = (0, 5) := s.K 2 (by decide) rfl
  have K12 : gK h (b + 12) = (1, 600) := s.K 12 (by decide) rfl
  have K131 : gK h (b + 131) = (0, 9) := s.K 131 (by decide) rfl
  have K132 : gK h (b + 132) = (1, 79) := s.K 132 (by decide) rfl
  have K139 : gK h (b + 139) = (1, 600) := s.K 139 (by decide) rfl
  have R0_0 : gR h b 0 = some (b + 1) := s.R 0 0 rfl
  have R1_0 : gR h (b + 1) 0 = some (b + 2) := s.R 1 0 rfl
  have R1_1 : gR h (b + 1) 1 = some (b + 12) := s.R 1 1 rfl
  have R131_1 : gR h (b + 131) 1 = some (b + 132) := s.R 131 1 rfl
  have R131_12 : gR h (b + 131) 12 = some (b + 139) := s.R 131 12 rfl
  have cr := c_realm
  obtain ⟨⟨hnt, hno⟩, ro, F1, F9, F0, F15, F16, F17, F18, F19, F14, F7, F8, RT, RO⟩ := cr
  have RT : ∀ t, t < ntOf h b → gI h (b + 3) t = gI h (b + 135) t ∧ gI h (b + 4) t = gI h (b + 136) t ∧ gI h (b + 5) t = gI h (b + 132) (7 + t) ∧ gI h (b + 6) t = gI h (b + 132) (19 + t) ∧ gI h (b + 7) t = gI h (b + 132) (31 + t) - 1 := RT
  have RO : ∀ o, o < noOf h b → gI h (b + 8) o = gI h (b + 132) (67 + o) ∧ gI h (b + 9) o = gI h (b + 137) o ∧ gI h (b + 10) o = gI h (b + 138) o ∧ gI h (b + 11) o = gI h (b + 132) (73 + o) := RO
  have hN6 : gI h (b + 131) 6 = nI (ntOf h b) := c_stat.1
  have hN7 : gI h (b + 131) 7 = nI (noOf h b) := c_stat.2.1
  obtain ⟨n, hn, hg2⟩ := ro.2.1
  have F19 : gI h (b + 2) 19 = nI n := F19.trans hg2
  rcases ix_cases v n (by omega) with ⟨k, hk, rfl, h1, h2⟩ | hv
  · rcases in_cases w 3 3 rfl (by omega) with ⟨k2, l2, rfl, w2, i2⟩ | ⟨w2, i2⟩
    · have e1 : k * 4 + k2 < 600 := by omega
      have e2 : 4 * k + k2 < 600 := by omega
      have e3 : ¬ nI (k * 4 + k2) < 0 := nI_pos (by omega)
      have e4 : ¬ nI 599 < nI (k * 4 + k2) := by rw [nI_ltI (by omega) (by omega)]; omega
      have e5 : ¬ nI (n - 1) < nI k := by rw [nI_ltI (by omega) (by omega)]; omega
      have e6 : nI n - 1 = nI (n - 1) := pk_sub (b := 1) (by omega)
      have e7 : f_Tc_within (nI (k * 4 + k2)) 599 h = some (1, h) := by
        unfold f_Tc_within
        rw [if_neg e3, if_neg (show ¬ (599 : Int32) < nI (k * 4 + k2) from e4), rtZ_1]
      have e8 : nI 600 - 1 = 599 := by decide
      have eb : gI h (b + 12) (4 * k + k2) = gI h (b + 139) (4 * k + k2) := c_book _ e2
      refine both_ref I0 (r := gI h (b + 12) (4 * k + k2)) ?_ ?_
      · simp (disch := omega) [f_Tc_book, f_Land_bookCell, h1, h2, w2, ↓ob_eq, ob_some, ldI, ldR, ldO, stI, stZ, stR, isO, wrA_n, rdA_n, wrA_l, rdA_l, gK_sI, gR_sI, gX_sI, gN_sI, gK_cp, gR_cp, gX_cp, gN_cp, rtZ_0, rtZ_1, if_true, reduceIte, and_self, true_and, and_true, lnA, K0, K1, K2, K12, R0_0, R1_0, R1_1, F19, nI_mulL, nI_add, e7, e8, e1, Nat.mul_comm]
      · have e9 : f_Mo_isIn (b + 131) (nI k) 0 (nI (n - 1)) (sI h (b + 131) 0 0) = some (1, sI h (b + 131) 0 0) := by
          unfold f_Mo_isIn
          rw [if_neg h1, if_neg e5, rtZ_1]
        simp (disch := omega) [f_Mo_book, e9, h1, i2, ↓ob_eq, ob_some, ldI, ldR, ldO, stI, stZ, stR, isO, wrA_n, rdA_n, wrA_l, rdA_l, gK_sI, gR_sI, gX_sI, gN_sI, gK_cp, gR_cp, gX_cp, gN_cp, rtZ_0, rtZ_1, if_true, reduceIte, and_self, true_and, and_true, K131, K132, K139, R131_1, R131_12, gI_q, gI_n1, gI_n2, hg2, e6, e5, L_muln, nI_add, e2, eb]
    · have e5 : ¬ nI (n - 1) < nI k := by rw [nI_ltI (by omega) (by omega)]; omega
      have e6 : nI n - 1 = nI (n - 1) := pk_sub (b := 1) (by omega)
      have e9 : f_Mo_isIn (b + 131) (nI k) 0 (nI (n - 1)) (sI h (b + 131) 0 0) = some (1, sI h (b + 131) 0 0) := by
        unfold f_Mo_isIn
        rw [if_neg h1, if_neg e5, rtZ_1]
      exact both_ref I0 (r := -1) (by simp (disch := omega) [f_Tc_book, h1, h2, w2, ↓ob_eq, ob_some, ldI, ldR, ldO, stI, stZ, stR, isO, wrA_n, rdA_n, wrA_l, rdA_l, gK_sI, gR_sI, gX_sI, gN_sI, gK_cp, gR_cp, gX_cp, gN_cp, rtZ_0, rtZ_1, if_true, reduceIte, and_self, true_and, and_true, K0, K1, K2, R0_0, R1_0, F19]) (by simp (disch := omega) [f_Mo_book, i2, e9, ↓ob_eq, ob_some, ldI, ldR, ldO, stI, stZ, stR, isO, wrA_n, rdA_n, wrA_l, rdA_l, gK_sI, gR_sI, gX_sI, gN_sI, gK_cp, gR_cp, gX_cp, gN_cp, rtZ_0, rtZ_1, if_true, reduceIte, and_self, true_and, and_true, K131, K132, R131_1, gI_q, gI_n1, gI_n2, hg2, e6])
  · have e9 : f_Mo_isIn (b + 131) v 0 (nI n - 1) (sI h (b + 131) 0 0) = some (0, sI h (b + 131) 0 0) := by
      unfold f_Mo_isIn
      rcases hv with hv | ⟨hv, hv2⟩
      · rw [if_pos hv, rtZ_0]
      · have : nI n - 1 < v := by
          rw [fa_lt]
          rw [fa_le] at hv2
          have e : (nI n - 1).toInt = (n : Int) - 1 := pk_sub_toInt (b := 1) (by omega) (by omega)
          have e2 : (nI n).toInt = (n : Int) := nI_toInt (by omega)
          omega
        rw [if_neg hv, if_pos this, rtZ_0]
    refine both_ref I0 (r := -1) ?_ (by simp (disch := omega) [f_Mo_book, e9, ↓ob_eq, ob_some, ldI, ldR, ldO, stI, stZ, stR, isO, wrA_n, rdA_n, wrA_l, rdA_l, gK_sI, gR_sI, gX_sI, gN_sI, gK_cp, gR_cp, gX_cp, gN_cp, rtZ_0, rtZ_1, if_true, reduceIte, and_self, true_and, and_true, K131, K132, R131_1, gI_q, gI_n1, gI_n2, hg2])
    rcases hv with hv | ⟨hv, hv2⟩
    · simp [f_Tc_book, hv]
    · simp [f_Tc_book, hv, hv2, ↓ob_eq, ob_some, ldI, ldR, ldO, stI, stZ, stR, isO, wrA_n, rdA_n, wrA_l, rdA_l, gK_sI, gR_sI, gX_sI, gN_sI, gK_cp, gR_cp, gX_cp, gN_cp, rtZ_0, rtZ_1, if_true, reduceIte, and_self, true_and, and_true, K0, K1, K2, R0_0, R1_0, F19]
theorem op_ledger (b : Nat) : B_ledger (Inv b) b (b + 131) := by
  intro h I v w
  have I0 := I
  obtain ⟨s, cd, c_stat, c_realm, c_book, c_law, c_kin, c_shi, c_roa, c_ord, c_han, c_wei, c_bag, c_pri, c_cnt, c_led, c_yea, c_log, c_rdr, c_msc, c_img⟩ := I
  have K0 : gK h b = (0, 8) := s.K 0 (by decide) rfl
  have K1 : gK h (b + 1) = (0, 1) := s.K 1 (by decide) rfl
  have K25 : gK h (b + 25) = (0, 7) := s.K 25 (by decide) rfl
  have K39 : gK h (b + 39) = (1, 24) := s.K 39 (by decide) rfl
  have K131 : gK h (b + 131) = (0, 9) := s.K 131 (by decide) rfl
  have K172 : gK h (b + 172) = (1, 24) := s.K 172 (by decide) rfl
  have R0_0 : gR h b 0 = some (b + 1) := s.R 0 0 rfl
  have R1_6 : gR h (b + 1) 6 = some (b + 25) := s.R 1 6 rfl
  have R25_7 : gR h (b + 25) 7 = some (b + 39) := s.R 25 7 rfl
  have R131_67 : gR h (b + 131) 67 = some (b + 172) := s.R 131 67 rfl
  rcases in_cases v 23 23 rfl (by omega) with ⟨k, l1, rfl, w1, i1⟩ | ⟨w1, i1⟩
  · have hk : k < 24 := by omega
    have e16 : (16 : Int32) ≤ nI k ↔ 16 ≤ k := L_len (n := 16) (by omega) (by decide)
    have key : ∀ (m : Int32) (q : Nat), m = nI q → q < 2147483648 → q ≤ (if k < 16 then 99 else 999) → (∀ h, f_Tc_ledger b (nI k) w h = f_Tc_ledger_24 b (nI k) w m w h) → (∀ h, f_Mo_ledger (b + 131) (nI k) w h = (stI h 9 (b + 131) 0 0).bind fun h1 => (isO h1 9 (b + 131)).bind fun _ => f_Mo_ledger_33 (b + 131) (nI k) w m 0 w (b + 131) h1) → Both (Inv b) h (fun h => f_Tc_ledger b (nI k) w h) (fun h => f_Mo_ledger (b + 131) (nI k) w h) := by
      intro m q hm hq hqk g1 g2
      rcases in_cases w m q hm hq with ⟨k2, l2, rfl, w2, i2⟩ | ⟨w2, i2⟩
      · have t1 : Sn [(39, 0, 24)] b h (sI h (b + 39) k (nI k2)) := Sn.rf.put 39 k _ (inL_in (lo := 0) (hi := 24) (by decide) (by omega) hk)
        have t2 : Sn [(131, 0, 1), (172, 0, 24)] b (sI h (b + 39) k (nI k2)) (sI (sI (sI h (b + 39) k (nI k2)) (b + 131) 0 0) (b + 172) k (nI k2)) := (Sn.rf.put 131 0 0 (by decide)).put 172 k _ (inL_in (lo := 0) (hi := 24) (by decide) (by omega) hk)
        have t := t1.app t2
        refine both_mk (r := 1) ?_ t1 ?_ t2 ?_
        · simp (disch := omega) [g1, f_Tc_ledger_24, w2, ↓ob_eq, ob_some, ldI, ldR, ldO, stI, stZ, stR, isO, wrA_n, rdA_n, wrA_l, rdA_l, gK_sI, gR_sI, gX_sI, gN_sI, gK_cp, gR_cp, gX_cp, gN_cp, rtZ_0, rtZ_1, if_true, reduceIte, and_self, true_and, and_true, K0, K1, K25, K39, R0_0, R1_6, R25_7, hk]
        · simp (disch := omega) [g2, f_Mo_ledger_33, i2, ↓ob_eq, ob_some, ldI, ldR, ldO, stI, stZ, stR, isO, wrA_n, rdA_n, wrA_l, rdA_l, gK_sI, gR_sI, gX_sI, gN_sI, gK_cp, gR_cp, gX_cp, gN_cp, rtZ_0, rtZ_1, if_true, reduceIte, and_self, true_and, and_true, K131, K172, R131_67, hk]
        · have n_led : C_led (sI (sI (sI h (b + 39) k (nI k2)) (b + 131) 0 0) (b + 172) k (nI k2)) b := by
            refine FigR.put (k := k) (x := k2) c_led (Nat.le_trans l2 hqk) (fun j => ?_) (fun j => ?_)
            · simp [gI_sI]
            · simp [gI_sI]
          exact ⟨s.sn t, cd.cg t, c_stat.cg t (by decide), c_realm.cg t (by decide), c_book.cg t (by decide), c_law.cg t (by decide), c_kin.cg t (by decide), c_shi.cg t (by decide), c_roa.cg t (by decide), c_ord.cg t (by decide), c_han.cg t (by decide), c_wei.cg t (by decide), c_bag.cg t (by decide), c_pri.cg t (by decide), c_cnt.cg t (by decide), n_led, c_yea.cg t (by decide), c_log.cg t (by decide), c_rdr.cg t (by decide), c_msc.cg t (by decide), c_img.cg t (by decide)⟩
      · exact both_ref I0 (r := 0) (by simp (disch := omega) [g1, f_Tc_ledger_24, w2, ↓ob_eq, ob_some, ldI, ldR, ldO, stI, stZ, stR, isO, wrA_n, rdA_n, wrA_l, rdA_l, gK_sI, gR_sI, gX_sI, gN_sI, gK_cp, gR_cp, gX_cp, gN_cp, rtZ_0, rtZ_1, if_true, reduceIte, and_self, true_and, and_true]) (by simp (disch := omega) [g2, f_Mo_ledger_33, i2, ↓ob_eq, ob_some, ldI, ldR, ldO, stI, stZ, stR, isO, wrA_n, rdA_n, wrA_l, rdA_l, gK_sI, gR_sI, gX_sI, gN_sI, gK_cp, gR_cp, gX_cp, gN_cp, rtZ_0, rtZ_1, if_true, reduceIte, and_self, true_and, and_true, K131])
    by_cases h16 : 16 ≤ k
    · refine key 999 999 rfl (by omega) (by rw [if_neg (by omega)]; omega) (fun h => ?_) (fun h => ?_)
      · simp [f_Tc_ledger, w1, e16, h16, ↓ob_eq, ob_some, ldI, ldR, ldO, stI, stZ, stR, isO, wrA_n, rdA_n, wrA_l, rdA_l, gK_sI, gR_sI, gX_sI, gN_sI, gK_cp, gR_cp, gX_cp, gN_cp, rtZ_0, rtZ_1, if_true, reduceIte, and_self, true_and, and_true]
      · simp [f_Mo_ledger, i1, e16, h16, bind_some', ldI, ldR, ldO, stI, stZ, stR, isO, wrA_n, rdA_n, wrA_l, rdA_l, gK_sI, gR_sI, gX_sI, gN_sI, gK_cp, gR_cp, gX_cp, gN_cp, rtZ_0, rtZ_1, if_true, reduceIte, and_self, true_and, and_true]
    · refine key 99 99 rfl (by omega) (by rw [if_pos (by omega)]; omega) (fun h => ?_) (fun h => ?_)
      · simp [f_Tc_ledger, w1, e16, h16, ↓ob_eq, ob_some, ldI, ldR, ldO, stI, stZ, stR, isO, wrA_n, rdA_n, wrA_l, rdA_l, gK_sI, gR_sI, gX_sI, gN_sI, gK_cp, gR_cp, gX_cp, gN_cp, rtZ_0, rtZ_1, if_true, reduceIte, and_self, true_and, and_true]
      · simp [f_Mo_ledger, i1, e16, h16, bind_some', ldI, ldR, ldO, stI, stZ, stR, isO, wrA_n, rdA_n, wrA_l, rdA_l, gK_sI, gR_sI, gX_sI, gN_sI, gK_cp, gR_cp, gX_cp, gN_cp, rtZ_0, rtZ_1, if_true, reduceIte, and_self, true_and, and_true]
  · exact both_ref I0 (r := 0) (by simp (disch := omega) [f_Tc_ledger, w1, ↓ob_eq, ob_some, ldI, ldR, ldO, stI, stZ, stR, isO, wrA_n, rdA_n, wrA_l, rdA_l, gK_sI, gR_sI, gX_sI, gN_sI, gK_cp, gR_cp, gX_cp, gN_cp, rtZ_0, rtZ_1, if_true, reduceIte, and_self, true_and, and_true]) (by simp (disch := omega) [f_Mo_ledger, i1, ↓ob_eq, ob_some, ldI, ldR, ldO, stI, stZ, stR, isO, wrA_n, rdA_n, wrA_l, rdA_l, gK_sI, gR_sI, gX_sI, gN_sI, gK_cp, gR_cp, gX_cp, gN_cp, rtZ_0, rtZ_1, if_true, reduceIte, and_self, true_and, and_true, K131])
theorem op_years (b : Nat) : B_years (Inv b) b (b + 131) := by
  intro h I v w
  have I0 := I
  obtain ⟨s, cd, c_stat, c_realm, c_book, c_law, c_kin, c_shi, c_roa, c_ord, c_han, c_wei, c_bag, c_pri, c_cnt, c_led, c_yea, c_log, c_rdr, c_msc, c_img⟩ := I
  have K0 : gK h b = (0, 8) := s.K 0 (by decide) rfl
  have K1 : gK h (b + 1) = (0, 1) := s.K 1 (by decide) rfl
  have K25 : gK h (b + 25) = (0, 7) := s.K 25 (by decide) rfl
  have K131 : gK h (b + 131) = (0, 9) := s.K 131 (by decide) rfl
  have R0_0 : gR h b 0 = some (b + 1) := s.R 0 0 rfl
  have R1_6 : gR h (b + 1) 6 = some (b + 25) := s.R 1 6 rfl
  rcases in1_cases v 30 30 rfl (by omega) with ⟨k, l0, l1, rfl, u1, u2, i1⟩ | ⟨u, i1⟩
  · have u3 : ¬ (30 : Int32) < nI k := fun q => (fa_of_lt q).2.1 u2
    have hp : 1 ≤ 2 ^ k := Nat.one_le_two_pow
    have hp2 : 2 ^ k ≤ 2 ^ 30 := Nat.pow_le_pow_right (by decide) l1
    have hsh : jshl 1 (nI k) - 1 = nI (2 ^ k - 1) := by rw [jshl1 k (by omega)]; exact pk_sub (b := 1) hp
    rcases in_cases w (nI (2 ^ k - 1)) (2 ^ k - 1) rfl (by omega) with ⟨k2, l2, rfl, w2, i2⟩ | ⟨w2, i2⟩
    · have t1 : Sn [(25, 8, 10)] b h (sI (sI h (b + 25) 8 (nI k)) (b + 25) 9 (nI k2)) := (Sn.rf.put 25 8 _ (by decide)).put 25 9 _ (by decide)
      have t2 : Sn [(131, 0, 1), (131, 68, 70)] b (sI (sI h (b + 25) 8 (nI k)) (b + 25) 9 (nI k2)) (sI (sI (sI (sI (sI h (b + 25) 8 (nI k)) (b + 25) 9 (nI k2)) (b + 131) 0 0) (b + 131) 68 (nI k)) (b + 131) 69 (nI k2)) := ((Sn.rf.put 131 0 0 (by decide)).put 131 68 _ (by decide)).put 131 69 _ (by decide)
      have t := t1.app t2
      refine both_mk (r := 1) ?_ t1 ?_ t2 ?_
      · simp (disch := omega) [f_Tc_years, u1, u3, hsh, w2, ↓ob_eq, ob_some, ldI, ldR, ldO, stI, stZ, stR, isO, wrA_n, rdA_n, wrA_l, rdA_l, gK_sI, gR_sI, gX_sI, gN_sI, gK_cp, gR_cp, gX_cp, gN_cp, rtZ_0, rtZ_1, if_true, reduceIte, and_self, true_and, and_true, K0, K1, K25, R0_0, R1_6]
      · simp (disch := omega) [f_Mo_years, i1, hsh, i2, ↓ob_eq, ob_some, ldI, ldR, ldO, stI, stZ, stR, isO, wrA_n, rdA_n, wrA_l, rdA_l, gK_sI, gR_sI, gX_sI, gN_sI, gK_cp, gR_cp, gX_cp, gN_cp, rtZ_0, rtZ_1, if_true, reduceIte, and_self, true_and, and_true, K131]
      · have n_yea : C_yea (sI (sI (sI (sI (sI h (b + 25) 8 (nI k)) (b + 25) 9 (nI k2)) (b + 131) 0 0) (b + 131) 68 (nI k)) (b + 131) 69 (nI k2)) b := by
          refine ⟨k, k2, l1, by omega, ?_, ?_, ?_, ?_⟩ <;> simp (disch := omega) only [gI_q, gI_n1, gI_n2]
        exact ⟨s.sn t, cd.cg t, c_stat.cg t (by decide), c_realm.cg t (by decide), c_book.cg t (by decide), c_law.cg t (by decide), c_kin.cg t (by decide), c_shi.cg t (by decide), c_roa.cg t (by decide), c_ord.cg t (by decide), c_han.cg t (by decide), c_wei.cg t (by decide), c_bag.cg t (by decide), c_pri.cg t (by decide), c_cnt.cg t (by decide), c_led.cg t (by decide), n_yea, c_log.cg t (by decide), c_rdr.cg t (by decide), c_msc.cg t (by decide), c_img.cg t (by decide)⟩
    · exact both_ref I0 (r := 0) (by simp (disch := omega) [f_Tc_years, u1, u3, hsh, w2, ↓ob_eq, ob_some, ldI, ldR, ldO, stI, stZ, stR, isO, wrA_n, rdA_n, wrA_l, rdA_l, gK_sI, gR_sI, gX_sI, gN_sI, gK_cp, gR_cp, gX_cp, gN_cp, rtZ_0, rtZ_1, if_true, reduceIte, and_self, true_and, and_true]) (by simp (disch := omega) [f_Mo_years, i1, hsh, i2, ↓ob_eq, ob_some, ldI, ldR, ldO, stI, stZ, stR, isO, wrA_n, rdA_n, wrA_l, rdA_l, gK_sI, gR_sI, gX_sI, gN_sI, gK_cp, gR_cp, gX_cp, gN_cp, rtZ_0, rtZ_1, if_true, reduceIte, and_self, true_and, and_true, K131])
  · refine both_ref I0 (r := 0) ?_ (by simp (disch := omega) [f_Mo_years, i1, ↓ob_eq, ob_some, ldI, ldR, ldO, stI, stZ, stR, isO, wrA_n, rdA_n, wrA_l, rdA_l, gK_sI, gR_sI, gX_sI, gN_sI, gK_cp, gR_cp, gX_cp, gN_cp, rtZ_0, rtZ_1, if_true, reduceIte, and_self, true_and, and_true, K131])
    rcases u with u | ⟨u, u2⟩
    · simp [f_Tc_years, u, ↓ob_eq, ob_some, ldI, ldR, ldO, stI, stZ, stR, isO, wrA_n, rdA_n, wrA_l, rdA_l, gK_sI, gR_sI, gX_sI, gN_sI, gK_cp, gR_cp, gX_cp, gN_cp, rtZ_0, rtZ_1, if_true, reduceIte, and_self, true_and, and_true]
    · simp [f_Tc_years, u, fa_of_nle u2, ↓ob_eq, ob_some, ldI, ldR, ldO, stI, stZ, stR, isO, wrA_n, rdA_n, wrA_l, rdA_l, gK_sI, gR_sI, gX_sI, gN_sI, gK_cp, gR_cp, gX_cp, gN_cp, rtZ_0, rtZ_1, if_true, reduceIte, and_self, true_and, and_true]
