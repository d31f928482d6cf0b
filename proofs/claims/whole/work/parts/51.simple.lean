/-! ===== the plain calls ===== -/
theorem op_count (b : Nat) : B_count (Inv b) b (b + 131) := by
  intro h I v1 v2 v3
  have I0 := I
  obtain ⟨s, cd, c_stat, c_realm, c_book, c_law, c_kin, c_shi, c_roa, c_ord, c_han, c_wei, c_bag, c_pri, c_cnt, c_led, c_yea, c_log, c_rdr, c_msc, c_img⟩ := I
  have K0 : gK h b = (0, 8) := s.K 0 (by decide) rfl
  have K1 : gK h (b + 1) = (0, 1) := s.K 1 (by decide) rfl
  have K25 : gK h (b + 25) = (0, 7) := s.K 25 (by decide) rfl
  have K38 : gK h (b + 38) = (1, 24) := s.K 38 (by decide) rfl
  have K131 : gK h (b + 131) = (0, 9) := s.K 131 (by decide) rfl
  have K168 : gK h (b + 168) = (1, 24) := s.K 168 (by decide) rfl
  have R0_0 : gR h b 0 = some (b + 1) := s.R 0 0 rfl
  have R1_6 : gR h (b + 1) 6 = some (b + 25) := s.R 1 6 rfl
  have R25_6 : gR h (b + 25) 6 = some (b + 38) := s.R 25 6 rfl
  have R131_62 : gR h (b + 131) 62 = some (b + 168) := s.R 131 62 rfl
  rcases in_cases v1 5 5 rfl (by omega) with ⟨k1, l1, rfl, w1, i1⟩ | ⟨w1, i1⟩
  · rcases in_cases v2 3 3 rfl (by omega) with ⟨k2, l2, rfl, w2, i2⟩ | ⟨w2, i2⟩
    · rcases in_cases v3 999 999 rfl (by omega) with ⟨k3, l3, rfl, w3, i3⟩ | ⟨w3, i3⟩
      · have hb : k1 * 4 + k2 < 24 := by omega
        have hb2 : 4 * k1 + k2 < 24 := by omega
        refine both_mk (h1 := sI h (b + 38) (k1 * 4 + k2) (nI k3)) (h2 := sI (sI (sI h (b + 38) (k1 * 4 + k2) (nI k3)) (b + 131) 0 0) (b + 168) (4 * k1 + k2) (nI k3)) (r := 1) (L := [(38, 0, 24)]) (M := [(131, 0, 1), (168, 0, 24)]) ?_ (Sn.rf.put 38 _ _ (inL_in (lo := 0) (hi := 24) (by decide) (by omega) hb)) ?_ ((Sn.rf.put 131 0 0 (by decide)).put 168 _ _ (inL_in (lo := 0) (hi := 24) (by decide) (by omega) hb2)) ?_
        · simp (disch := omega) [f_Tc_count, w1, w2, w3, bind_some', ldI, ldR, ldO, stI, stZ, stR, isO, wrA_n, rdA_n, wrA_l, rdA_l, gK_sI, gR_sI, gX_sI, gN_sI, gK_cp, gR_cp, gX_cp, gN_cp, rtZ_0, rtZ_1, if_true, reduceIte, and_self, true_and, and_true, K0, K1, K25, K38, R0_0, R1_6, R25_6, nI_mulL, nI_add, hb]
        · simp (disch := omega) [f_Mo_count, i1, i2, i3, bind_some', ldI, ldR, ldO, stI, stZ, stR, isO, wrA_n, rdA_n, wrA_l, rdA_l, gK_sI, gR_sI, gX_sI, gN_sI, gK_cp, gR_cp, gX_cp, gN_cp, rtZ_0, rtZ_1, if_true, reduceIte, and_self, true_and, and_true, K131, K168, R131_62, L_muln, nI_add, hb2]
        · have t : Sn [(38, 0, 24), (131, 0, 1), (168, 0, 24)] b h (sI (sI (sI h (b + 38) (k1 * 4 + k2) (nI k3)) (b + 131) 0 0) (b + 168) (4 * k1 + k2) (nI k3)) := ((Sn.rf.put 38 _ _ (inL_in (lo := 0) (hi := 24) (by decide) (by omega) hb)).put 131 0 0 (by decide)).put 168 _ _ (inL_in (lo := 0) (hi := 24) (by decide) (by omega) hb2)
          have n_cnt : C_cnt (sI (sI (sI h (b + 38) (k1 * 4 + k2) (nI k3)) (b + 131) 0 0) (b + 168) (4 * k1 + k2) (nI k3)) b := by
            refine FigR.put (k := 4 * k1 + k2) (x := k3) c_cnt (by rw [if_pos hb2]; exact l3) (fun j => ?_) (fun j => ?_)
            · simp [gI_sI, Nat.mul_comm]
            · simp [gI_sI]
          exact ⟨s.sn t, cd.cg t, c_stat.cg t (by decide), c_realm.cg t (by decide), c_book.cg t (by decide), c_law.cg t (by decide), c_kin.cg t (by decide), c_shi.cg t (by decide), c_roa.cg t (by decide), c_ord.cg t (by decide), c_han.cg t (by decide), c_wei.cg t (by decide), c_bag.cg t (by decide), c_pri.cg t (by decide), n_cnt, c_led.cg t (by decide), c_yea.cg t (by decide), c_log.cg t (by decide), c_rdr.cg t (by decide), c_msc.cg t (by decide), c_img.cg t (by decide)⟩
      · exact both_ref I0 (r := 0) (by simp (disch := omega) [f_Tc_count, w1, w2, w3, bind_some', ldI, ldR, ldO, stI, stZ, stR, isO, wrA_n, rdA_n, wrA_l, rdA_l, gK_sI, gR_sI, gX_sI, gN_sI, gK_cp, gR_cp, gX_cp, gN_cp, rtZ_0, rtZ_1, if_true, reduceIte, and_self, true_and, and_true]) (by simp (disch := omega) [f_Mo_count, i1, i2, i3, bind_some', ldI, ldR, ldO, stI, stZ, stR, isO, wrA_n, rdA_n, wrA_l, rdA_l, gK_sI, gR_sI, gX_sI, gN_sI, gK_cp, gR_cp, gX_cp, gN_cp, rtZ_0, rtZ_1, if_true, reduceIte, and_self, true_and, and_true, K131])
    · exact both_ref I0 (r := 0) (by simp (disch := omega) [f_Tc_count, w1, w2, bind_some', ldI, ldR, ldO, stI, stZ, stR, isO, wrA_n, rdA_n, wrA_l, rdA_l, gK_sI, gR_sI, gX_sI, gN_sI, gK_cp, gR_cp, gX_cp, gN_cp, rtZ_0, rtZ_1, if_true, reduceIte, and_self, true_and, and_true]) (by simp (disch := omega) [f_Mo_count, i1, i2, bind_some', ldI, ldR, ldO, stI, stZ, stR, isO, wrA_n, rdA_n, wrA_l, rdA_l, gK_sI, gR_sI, gX_sI, gN_sI, gK_cp, gR_cp, gX_cp, gN_cp, rtZ_0, rtZ_1, if_true, reduceIte, and_self, true_and, and_true, K131])
  · exact both_ref I0 (r := 0) (by simp (disch := omega) [f_Tc_count, w1, bind_some', ldI, ldR, ldO, stI, stZ, stR, isO, wrA_n, rdA_n, wrA_l, rdA_l, gK_sI, gR_sI, gX_sI, gN_sI, gK_cp, gR_cp, gX_cp, gN_cp, rtZ_0, rtZ_1, if_true, reduceIte, and_self, true_and, and_true]) (by simp (disch := omega) [f_Mo_count, i1, bind_some', ldI, ldR, ldO, stI, stZ, stR, isO, wrA_n, rdA_n, wrA_l, rdA_l, gK_sI, gR_sI, gX_sI, gN_sI, gK_cp, gR_cp, gX_cp, gN_cp, rtZ_0, rtZ_1, if_true, reduceIte, and_self, true_and, and_true, K131])
