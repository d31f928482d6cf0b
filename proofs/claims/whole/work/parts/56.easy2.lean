/-! ===== order, hand, weighed ===== -/
theorem op_order (b : Nat) : B_order (Inv b) b (b + 131) := by
  intro h I v w z
  have I0 := I
  obtain ⟨s, cd, c_stat, c_realm, c_book, c_law, c_kin, c_shi, c_roa, c_ord, c_han, c_wei, c_bag, c_pri, c_cnt, c_led, c_yea, c_log, c_rdr, c_msc, c_img⟩ := I
  have K0 : gK h b = (0, 8) := s.K 0 (by decide) rfl
  have K1 : gK h (b + 1) = (0, 1) := s.K 1 (by decide) rfl
  have K25 : gK h (b + 25) = (0, 7) := s.K 25 (by decide) rfl
  have K26 : gK h (b + 26) = (0, 6) := s.K 26 (by decide) rfl
  have K27 : gK h (b + 27) = (1, 24) := s.K 27 (by decide) rfl
  have K131 : gK h (b + 131) = (0, 9) := s.K 131 (by decide) rfl
  have K155 : gK h (b + 155) = (1, 8) := s.K 155 (by decide) rfl
  have K156 : gK h (b + 156) = (1, 8) := s.K 156 (by decide) rfl
  have K157 : gK h (b + 157) = (1, 8) := s.K 157 (by decide) rfl
  have R0_0 : gR h b 0 = some (b + 1) := s.R 0 0 rfl
  have R1_6 : gR h (b + 1) 6 = some (b + 25) := s.R 1 6 rfl
  have R25_0 : gR h (b + 25) 0 = some (b + 26) := s.R 25 0 rfl
  have R26_1 : gR h (b + 26) 1 = some (b + 27) := s.R 26 1 rfl
  have R131_45 : gR h (b + 131) 45 = some (b + 155) := s.R 131 45 rfl
  have R131_46 : gR h (b + 131) 46 = some (b + 156) := s.R 131 46 rfl
  have R131_47 : gR h (b + 131) 47 = some (b + 157) := s.R 131 47 rfl
  have cc := c_ord
  obtain ⟨n, hn, ⟨W, N⟩, MM, LL⟩ := cc
  by_cases hm : v = -1
  · subst hm
    have t1 : Sn [(26, 2, 3)] b h (sI h (b + 26) 2 0) := Sn.rf.put 26 2 0 (by decide)
    have t2 : Sn [(131, 0, 1), (131, 44, 45)] b (sI h (b + 26) 2 0) (sI (sI (sI h (b + 26) 2 0) (b + 131) 0 0) (b + 131) 44 0) := (Sn.rf.put 131 0 0 (by decide)).put 131 44 0 (by decide)
    have t := t1.app t2
    have n_ord : C_ord (sI (sI (sI h (b + 26) 2 0) (b + 131) 0 0) (b + 131) 44 0) b := by
      refine ⟨0, by omega, ⟨?_, ?_⟩, ?_, fun l hl => absurd hl (by omega)⟩
      · simp (disch := omega) only [gI_q, gI_n1, gI_n2]; exact W
      · simp (disch := omega) only [gI_q, gI_n1, gI_n2]; rfl
      · simp (disch := omega) only [gI_q, gI_n1, gI_n2]; rfl
    refine both_mk (r := 0) ?_ t1 ?_ t2 ⟨s.sn t, cd.cg t, c_stat.cg t (by decide), c_realm.cg t (by decide), c_book.cg t (by decide), c_law.cg t (by decide), c_kin.cg t (by decide), c_shi.cg t (by decide), c_roa.cg t (by decide), n_ord, c_han.cg t (by decide), c_wei.cg t (by decide), c_bag.cg t (by decide), c_pri.cg t (by decide), c_cnt.cg t (by decide), c_led.cg t (by decide), c_yea.cg t (by decide), c_log.cg t (by decide), c_rdr.cg t (by decide), c_msc.cg t (by decide), c_img.cg t (by decide)⟩
    · simp [f_Tc_order, f_Row_clear, ↓ob_eq, ob_some, ldI, ldR, ldO, stI, stZ, stR, isO, wrA_n, rdA_n, wrA_l, rdA_l, gK_sI, gR_sI, gX_sI, gN_sI, gK_cp, gR_cp, gX_cp, gN_cp, rtZ_0, rtZ_1, if_true, reduceIte, and_self, true_and, and_true, K0, K1, K25, K26, R0_0, R1_6, R25_0]
    · simp [f_Mo_order, ↓ob_eq, ob_some, ldI, ldR, ldO, stI, stZ, stR, isO, wrA_n, rdA_n, wrA_l, rdA_l, gK_sI, gR_sI, gX_sI, gN_sI, gK_cp, gR_cp, gX_cp, gN_cp, rtZ_0, rtZ_1, if_true, reduceIte, and_self, true_and, and_true, K131]
  · rcases in_cases v 99 99 rfl (by omega) with ⟨k, l1, rfl, w1, i1⟩ | ⟨w1, i1⟩
    · rcases in_cases w 9 9 rfl (by omega) with ⟨k2, l2, rfl, w2, i2⟩ | ⟨w2, i2⟩
      · rcases in1_cases z 9 9 rfl (by omega) with ⟨k3, l0, l3, rfl, u1, u2, i3⟩ | ⟨u, i3⟩
        · have hp : ∀ x4, f_Row_put (b + 26) (nI k) (nI k2) (nI k3) x4 h = if n < 8 then some (nI (n + 1), sI (sI (sI (sI h (b + 27) (3 * n) (nI k)) (b + 27) (3 * n + 1) (nI k2)) (b + 27) (3 * n + 2) (nI k3)) (b + 26) 2 (nI (n + 1))) else some (-1, h) := fun x4 => row_put3 (m := 8) (n := n) K26 R26_1 K27 W N (by omega) hn (by omega)
          have hne1 : ¬ nI k = -1 := nI_ne_m1 (by omega)
          by_cases hc : n < 8
          · have hne : ¬ n = 8 := by omega
            have t1 : Sn [(27, 0, 24), (26, 2, 3)] b h (sI (sI (sI (sI h (b + 27) (3 * n) (nI k)) (b + 27) (3 * n + 1) (nI k2)) (b + 27) (3 * n + 2) (nI k3)) (b + 26) 2 (nI (n + 1))) := (((Sn.rf.put 27 (3 * n) (nI k) (inL_in (lo := 0) (hi := 24) (by decide) (by omega) (by omega))).put 27 (3 * n + 1) (nI k2) (inL_in (lo := 0) (hi := 24) (by decide) (by omega) (by omega))).put 27 (3 * n + 2) (nI k3) (inL_in (lo := 0) (hi := 24) (by decide) (by omega) (by omega))).put 26 2 (nI (n + 1)) (by decide)
            obtain ⟨h1, e1⟩ : ∃ h1, h1 = (sI (sI (sI (sI h (b + 27) (3 * n) (nI k)) (b + 27) (3 * n + 1) (nI k2)) (b + 27) (3 * n + 2) (nI k3)) (b + 26) 2 (nI (n + 1))) := ⟨_, rfl⟩
            rw [← e1] at t1
            have t2 : Sn [(131, 0, 1), (155, 0, 8), (156, 0, 8), (157, 0, 8), (131, 44, 45)] b h1 (sI (sI (sI (sI (sI h1 (b + 131) 0 0) (b + 155) n (nI k)) (b + 156) n (nI k2)) (b + 157) n (nI k3)) (b + 131) 44 (nI (n + 1))) := ((((Sn.rf.put 131 0 0 (by decide)).put 155 n (nI k) (inL_in (lo := 0) (hi := 8) (by decide) (by omega) hc)).put 156 n (nI k2) (inL_in (lo := 0) (hi := 8) (by decide) (by omega) hc)).put 157 n (nI k3) (inL_in (lo := 0) (hi := 8) (by decide) (by omega) hc)).put 131 44 (nI (n + 1)) (by decide)
            have t := t1.app t2
            have n_ord : C_ord (sI (sI (sI (sI (sI h1 (b + 131) 0 0) (b + 155) n (nI k)) (b + 156) n (nI k2)) (b + 157) n (nI k3)) (b + 131) 44 (nI (n + 1))) b := by
              refine ⟨n + 1, by omega, ⟨?_, ?_⟩, ?_, fun l hl => ?_⟩
              · rw [e1]; simp (disch := omega) only [gI_q, gI_n1, gI_n2]; exact W
              · rw [e1]; simp (disch := omega) only [gI_q, gI_n1, gI_n2]
              · rw [e1]; simp (disch := omega) only [gI_q, gI_n1, gI_n2]
              · by_cases e : l = n
                · subst e
                  exact ⟨k, k2, k3, l1, l2, l0, l3, by rw [e1]; simp (disch := omega) only [gI_q, gI_n1, gI_n2], by rw [e1]; simp (disch := omega) only [gI_q, gI_n1, gI_n2], by rw [e1]; simp (disch := omega) only [gI_q, gI_n1, gI_n2], by rw [e1]; simp (disch := omega) only [gI_q, gI_n1, gI_n2], by rw [e1]; simp (disch := omega) only [gI_q, gI_n1, gI_n2], by rw [e1]; simp (disch := omega) only [gI_q, gI_n1, gI_n2]⟩
                · obtain ⟨x, y, u, x1, x2, x3, x4, x5, x6, x7, x8, x9, x10⟩ := LL l (by omega)
                  refine ⟨x, y, u, x1, x2, x3, x4, ?_, ?_, ?_, ?_, ?_, ?_⟩
                  · rw [e1]; simp (disch := omega) only [gI_q, gI_n1, gI_n2]; exact x5
                  · rw [e1]; simp (disch := omega) only [gI_q, gI_n1, gI_n2]; exact x6
                  · rw [e1]; simp (disch := omega) only [gI_q, gI_n1, gI_n2]; exact x7
                  · rw [e1]; simp (disch := omega) only [gI_q, gI_n1, gI_n2]; exact x8
                  · rw [e1]; simp (disch := omega) only [gI_q, gI_n1, gI_n2]; exact x9
                  · rw [e1]; simp (disch := omega) only [gI_q, gI_n1, gI_n2]; exact x10
            have M44 : gI h1 (b + 131) 44 = nI n := by rw [e1]; simp (disch := omega) only [gI_q, gI_n1, gI_n2]; exact MM
            have q131 : gK h1 (b + 131) = (0, 9) := by rw [t1.1]; exact K131
            have q155 : gK h1 (b + 155) = (1, 8) := by rw [t1.1]; exact K155
            have q156 : gK h1 (b + 156) = (1, 8) := by rw [t1.1]; exact K156
            have q157 : gK h1 (b + 157) = (1, 8) := by rw [t1.1]; exact K157
            have p45 : gR h1 (b + 131) 45 = some (b + 155) := by rw [t1.2.1]; exact R131_45
            have p46 : gR h1 (b + 131) 46 = some (b + 156) := by rw [t1.2.1]; exact R131_46
            have p47 : gR h1 (b + 131) 47 = some (b + 157) := by rw [t1.2.1]; exact R131_47
            refine both_mk (r := nI (n + 1)) ?_ t1 ?_ t2 ⟨s.sn t, cd.cg t, c_stat.cg t (by decide), c_realm.cg t (by decide), c_book.cg t (by decide), c_law.cg t (by decide), c_kin.cg t (by decide), c_shi.cg t (by decide), c_roa.cg t (by decide), n_ord, c_han.cg t (by decide), c_wei.cg t (by decide), c_bag.cg t (by decide), c_pri.cg t (by decide), c_cnt.cg t (by decide), c_led.cg t (by decide), c_yea.cg t (by decide), c_log.cg t (by decide), c_rdr.cg t (by decide), c_msc.cg t (by decide), c_img.cg t (by decide)⟩
            · simp (disch := omega) [f_Tc_order, hne1, w1, w2, u1, u2, hp, hc, ↓ob_eq, ob_some, ldI, ldR, ldO, stI, stZ, stR, isO, wrA_n, rdA_n, wrA_l, rdA_l, gK_sI, gR_sI, gX_sI, gN_sI, gK_cp, gR_cp, gX_cp, gN_cp, rtZ_0, rtZ_1, if_true, reduceIte, and_self, true_and, and_true, K0, K1, K25, K26, R0_0, R1_6, R25_0, e1]
            · simp (disch := omega) [f_Mo_order, hne1, i1, i2, i3, ↓ob_eq, ob_some, ldI, ldR, ldO, stI, stZ, stR, isO, wrA_n, rdA_n, wrA_l, rdA_l, gK_sI, gR_sI, gX_sI, gN_sI, gK_cp, gR_cp, gX_cp, gN_cp, rtZ_0, rtZ_1, if_true, reduceIte, and_self, true_and, and_true, q131, q155, q156, q157, p45, p46, p47, gI_q, gI_n1, gI_n2, M44, nI_eqL, hne, hc, nI_addL]
          · have hne : n = 8 := by omega
            subst hne
            exact both_ref I0 (r := -1) (by simp (disch := omega) [f_Tc_order, hne1, w1, w2, u1, u2, hp, ↓ob_eq, ob_some, ldI, ldR, ldO, stI, stZ, stR, isO, wrA_n, rdA_n, wrA_l, rdA_l, gK_sI, gR_sI, gX_sI, gN_sI, gK_cp, gR_cp, gX_cp, gN_cp, rtZ_0, rtZ_1, if_true, reduceIte, and_self, true_and, and_true, K0, K1, K25, K26, R0_0, R1_6, R25_0]) (by simp (disch := omega) [f_Mo_order, hne1, i1, i2, i3, ↓ob_eq, ob_some, ldI, ldR, ldO, stI, stZ, stR, isO, wrA_n, rdA_n, wrA_l, rdA_l, gK_sI, gR_sI, gX_sI, gN_sI, gK_cp, gR_cp, gX_cp, gN_cp, rtZ_0, rtZ_1, if_true, reduceIte, and_self, true_and, and_true, K131, gI_q, gI_n1, gI_n2, MM, nI_eqL])
        · refine both_ref I0 (r := -1) ?_ (by simp [f_Mo_order, hm, i1, i2, i3, ↓ob_eq, ob_some, ldI, ldR, ldO, stI, stZ, stR, isO, wrA_n, rdA_n, wrA_l, rdA_l, gK_sI, gR_sI, gX_sI, gN_sI, gK_cp, gR_cp, gX_cp, gN_cp, rtZ_0, rtZ_1, if_true, reduceIte, and_self, true_and, and_true, K131])
          rcases u with u | ⟨u, u2⟩
          · simp [f_Tc_order, hm, w1, w2, u, ↓ob_eq, ob_some, ldI, ldR, ldO, stI, stZ, stR, isO, wrA_n, rdA_n, wrA_l, rdA_l, gK_sI, gR_sI, gX_sI, gN_sI, gK_cp, gR_cp, gX_cp, gN_cp, rtZ_0, rtZ_1, if_true, reduceIte, and_self, true_and, and_true]
          · simp [f_Tc_order, hm, w1, w2, u, u2, ↓ob_eq, ob_some, ldI, ldR, ldO, stI, stZ, stR, isO, wrA_n, rdA_n, wrA_l, rdA_l, gK_sI, gR_sI, gX_sI, gN_sI, gK_cp, gR_cp, gX_cp, gN_cp, rtZ_0, rtZ_1, if_true, reduceIte, and_self, true_and, and_true]
      · exact both_ref I0 (r := -1) (by simp [f_Tc_order, hm, w1, w2, ↓ob_eq, ob_some, ldI, ldR, ldO, stI, stZ, stR, isO, wrA_n, rdA_n, wrA_l, rdA_l, gK_sI, gR_sI, gX_sI, gN_sI, gK_cp, gR_cp, gX_cp, gN_cp, rtZ_0, rtZ_1, if_true, reduceIte, and_self, true_and, and_true]) (by simp [f_Mo_order, hm, i1, i2, ↓ob_eq, ob_some, ldI, ldR, ldO, stI, stZ, stR, isO, wrA_n, rdA_n, wrA_l, rdA_l, gK_sI, gR_sI, gX_sI, gN_sI, gK_cp, gR_cp, gX_cp, gN_cp, rtZ_0, rtZ_1, if_true, reduceIte, and_self, true_and, and_true, K131])
    · exact both_ref I0 (r := -1) (by simp [f_Tc_order, hm, w1, ↓ob_eq, ob_some, ldI, ldR, ldO, stI, stZ, stR, isO, wrA_n, rdA_n, wrA_l, rdA_l, gK_sI, gR_sI, gX_sI, gN_sI, gK_cp, gR_cp, gX_cp, gN_cp, rtZ_0, rtZ_1, if_true, reduceIte, and_self, true_and, and_true]) (by simp [f_Mo_order, hm, i1, ↓ob_eq, ob_some, ldI, ldR, ldO, stI, stZ, stR, isO, wrA_n, rdA_n, wrA_l, rdA_l, gK_sI, gR_sI, gX_sI, gN_sI, gK_cp, gR_cp, gX_cp, gN_cp, rtZ_0, rtZ_1, if_true, reduceIte, and_self, true_and, and_true, K131])
theorem op_hand (b : Nat) : B_hand (Inv b) b (b + 131) := by
  intro h I v w
  have I0 := I
  obtain ⟨s, cd, c_stat, c_realm, c_book, c_law, c_kin, c_shi, c_roa, c_ord, c_han, c_wei, c_bag, c_pri, c_cnt, c_led, c_yea, c_log, c_rdr, c_msc, c_img⟩ := I
  have K0 : gK h b = (0, 8) := s.K 0 (by decide) rfl
  have K1 : gK h (b + 1) = (0, 1) := s.K 1 (by decide) rfl
  have K25 : gK h (b + 25) = (0, 7) := s.K 25 (by decide) rfl
  have K28 : gK h (b + 28) = (0, 6) := s.K 28 (by decide) rfl
  have K29 : gK h (b + 29) = (1, 32) := s.K 29 (by decide) rfl
  have K131 : gK h (b + 131) = (0, 9) := s.K 131 (by decide) rfl
  have K158 : gK h (b + 158) = (1, 6) := s.K 158 (by decide) rfl
  have R0_0 : gR h b 0 = some (b + 1) := s.R 0 0 rfl
  have R1_6 : gR h (b + 1) 6 = some (b + 25) := s.R 1 6 rfl
  have R25_1 : gR h (b + 25) 1 = some (b + 28) := s.R 25 1 rfl
  have R28_1 : gR h (b + 28) 1 = some (b + 29) := s.R 28 1 rfl
  have R131_49 : gR h (b + 131) 49 = some (b + 158) := s.R 131 49 rfl
  have cc := c_han
  obtain ⟨n, hn, ⟨W, N⟩, MM, LL, GG⟩ := cc
  by_cases hm : v = -1
  · subst hm
    have t1 : Sn [(28, 2, 3)] b h (sI h (b + 28) 2 0) := Sn.rf.put 28 2 0 (by decide)
    have t2 : Sn [(131, 0, 1), (131, 48, 49), (158, 0, 6)] b (sI h (b + 28) 2 0) (sI (sI (sI (sI (sI (sI (sI (sI (sI h (b + 28) 2 0) (b + 131) 0 0) (b + 131) 48 0) (b + 158) 0 0) (b + 158) 1 0) (b + 158) 2 0) (b + 158) 3 0) (b + 158) 4 0) (b + 158) 5 0) := (((((((Sn.rf.put 131 0 0 (by decide)).put 131 48 0 (by decide)).put 158 0 0 (by decide)).put 158 1 0 (by decide)).put 158 2 0 (by decide)).put 158 3 0 (by decide)).put 158 4 0 (by decide)).put 158 5 0 (by decide)
    have t := t1.app t2
    have n_han : C_han (sI (sI (sI (sI (sI (sI (sI (sI (sI h (b + 28) 2 0) (b + 131) 0 0) (b + 131) 48 0) (b + 158) 0 0) (b + 158) 1 0) (b + 158) 2 0) (b + 158) 3 0) (b + 158) 4 0) (b + 158) 5 0) b := by
      refine ⟨0, by omega, ⟨?_, ?_⟩, ?_, fun l hl => absurd hl (by omega), fun a ha => ?_⟩
      · simp (disch := omega) only [gI_q, gI_n1, gI_n2]; exact W
      · simp (disch := omega) only [gI_q, gI_n1, gI_n2]; rfl
      · simp (disch := omega) only [gI_q, gI_n1, gI_n2]; rfl
      · have : a = 0 ∨ a = 1 ∨ a = 2 ∨ a = 3 ∨ a = 4 ∨ a = 5 := by omega
        rcases this with rfl | rfl | rfl | rfl | rfl | rfl <;> simp (disch := omega) only [gI_q, gI_n1, gI_n2] <;> rfl
    refine both_mk (r := 0) ?_ t1 ?_ t2 ⟨s.sn t, cd.cg t, c_stat.cg t (by decide), c_realm.cg t (by decide), c_book.cg t (by decide), c_law.cg t (by decide), c_kin.cg t (by decide), c_shi.cg t (by decide), c_roa.cg t (by decide), c_ord.cg t (by decide), n_han, c_wei.cg t (by decide), c_bag.cg t (by decide), c_pri.cg t (by decide), c_cnt.cg t (by decide), c_led.cg t (by decide), c_yea.cg t (by decide), c_log.cg t (by decide), c_rdr.cg t (by decide), c_msc.cg t (by decide), c_img.cg t (by decide)⟩
    · simp [f_Tc_hand, f_Row_clear, ↓ob_eq, ob_some, ldI, ldR, ldO, stI, stZ, stR, isO, wrA_n, rdA_n, wrA_l, rdA_l, gK_sI, gR_sI, gX_sI, gN_sI, gK_cp, gR_cp, gX_cp, gN_cp, rtZ_0, rtZ_1, if_true, reduceIte, and_self, true_and, and_true, K0, K1, K25, K28, R0_0, R1_6, R25_1]
    · have g : ∀ N k h, gK h (b + 131) = (0, 9) → gK h (b + 158) = (1, 6) → gR h (b + 131) 49 = some (b + 158) → k < 6 → f_Mo_hand_17 (N + 1) (b + 131) (nI k) h = f_Mo_hand_17 N (b + 131) (nI (k + 1)) (sI h (b + 158) k 0) := by
        intro N k h q1 q2 q3 hk
        have e6 : ¬ (6 : Int32) ≤ nI k := by rw [L_len (n := 6) (by omega) (by decide)]; simpa using hk
        rw [f_Mo_hand_17]
        simp (disch := omega) [↓ob_eq, ob_some, ldI, ldR, ldO, stI, stZ, stR, isO, wrA_n, rdA_n, wrA_l, rdA_l, gK_sI, gR_sI, gX_sI, gN_sI, gK_cp, gR_cp, gX_cp, gN_cp, rtZ_0, rtZ_1, if_true, reduceIte, and_self, true_and, and_true, e6, q1, q2, q3, hk, nI_addL]
      have g6 : ∀ N h, f_Mo_hand_17 (N + 1) (b + 131) (nI 6) h = some (0, h) := fun N h => by
        rw [f_Mo_hand_17]
        simp [show (6 : Int32) ≤ nI 6 by decide]
      have e0 : ∀ h, f_Mo_hand_17 FU (b + 131) 0 h = f_Mo_hand_17 (69993 + 1 + 1 + 1 + 1 + 1 + 1 + 1) (b + 131) (nI 0) h := fun h => rfl
      have e1 : f_Mo_hand (b + 131) (-1) w (sI h (b + 28) 2 0) = f_Mo_hand_17 (69993 + 1 + 1 + 1 + 1 + 1 + 1 + 1) (b + 131) (nI 0) (sI (sI (sI h (b + 28) 2 0) (b + 131) 0 0) (b + 131) 48 0) := by
        rw [← e0]
        simp [f_Mo_hand, ↓ob_eq, ob_some, ldI, ldR, ldO, stI, stZ, stR, isO, wrA_n, rdA_n, wrA_l, rdA_l, gK_sI, gR_sI, gX_sI, gN_sI, gK_cp, gR_cp, gX_cp, gN_cp, rtZ_0, rtZ_1, if_true, reduceIte, and_self, true_and, and_true, K131]
      refine e1.trans ?_
      refine (g _ 0 _ (by exact K131) (by exact K158) (by exact R131_49) (by omega)).trans ?_
      refine (g _ 1 _ (by exact K131) (by exact K158) (by exact R131_49) (by omega)).trans ?_
      refine (g _ 2 _ (by exact K131) (by exact K158) (by exact R131_49) (by omega)).trans ?_
      refine (g _ 3 _ (by exact K131) (by exact K158) (by exact R131_49) (by omega)).trans ?_
      refine (g _ 4 _ (by exact K131) (by exact K158) (by exact R131_49) (by omega)).trans ?_
      refine (g _ 5 _ (by exact K131) (by exact K158) (by exact R131_49) (by omega)).trans ?_
      exact g6 _ _
  · rcases in_cases v 5 5 rfl (by omega) with ⟨k, l1, rfl, w1, i1⟩ | ⟨w1, i1⟩
    · rcases in_cases w 5 5 rfl (by omega) with ⟨k2, l2, rfl, w2, i2⟩ | ⟨w2, i2⟩
      · have hp : ∀ x3 x4, f_Row_put (b + 28) (nI k) (nI k2) x3 x4 h = if n < 16 then some (nI (n + 1), sI (sI (sI h (b + 29) (2 * n) (nI k)) (b + 29) (2 * n + 1) (nI k2)) (b + 28) 2 (nI (n + 1))) else some (-1, h) := fun x3 x4 => row_put2 (m := 16) (n := n) K28 R28_1 K29 W N (by omega) hn (by omega)
        have hne1 : ¬ nI k = -1 := nI_ne_m1 (by omega)
        by_cases hc : n < 16
        · have hne : ¬ n = 16 := by omega
          have hk6 : k < 6 := by omega
          have t1 : Sn [(29, 0, 32), (28, 2, 3)] b h (sI (sI (sI h (b + 29) (2 * n) (nI k)) (b + 29) (2 * n + 1) (nI k2)) (b + 28) 2 (nI (n + 1))) := ((Sn.rf.put 29 (2 * n) (nI k) (inL_in (lo := 0) (hi := 32) (by decide) (by omega) (by omega))).put 29 (2 * n + 1) (nI k2) (inL_in (lo := 0) (hi := 32) (by decide) (by omega) (by omega))).put 28 2 (nI (n + 1)) (by decide)
          have t2 : Sn [(131, 0, 1), (158, 0, 6), (131, 48, 49)] b (sI (sI (sI h (b + 29) (2 * n) (nI k)) (b + 29) (2 * n + 1) (nI k2)) (b + 28) 2 (nI (n + 1))) (sI (sI (sI (sI (sI (sI h (b + 29) (2 * n) (nI k)) (b + 29) (2 * n + 1) (nI k2)) (b + 28) 2 (nI (n + 1))) (b + 131) 0 0) (b + 158) k (gI h (b + 158) k ||| jshl 1 (nI k2))) (b + 131) 48 (nI (n + 1))) := ((Sn.rf.put 131 0 0 (by decide)).put 158 k _ (inL_in (lo := 0) (hi := 6) (by decide) (by omega) (by omega))).put 131 48 (nI (n + 1)) (by decide)
          have t := t1.app t2
          have n_han : C_han (sI (sI (sI (sI (sI (sI h (b + 29) (2 * n) (nI k)) (b + 29) (2 * n + 1) (nI k2)) (b + 28) 2 (nI (n + 1))) (b + 131) 0 0) (b + 158) k (gI h (b + 158) k ||| jshl 1 (nI k2))) (b + 131) 48 (nI (n + 1))) b := by
            refine ⟨n + 1, by omega, ⟨?_, ?_⟩, ?_, fun l hl => ?_, fun a ha => ?_⟩
            · simp (disch := omega) only [gI_q, gI_n1, gI_n2]; exact W
            · simp (disch := omega) only [gI_q, gI_n1, gI_n2]
            · simp (disch := omega) only [gI_q, gI_n1, gI_n2]
            · by_cases e : l = n
              · subst e
                exact ⟨k, k2, hk6, by omega, by simp (disch := omega) only [gI_q, gI_n1, gI_n2], by simp (disch := omega) only [gI_q, gI_n1, gI_n2]⟩
              · obtain ⟨x, y, x1, x2, x3, x4⟩ := LL l (by omega)
                refine ⟨x, y, x1, x2, ?_, ?_⟩
                · simp (disch := omega) only [gI_q, gI_n1, gI_n2]; exact x3
                · simp (disch := omega) only [gI_q, gI_n1, gI_n2]; exact x4
            · have eg : ∀ m, m ≤ n → gset (gI (sI (sI (sI (sI (sI (sI h (b + 29) (2 * n) (nI k)) (b + 29) (2 * n + 1) (nI k2)) (b + 28) 2 (nI (n + 1))) (b + 131) 0 0) (b + 158) k (gI h (b + 158) k ||| jshl 1 (nI k2))) (b + 131) 48 (nI (n + 1))) (b + 29)) a m = gset (gI h (b + 29)) a m := by
                intro m
                induction m with
                | zero => intro _; rfl
                | succ m ih =>
                  intro hm2
                  rw [gset, gset, ih (by omega)]
                  simp (disch := omega) only [gI_q, gI_n1, gI_n2]
              rw [gset, eg n (by omega)]
              have eka : nI k = nI a ↔ k = a := nI_eq (by omega) (by omega)
              by_cases e : a = k
              · subst e
                simp (disch := omega) only [gI_q, gI_n1, gI_n2]
                rw [if_pos trivial, GG a ha]
              · simp (disch := omega) only [gI_q, gI_n1, gI_n2]
                rw [if_neg (by rw [eka]; omega)]
                exact GG a ha
          refine both_mk (r := nI (n + 1)) ?_ t1 ?_ t2 ⟨s.sn t, cd.cg t, c_stat.cg t (by decide), c_realm.cg t (by decide), c_book.cg t (by decide), c_law.cg t (by decide), c_kin.cg t (by decide), c_shi.cg t (by decide), c_roa.cg t (by decide), c_ord.cg t (by decide), n_han, c_wei.cg t (by decide), c_bag.cg t (by decide), c_pri.cg t (by decide), c_cnt.cg t (by decide), c_led.cg t (by decide), c_yea.cg t (by decide), c_log.cg t (by decide), c_rdr.cg t (by decide), c_msc.cg t (by decide), c_img.cg t (by decide)⟩
          · simp (disch := omega) [f_Tc_hand, hne1, w1, w2, hp, hc, ↓ob_eq, ob_some, ldI, ldR, ldO, stI, stZ, stR, isO, wrA_n, rdA_n, wrA_l, rdA_l, gK_sI, gR_sI, gX_sI, gN_sI, gK_cp, gR_cp, gX_cp, gN_cp, rtZ_0, rtZ_1, if_true, reduceIte, and_self, true_and, and_true, K0, K1, K25, K28, R0_0, R1_6, R25_1]
          · simp (disch := omega) [f_Mo_hand, hne1, i1, i2, ↓ob_eq, ob_some, ldI, ldR, ldO, stI, stZ, stR, isO, wrA_n, rdA_n, wrA_l, rdA_l, gK_sI, gR_sI, gX_sI, gN_sI, gK_cp, gR_cp, gX_cp, gN_cp, rtZ_0, rtZ_1, if_true, reduceIte, and_self, true_and, and_true, K131, K158, R131_49, gI_q, gI_n1, gI_n2, MM, nI_eqL, hne, hk6, nI_addL]
        · have hne : n = 16 := by omega
          subst hne
          exact both_ref I0 (r := -1) (by simp (disch := omega) [f_Tc_hand, hne1, w1, w2, hp, ↓ob_eq, ob_some, ldI, ldR, ldO, stI, stZ, stR, isO, wrA_n, rdA_n, wrA_l, rdA_l, gK_sI, gR_sI, gX_sI, gN_sI, gK_cp, gR_cp, gX_cp, gN_cp, rtZ_0, rtZ_1, if_true, reduceIte, and_self, true_and, and_true, K0, K1, K25, K28, R0_0, R1_6, R25_1]) (by simp (disch := omega) [f_Mo_hand, hne1, i1, i2, ↓ob_eq, ob_some, ldI, ldR, ldO, stI, stZ, stR, isO, wrA_n, rdA_n, wrA_l, rdA_l, gK_sI, gR_sI, gX_sI, gN_sI, gK_cp, gR_cp, gX_cp, gN_cp, rtZ_0, rtZ_1, if_true, reduceIte, and_self, true_and, and_true, K131, gI_q, gI_n1, gI_n2, MM, nI_eqL])
      · exact both_ref I0 (r := -1) (by simp [f_Tc_hand, hm, w1, w2, ↓ob_eq, ob_some, ldI, ldR, ldO, stI, stZ, stR, isO, wrA_n, rdA_n, wrA_l, rdA_l, gK_sI, gR_sI, gX_sI, gN_sI, gK_cp, gR_cp, gX_cp, gN_cp, rtZ_0, rtZ_1, if_true, reduceIte, and_self, true_and, and_true]) (by simp [f_Mo_hand, hm, i1, i2, ↓ob_eq, ob_some, ldI, ldR, ldO, stI, stZ, stR, isO, wrA_n, rdA_n, wrA_l, rdA_l, gK_sI, gR_sI, gX_sI, gN_sI, gK_cp, gR_cp, gX_cp, gN_cp, rtZ_0, rtZ_1, if_true, reduceIte, and_self, true_and, and_true, K131])
    · exact both_ref I0 (r := -1) (by simp [f_Tc_hand, hm, w1, ↓ob_eq, ob_some, ldI, ldR, ldO, stI, stZ, stR, isO, wrA_n, rdA_n, wrA_l, rdA_l, gK_sI, gR_sI, gX_sI, gN_sI, gK_cp, gR_cp, gX_cp, gN_cp, rtZ_0, rtZ_1, if_true, reduceIte, and_self, true_and, and_true]) (by simp [f_Mo_hand, hm, i1, ↓ob_eq, ob_some, ldI, ldR, ldO, stI, stZ, stR, isO, wrA_n, rdA_n, wrA_l, rdA_l, gK_sI, gR_sI, gX_sI, gN_sI, gK_cp, gR_cp, gX_cp, gN_cp, rtZ_0, rtZ_1, if_true, reduceIte, and_self, true_and, and_true, K131])
theorem op_weighed (b : Nat) : B_weighed (Inv b) b (b + 131) := by
  intro h I v w
  have I0 := I
  obtain ⟨s, cd, c_stat, c_realm, c_book, c_law, c_kin, c_shi, c_roa, c_ord, c_han, c_wei, c_bag, c_pri, c_cnt, c_led, c_yea, c_log, c_rdr, c_msc, c_img⟩ := I
  have K0 : gK h b = (0, 8) := s.K 0 (by decide) rfl
  have K1 : gK h (b + 1) = (0, 1) := s.K 1 (by decide) rfl
  have K25 : gK h (b + 25) = (0, 7) := s.K 25 (by decide) rfl
  have K32 : gK h (b + 32) = (0, 6) := s.K 32 (by decide) rfl
  have K34 : gK h (b + 34) = (0, 6) := s.K 34 (by decide) rfl
  have K35 : gK h (b + 35) = (1, 12) := s.K 35 (by decide) rfl
  have K131 : gK h (b + 131) = (0, 9) := s.K 131 (by decide) rfl
  have K164 : gK h (b + 164) = (1, 6) := s.K 164 (by decide) rfl
  have K165 : gK h (b + 165) = (1, 6) := s.K 165 (by decide) rfl
  have R0_0 : gR h b 0 = some (b + 1) := s.R 0 0 rfl
  have R1_6 : gR h (b + 1) 6 = some (b + 25) := s.R 1 6 rfl
  have R25_3 : gR h (b + 25) 3 = some (b + 32) := s.R 25 3 rfl
  have R25_4 : gR h (b + 25) 4 = some (b + 34) := s.R 25 4 rfl
  have R34_1 : gR h (b + 34) 1 = some (b + 35) := s.R 34 1 rfl
  have R131_58 : gR h (b + 131) 58 = some (b + 164) := s.R 131 58 rfl
  have R131_59 : gR h (b + 131) 59 = some (b + 165) := s.R 131 59 rfl
  have cc := c_bag
  obtain ⟨⟨nb, hnb, ⟨Wb, Nb⟩, MMb, LLb⟩, n, hn, ⟨W, N⟩, MM, LL⟩ := cc
  have hp : 1 ≤ 2 ^ nb := Nat.one_le_two_pow
  have hp2 : 2 ^ nb ≤ 2 ^ 10 := Nat.pow_le_pow_right (by decide) hnb
  have hsh : jshl 1 (nI nb) - 1 = nI (2 ^ nb - 1) := by rw [jshl1 nb (by omega)]; exact pk_sub (b := 1) hp
  have LL : ∀ l, l < n → ∃ x y, x < 2 ^ nb ∧ y ≤ 9999 ∧ gI h (b + 35) (2 * l) = nI x ∧ gI h (b + 164) l = nI x ∧ gI h (b + 35) (2 * l + 1) = nI y ∧ gI h (b + 165) l = nI y := by
    rw [MMb, tn_nI (by omega)] at LL
    exact LL
  rcases in_cases v (nI (2 ^ nb - 1)) (2 ^ nb - 1) rfl (by omega) with ⟨k, l1, rfl, w1, i1⟩ | ⟨w1, i1⟩
  · rcases in_cases w 9999 9999 rfl (by omega) with ⟨k2, l2, rfl, w2, i2⟩ | ⟨w2, i2⟩
    · have hpp : ∀ x3 x4, f_Row_put (b + 34) (nI k) (nI k2) x3 x4 h = if n < 6 then some (nI (n + 1), sI (sI (sI h (b + 35) (2 * n) (nI k)) (b + 35) (2 * n + 1) (nI k2)) (b + 34) 2 (nI (n + 1))) else some (-1, h) := fun x3 x4 => row_put2 (m := 6) (n := n) K34 R34_1 K35 W N (by omega) hn (by omega)
      by_cases hc : n < 6
      · have hne : ¬ n = 6 := by omega
        have t1 : Sn [(35, 0, 12), (34, 2, 3)] b h (sI (sI (sI h (b + 35) (2 * n) (nI k)) (b + 35) (2 * n + 1) (nI k2)) (b + 34) 2 (nI (n + 1))) := ((Sn.rf.put 35 (2 * n) (nI k) (inL_in (lo := 0) (hi := 12) (by decide) (by omega) (by omega))).put 35 (2 * n + 1) (nI k2) (inL_in (lo := 0) (hi := 12) (by decide) (by omega) (by omega))).put 34 2 (nI (n + 1)) (by decide)
        have t2 : Sn [(131, 0, 1), (164, 0, 6), (165, 0, 6), (131, 56, 57)] b (sI (sI (sI h (b + 35) (2 * n) (nI k)) (b + 35) (2 * n + 1) (nI k2)) (b + 34) 2 (nI (n + 1))) (sI (sI (sI (sI (sI (sI (sI h (b + 35) (2 * n) (nI k)) (b + 35) (2 * n + 1) (nI k2)) (b + 34) 2 (nI (n + 1))) (b + 131) 0 0) (b + 164) n (nI k)) (b + 165) n (nI k2)) (b + 131) 56 (nI (n + 1))) := (((Sn.rf.put 131 0 0 (by decide)).put 164 n _ (inL_in (lo := 0) (hi := 6) (by decide) (by omega) (by omega))).put 165 n _ (inL_in (lo := 0) (hi := 6) (by decide) (by omega) (by omega))).put 131 56 (nI (n + 1)) (by decide)
        have t := t1.app t2
        have n_bag : C_bag (sI (sI (sI (sI (sI (sI (sI h (b + 35) (2 * n) (nI k)) (b + 35) (2 * n + 1) (nI k2)) (b + 34) 2 (nI (n + 1))) (b + 131) 0 0) (b + 164) n (nI k)) (b + 165) n (nI k2)) (b + 131) 56 (nI (n + 1))) b := by
          refine ⟨⟨nb, hnb, ⟨?_, ?_⟩, ?_, fun l hl => ?_⟩, n + 1, by omega, ⟨?_, ?_⟩, ?_, fun l hl => ?_⟩
          · simp (disch := omega) only [gI_q, gI_n1, gI_n2]; exact Wb
          · simp (disch := omega) only [gI_q, gI_n1, gI_n2]; exact Nb
          · simp (disch := omega) only [gI_q, gI_n1, gI_n2]; exact MMb
          · simp (disch := omega) only [gI_q, gI_n1, gI_n2]; exact LLb l hl
          · simp (disch := omega) only [gI_q, gI_n1, gI_n2]; exact W
          · simp (disch := omega) only [gI_q, gI_n1, gI_n2]
          · simp (disch := omega) only [gI_q, gI_n1, gI_n2]
          · have e55 : (gI (sI (sI (sI (sI (sI (sI (sI h (b + 35) (2 * n) (nI k)) (b + 35) (2 * n + 1) (nI k2)) (b + 34) 2 (nI (n + 1))) (b + 131) 0 0) (b + 164) n (nI k)) (b + 165) n (nI k2)) (b + 131) 56 (nI (n + 1))) (b + 131) 55).toNatClampNeg = nb := by
              simp (disch := omega) only [gI_q, gI_n1, gI_n2]
              rw [MMb, tn_nI (by omega)]
            rw [e55]
            by_cases e : l = n
            · subst e
              exact ⟨k, k2, by omega, l2, by simp (disch := omega) only [gI_q, gI_n1, gI_n2], by simp (disch := omega) only [gI_q, gI_n1, gI_n2], by simp (disch := omega) only [gI_q, gI_n1, gI_n2], by simp (disch := omega) only [gI_q, gI_n1, gI_n2]⟩
            · obtain ⟨x, y, x1, x2, x3, x4, x5, x6⟩ := LL l (by omega)
              refine ⟨x, y, x1, x2, ?_, ?_, ?_, ?_⟩
              · simp (disch := omega) only [gI_q, gI_n1, gI_n2]; exact x3
              · simp (disch := omega) only [gI_q, gI_n1, gI_n2]; exact x4
              · simp (disch := omega) only [gI_q, gI_n1, gI_n2]; exact x5
              · simp (disch := omega) only [gI_q, gI_n1, gI_n2]; exact x6
        refine both_mk (r := nI (n + 1)) ?_ t1 ?_ t2 ⟨s.sn t, cd.cg t, c_stat.cg t (by decide), c_realm.cg t (by decide), c_book.cg t (by decide), c_law.cg t (by decide), c_kin.cg t (by decide), c_shi.cg t (by decide), c_roa.cg t (by decide), c_ord.cg t (by decide), c_han.cg t (by decide), c_wei.cg t (by decide), n_bag, c_pri.cg t (by decide), c_cnt.cg t (by decide), c_led.cg t (by decide), c_yea.cg t (by decide), c_log.cg t (by decide), c_rdr.cg t (by decide), c_msc.cg t (by decide), c_img.cg t (by decide)⟩
        · simp (disch := omega) [f_Tc_weighed, Nb, hsh, w1, w2, hpp, hc, ↓ob_eq, ob_some, ldI, ldR, ldO, stI, stZ, stR, isO, wrA_n, rdA_n, wrA_l, rdA_l, gK_sI, gR_sI, gX_sI, gN_sI, gK_cp, gR_cp, gX_cp, gN_cp, rtZ_0, rtZ_1, if_true, reduceIte, and_self, true_and, and_true, K0, K1, K25, K32, K34, R0_0, R1_6, R25_3, R25_4]
        · simp (disch := omega) [f_Mo_weighed, hsh, i1, i2, ↓ob_eq, ob_some, ldI, ldR, ldO, stI, stZ, stR, isO, wrA_n, rdA_n, wrA_l, rdA_l, gK_sI, gR_sI, gX_sI, gN_sI, gK_cp, gR_cp, gX_cp, gN_cp, rtZ_0, rtZ_1, if_true, reduceIte, and_self, true_and, and_true, K131, K164, K165, R131_58, R131_59, gI_q, gI_n1, gI_n2, MMb, MM, nI_eqL, hne, hc, nI_addL]
      · have hne : n = 6 := by omega
        subst hne
        exact both_ref I0 (r := -1) (by simp (disch := omega) [f_Tc_weighed, Nb, hsh, w1, w2, hpp, ↓ob_eq, ob_some, ldI, ldR, ldO, stI, stZ, stR, isO, wrA_n, rdA_n, wrA_l, rdA_l, gK_sI, gR_sI, gX_sI, gN_sI, gK_cp, gR_cp, gX_cp, gN_cp, rtZ_0, rtZ_1, if_true, reduceIte, and_self, true_and, and_true, K0, K1, K25, K32, K34, R0_0, R1_6, R25_3, R25_4]) (by simp (disch := omega) [f_Mo_weighed, hsh, i1, i2, ↓ob_eq, ob_some, ldI, ldR, ldO, stI, stZ, stR, isO, wrA_n, rdA_n, wrA_l, rdA_l, gK_sI, gR_sI, gX_sI, gN_sI, gK_cp, gR_cp, gX_cp, gN_cp, rtZ_0, rtZ_1, if_true, reduceIte, and_self, true_and, and_true, K131, gI_q, gI_n1, gI_n2, MMb, MM, nI_eqL])
    · exact both_ref I0 (r := -1) (by simp (disch := omega) [f_Tc_weighed, Nb, hsh, w1, w2, ↓ob_eq, ob_some, ldI, ldR, ldO, stI, stZ, stR, isO, wrA_n, rdA_n, wrA_l, rdA_l, gK_sI, gR_sI, gX_sI, gN_sI, gK_cp, gR_cp, gX_cp, gN_cp, rtZ_0, rtZ_1, if_true, reduceIte, and_self, true_and, and_true, K0, K1, K25, K32, R0_0, R1_6, R25_3]) (by simp (disch := omega) [f_Mo_weighed, hsh, i1, i2, ↓ob_eq, ob_some, ldI, ldR, ldO, stI, stZ, stR, isO, wrA_n, rdA_n, wrA_l, rdA_l, gK_sI, gR_sI, gX_sI, gN_sI, gK_cp, gR_cp, gX_cp, gN_cp, rtZ_0, rtZ_1, if_true, reduceIte, and_self, true_and, and_true, K131, gI_q, gI_n1, gI_n2, MMb])
  · exact both_ref I0 (r := -1) (by simp (disch := omega) [f_Tc_weighed, Nb, hsh, w1, ↓ob_eq, ob_some, ldI, ldR, ldO, stI, stZ, stR, isO, wrA_n, rdA_n, wrA_l, rdA_l, gK_sI, gR_sI, gX_sI, gN_sI, gK_cp, gR_cp, gX_cp, gN_cp, rtZ_0, rtZ_1, if_true, reduceIte, and_self, true_and, and_true, K0, K1, K25, K32, R0_0, R1_6, R25_3]) (by simp (disch := omega) [f_Mo_weighed, hsh, i1, ↓ob_eq, ob_some, ldI, ldR, ldO, stI, stZ, stR, isO, wrA_n, rdA_n, wrA_l, rdA_l, gK_sI, gR_sI, gX_sI, gN_sI, gK_cp, gR_cp, gX_cp, gN_cp, rtZ_0, rtZ_1, if_true, reduceIte, and_self, true_and, and_true, K131, gI_q, gI_n1, gI_n2, MMb])
