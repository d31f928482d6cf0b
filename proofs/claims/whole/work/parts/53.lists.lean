/-! ===== lists that are told ===== -/
/-- between 1 and a bound -/
theorem in1_cases (x m : Int32) (n : Nat) (hm : m = nI n) (hn : n < 2147483648) : (∃ k, 1 ≤ k ∧ k ≤ n ∧ x = nI k ∧ ¬ x < 1 ∧ x ≤ m ∧ ∀ a h, f_Mo_isIn a x 1 m h = some (1, h)) ∨ ((x < 1 ∨ (¬ x < 1 ∧ ¬ x ≤ m)) ∧ ∀ a h, f_Mo_isIn a x 1 m h = some (0, h)) := by
  by_cases h0 : x < 1
  · exact Or.inr ⟨Or.inl h0, fun a h => by unfold f_Mo_isIn; rw [if_pos h0, rtZ_0]⟩
  · by_cases h1 : m < x
    · exact Or.inr ⟨Or.inr ⟨h0, fun q => (fa_of_lt h1).2.1 q⟩, fun a h => by unfold f_Mo_isIn; rw [if_neg h0, if_pos h1, rtZ_0]⟩
    · have hx0 : ¬ x < 0 := fun q => h0 (by rw [fa_lt] at *; have e0 : (0 : Int32).toInt = 0 := rfl; have e1 : (1 : Int32).toInt = 1 := rfl; omega)
      obtain ⟨k, hk, rfl⟩ := I_upto hn hx0 (by rw [← hm]; exact h1)
      refine Or.inl ⟨k, ?_, hk, rfl, h0, fa_of_nlt h1, fun a h => by unfold f_Mo_isIn; rw [if_neg h0, if_neg h1, rtZ_1]⟩
      rw [nI_ltL (n := 1) (by omega) (by decide)] at h0
      have : ¬ k < 1 := h0
      omega
theorem op_salt (b : Nat) : B_salt (Inv b) b (b + 131) := by
  intro h I v
  have I0 := I
  obtain ⟨s, cd, c_stat, c_realm, c_book, c_law, c_kin, c_shi, c_roa, c_ord, c_han, c_wei, c_bag, c_pri, c_cnt, c_led, c_yea, c_log, c_rdr, c_msc, c_img⟩ := I
  have K0 : gK h b = (0, 8) := s.K 0 (by decide) rfl
  have K1 : gK h (b + 1) = (0, 1) := s.K 1 (by decide) rfl
  have K25 : gK h (b + 25) = (0, 7) := s.K 25 (by decide) rfl
  have K36 : gK h (b + 36) = (0, 6) := s.K 36 (by decide) rfl
  have K37 : gK h (b + 37) = (1, 12) := s.K 37 (by decide) rfl
  have K131 : gK h (b + 131) = (0, 9) := s.K 131 (by decide) rfl
  have K169 : gK h (b + 169) = (1, 12) := s.K 169 (by decide) rfl
  have R0_0 : gR h b 0 = some (b + 1) := s.R 0 0 rfl
  have R1_6 : gR h (b + 1) 6 = some (b + 25) := s.R 1 6 rfl
  have R25_5 : gR h (b + 25) 5 = some (b + 36) := s.R 25 5 rfl
  have R36_1 : gR h (b + 36) 1 = some (b + 37) := s.R 36 1 rfl
  have R131_64 : gR h (b + 131) 64 = some (b + 169) := s.R 131 64 rfl
  have cc := c_pri
  obtain ⟨n, hn, ⟨W, N⟩, MM, LL⟩ := cc
  by_cases hm : v = -1
  · subst hm
    have t1 : Sn [(36, 2, 3)] b h (sI h (b + 36) 2 0) := Sn.rf.put 36 2 0 (by decide)
    have t2 : Sn [(131, 0, 1), (131, 63, 64)] b (sI h (b + 36) 2 0) (sI (sI (sI h (b + 36) 2 0) (b + 131) 0 0) (b + 131) 63 0) := (Sn.rf.put 131 0 0 (by decide)).put 131 63 0 (by decide)
    have t := t1.app t2
    have n_pri : C_pri (sI (sI (sI h (b + 36) 2 0) (b + 131) 0 0) (b + 131) 63 0) b := by
      refine ⟨0, by omega, ⟨?_, ?_⟩, ?_, fun l hl => absurd hl (by omega)⟩
      · simp [gI_sI, W]
      · simp [gI_sI]; rfl
      · simp [gI_sI]; rfl
    refine both_mk (r := 0) ?_ t1 ?_ t2 ⟨s.sn t, cd.cg t, c_stat.cg t (by decide), c_realm.cg t (by decide), c_book.cg t (by decide), c_law.cg t (by decide), c_kin.cg t (by decide), c_shi.cg t (by decide), c_roa.cg t (by decide), c_ord.cg t (by decide), c_han.cg t (by decide), c_wei.cg t (by decide), c_bag.cg t (by decide), n_pri, c_cnt.cg t (by decide), c_led.cg t (by decide), c_yea.cg t (by decide), c_log.cg t (by decide), c_rdr.cg t (by decide), c_msc.cg t (by decide), c_img.cg t (by decide)⟩
    · simp [f_Tc_salt, f_Row_clear, bind_some', ldI, ldR, ldO, stI, stZ, stR, isO, wrA_n, rdA_n, wrA_l, rdA_l, gK_sI, gR_sI, gX_sI, gN_sI, gK_cp, gR_cp, gX_cp, gN_cp, rtZ_0, rtZ_1, if_true, reduceIte, and_self, true_and, and_true, K0, K1, K25, K36, R0_0, R1_6, R25_5]
    · simp [f_Mo_salt, bind_some', ldI, ldR, ldO, stI, stZ, stR, isO, wrA_n, rdA_n, wrA_l, rdA_l, gK_sI, gR_sI, gX_sI, gN_sI, gK_cp, gR_cp, gX_cp, gN_cp, rtZ_0, rtZ_1, if_true, reduceIte, and_self, true_and, and_true, K131]
  · rcases in_cases v 99 99 rfl (by omega) with ⟨k, l1, rfl, w1, i1⟩ | ⟨w1, i1⟩
    · have hp : ∀ x2 x3 x4, f_Row_put (b + 36) (nI k) x2 x3 x4 h = if n < 12 then some (nI (n + 1), sI (sI h (b + 37) n (nI k)) (b + 36) 2 (nI (n + 1))) else some (-1, h) := fun x2 x3 x4 => row_put1 (m := 12) (n := n) K36 R36_1 K37 W N (by omega) hn (by omega)
      have hne1 : ¬ nI k = -1 := nI_ne_m1 (by omega)
      by_cases hc : n < 12
      · have hne : ¬ n = 12 := by omega
        have t1 : Sn [(37, 0, 12), (36, 2, 3)] b h (sI (sI h (b + 37) n (nI k)) (b + 36) 2 (nI (n + 1))) := (Sn.rf.put 37 n (nI k) (inL_in (lo := 0) (hi := 12) (by decide) (by omega) hc)).put 36 2 (nI (n + 1)) (by decide)
        have t2 : Sn [(131, 0, 1), (169, 0, 12), (131, 63, 64)] b (sI (sI h (b + 37) n (nI k)) (b + 36) 2 (nI (n + 1))) (sI (sI (sI (sI (sI h (b + 37) n (nI k)) (b + 36) 2 (nI (n + 1))) (b + 131) 0 0) (b + 169) n (nI k)) (b + 131) 63 (nI (n + 1))) := ((Sn.rf.put 131 0 0 (by decide)).put 169 n (nI k) (inL_in (lo := 0) (hi := 12) (by decide) (by omega) hc)).put 131 63 (nI (n + 1)) (by decide)
        have t := t1.app t2
        have n0 : LisR 12 0 99 (gI (sI (sI (sI (sI (sI h (b + 37) n (nI k)) (b + 36) 2 (nI (n + 1))) (b + 131) 0 0) (b + 169) n (nI k)) (b + 131) 63 (nI (n + 1))) (b + 36)) (gI (sI (sI (sI (sI (sI h (b + 37) n (nI k)) (b + 36) 2 (nI (n + 1))) (b + 131) 0 0) (b + 169) n (nI k)) (b + 131) 63 (nI (n + 1))) (b + 37)) (gI (sI (sI (sI (sI (sI h (b + 37) n (nI k)) (b + 36) 2 (nI (n + 1))) (b + 131) 0 0) (b + 169) n (nI k)) (b + 131) 63 (nI (n + 1))) (b + 131) 63) (gI (sI (sI (sI (sI (sI h (b + 37) n (nI k)) (b + 36) 2 (nI (n + 1))) (b + 131) 0 0) (b + 169) n (nI k)) (b + 131) 63 (nI (n + 1))) (b + 169)) := by
          refine ⟨n + 1, by omega, ⟨?_, ?_⟩, ?_, fun l hl => ?_⟩
          · simp [gI_sI, W]
          · simp [gI_sI]
          · simp [gI_sI]
          · by_cases e : l = n
            · subst e
              exact ⟨k, by omega, by omega, by simp [gI_sI], by simp [gI_sI]⟩
            · obtain ⟨x, x1, x2, x3, x4⟩ := LL l (by omega)
              exact ⟨x, x1, x2, by simp [gI_sI, e, x3], by simp [gI_sI, e, x4]⟩
        have n_pri : C_pri (sI (sI (sI (sI (sI h (b + 37) n (nI k)) (b + 36) 2 (nI (n + 1))) (b + 131) 0 0) (b + 169) n (nI k)) (b + 131) 63 (nI (n + 1))) b := n0
        refine both_mk (r := nI (n + 1)) ?_ t1 ?_ t2 ⟨s.sn t, cd.cg t, c_stat.cg t (by decide), c_realm.cg t (by decide), c_book.cg t (by decide), c_law.cg t (by decide), c_kin.cg t (by decide), c_shi.cg t (by decide), c_roa.cg t (by decide), c_ord.cg t (by decide), c_han.cg t (by decide), c_wei.cg t (by decide), c_bag.cg t (by decide), n_pri, c_cnt.cg t (by decide), c_led.cg t (by decide), c_yea.cg t (by decide), c_log.cg t (by decide), c_rdr.cg t (by decide), c_msc.cg t (by decide), c_img.cg t (by decide)⟩
        · simp (disch := omega) [f_Tc_salt, hne1, w1, hp, hc, bind_some', ldI, ldR, ldO, stI, stZ, stR, isO, wrA_n, rdA_n, wrA_l, rdA_l, gK_sI, gR_sI, gX_sI, gN_sI, gK_cp, gR_cp, gX_cp, gN_cp, rtZ_0, rtZ_1, if_true, reduceIte, and_self, true_and, and_true, K0, K1, K25, K36, R0_0, R1_6, R25_5]
        · simp (disch := omega) [f_Mo_salt, hne1, i1, bind_some', ldI, ldR, ldO, stI, stZ, stR, isO, wrA_n, rdA_n, wrA_l, rdA_l, gK_sI, gR_sI, gX_sI, gN_sI, gK_cp, gR_cp, gX_cp, gN_cp, rtZ_0, rtZ_1, if_true, reduceIte, and_self, true_and, and_true, K131, K169, R131_64, gI_sI, MM, nI_eqL, hne, hc, nI_addL]
      · have hne : n = 12 := by omega
        subst hne
        exact both_ref I0 (r := -1) (by simp (disch := omega) [f_Tc_salt, hne1, w1, hp, bind_some', ldI, ldR, ldO, stI, stZ, stR, isO, wrA_n, rdA_n, wrA_l, rdA_l, gK_sI, gR_sI, gX_sI, gN_sI, gK_cp, gR_cp, gX_cp, gN_cp, rtZ_0, rtZ_1, if_true, reduceIte, and_self, true_and, and_true, K0, K1, K25, K36, R0_0, R1_6, R25_5]) (by simp (disch := omega) [f_Mo_salt, hne1, i1, bind_some', ldI, ldR, ldO, stI, stZ, stR, isO, wrA_n, rdA_n, wrA_l, rdA_l, gK_sI, gR_sI, gX_sI, gN_sI, gK_cp, gR_cp, gX_cp, gN_cp, rtZ_0, rtZ_1, if_true, reduceIte, and_self, true_and, and_true, K131, gI_sI, MM, nI_eqL])
    · exact both_ref I0 (r := -1) (by simp [f_Tc_salt, hm, w1, bind_some', ldI, ldR, ldO, stI, stZ, stR, isO, wrA_n, rdA_n, wrA_l, rdA_l, gK_sI, gR_sI, gX_sI, gN_sI, gK_cp, gR_cp, gX_cp, gN_cp, rtZ_0, rtZ_1, if_true, reduceIte, and_self, true_and, and_true]) (by simp [f_Mo_salt, hm, i1, bind_some', ldI, ldR, ldO, stI, stZ, stR, isO, wrA_n, rdA_n, wrA_l, rdA_l, gK_sI, gR_sI, gX_sI, gN_sI, gK_cp, gR_cp, gX_cp, gN_cp, rtZ_0, rtZ_1, if_true, reduceIte, and_self, true_and, and_true, K131])
theorem op_weight (b : Nat) : B_weight (Inv b) b (b + 131) := by
  intro h I v
  have I0 := I
  obtain ⟨s, cd, c_stat, c_realm, c_book, c_law, c_kin, c_shi, c_roa, c_ord, c_han, c_wei, c_bag, c_pri, c_cnt, c_led, c_yea, c_log, c_rdr, c_msc, c_img⟩ := I
  have K0 : gK h b = (0, 8) := s.K 0 (by decide) rfl
  have K1 : gK h (b + 1) = (0, 1) := s.K 1 (by decide) rfl
  have K25 : gK h (b + 25) = (0, 7) := s.K 25 (by decide) rfl
  have K30 : gK h (b + 30) = (0, 6) := s.K 30 (by decide) rfl
  have K31 : gK h (b + 31) = (1, 8) := s.K 31 (by decide) rfl
  have K131 : gK h (b + 131) = (0, 9) := s.K 131 (by decide) rfl
  have K161 : gK h (b + 161) = (1, 8) := s.K 161 (by decide) rfl
  have R0_0 : gR h b 0 = some (b + 1) := s.R 0 0 rfl
  have R1_6 : gR h (b + 1) 6 = some (b + 25) := s.R 1 6 rfl
  have R25_2 : gR h (b + 25) 2 = some (b + 30) := s.R 25 2 rfl
  have R30_1 : gR h (b + 30) 1 = some (b + 31) := s.R 30 1 rfl
  have R131_53 : gR h (b + 131) 53 = some (b + 161) := s.R 131 53 rfl
  have cc := c_wei
  obtain ⟨n, hn, ⟨W, N⟩, MM, LL⟩ := cc
  by_cases hm : v = -1
  · subst hm
    have t1 : Sn [(30, 2, 3)] b h (sI h (b + 30) 2 0) := Sn.rf.put 30 2 0 (by decide)
    have t2 : Sn [(131, 0, 1), (131, 52, 53)] b (sI h (b + 30) 2 0) (sI (sI (sI h (b + 30) 2 0) (b + 131) 0 0) (b + 131) 52 0) := (Sn.rf.put 131 0 0 (by decide)).put 131 52 0 (by decide)
    have t := t1.app t2
    have n_wei : C_wei (sI (sI (sI h (b + 30) 2 0) (b + 131) 0 0) (b + 131) 52 0) b := by
      refine ⟨0, by omega, ⟨?_, ?_⟩, ?_, fun l hl => absurd hl (by omega)⟩
      · simp [gI_sI, W]
      · simp [gI_sI]; rfl
      · simp [gI_sI]; rfl
    refine both_mk (r := 0) ?_ t1 ?_ t2 ⟨s.sn t, cd.cg t, c_stat.cg t (by decide), c_realm.cg t (by decide), c_book.cg t (by decide), c_law.cg t (by decide), c_kin.cg t (by decide), c_shi.cg t (by decide), c_roa.cg t (by decide), c_ord.cg t (by decide), c_han.cg t (by decide), n_wei, c_bag.cg t (by decide), c_pri.cg t (by decide), c_cnt.cg t (by decide), c_led.cg t (by decide), c_yea.cg t (by decide), c_log.cg t (by decide), c_rdr.cg t (by decide), c_msc.cg t (by decide), c_img.cg t (by decide)⟩
    · simp [f_Tc_weight, f_Row_clear, bind_some', ldI, ldR, ldO, stI, stZ, stR, isO, wrA_n, rdA_n, wrA_l, rdA_l, gK_sI, gR_sI, gX_sI, gN_sI, gK_cp, gR_cp, gX_cp, gN_cp, rtZ_0, rtZ_1, if_true, reduceIte, and_self, true_and, and_true, K0, K1, K25, K30, R0_0, R1_6, R25_2]
    · simp [f_Mo_weight, bind_some', ldI, ldR, ldO, stI, stZ, stR, isO, wrA_n, rdA_n, wrA_l, rdA_l, gK_sI, gR_sI, gX_sI, gN_sI, gK_cp, gR_cp, gX_cp, gN_cp, rtZ_0, rtZ_1, if_true, reduceIte, and_self, true_and, and_true, K131]
  · rcases in1_cases v 40 40 rfl (by omega) with ⟨k, l0, l1, rfl, w1, w2, i1⟩ | ⟨w1, i1⟩
    · have hp : ∀ x2 x3 x4, f_Row_put (b + 30) (nI k) x2 x3 x4 h = if n < 8 then some (nI (n + 1), sI (sI h (b + 31) n (nI k)) (b + 30) 2 (nI (n + 1))) else some (-1, h) := fun x2 x3 x4 => row_put1 (m := 8) (n := n) K30 R30_1 K31 W N (by omega) hn (by omega)
      have hne1 : ¬ nI k = -1 := nI_ne_m1 (by omega)
      by_cases hc : n < 8
      · have hne : ¬ n = 8 := by omega
        have t1 : Sn [(31, 0, 8), (30, 2, 3)] b h (sI (sI h (b + 31) n (nI k)) (b + 30) 2 (nI (n + 1))) := (Sn.rf.put 31 n (nI k) (inL_in (lo := 0) (hi := 8) (by decide) (by omega) hc)).put 30 2 (nI (n + 1)) (by decide)
        have t2 : Sn [(131, 0, 1), (161, 0, 8), (131, 52, 53)] b (sI (sI h (b + 31) n (nI k)) (b + 30) 2 (nI (n + 1))) (sI (sI (sI (sI (sI h (b + 31) n (nI k)) (b + 30) 2 (nI (n + 1))) (b + 131) 0 0) (b + 161) n (nI k)) (b + 131) 52 (nI (n + 1))) := ((Sn.rf.put 131 0 0 (by decide)).put 161 n (nI k) (inL_in (lo := 0) (hi := 8) (by decide) (by omega) hc)).put 131 52 (nI (n + 1)) (by decide)
        have t := t1.app t2
        have n0 : LisR 8 1 40 (gI (sI (sI (sI (sI (sI h (b + 31) n (nI k)) (b + 30) 2 (nI (n + 1))) (b + 131) 0 0) (b + 161) n (nI k)) (b + 131) 52 (nI (n + 1))) (b + 30)) (gI (sI (sI (sI (sI (sI h (b + 31) n (nI k)) (b + 30) 2 (nI (n + 1))) (b + 131) 0 0) (b + 161) n (nI k)) (b + 131) 52 (nI (n + 1))) (b + 31)) (gI (sI (sI (sI (sI (sI h (b + 31) n (nI k)) (b + 30) 2 (nI (n + 1))) (b + 131) 0 0) (b + 161) n (nI k)) (b + 131) 52 (nI (n + 1))) (b + 131) 52) (gI (sI (sI (sI (sI (sI h (b + 31) n (nI k)) (b + 30) 2 (nI (n + 1))) (b + 131) 0 0) (b + 161) n (nI k)) (b + 131) 52 (nI (n + 1))) (b + 161)) := by
          refine ⟨n + 1, by omega, ⟨?_, ?_⟩, ?_, fun l hl => ?_⟩
          · simp [gI_sI, W]
          · simp [gI_sI]
          · simp [gI_sI]
          · by_cases e : l = n
            · subst e
              exact ⟨k, by omega, by omega, by simp [gI_sI], by simp [gI_sI]⟩
            · obtain ⟨x, x1, x2, x3, x4⟩ := LL l (by omega)
              exact ⟨x, x1, x2, by simp [gI_sI, e, x3], by simp [gI_sI, e, x4]⟩
        have n_wei : C_wei (sI (sI (sI (sI (sI h (b + 31) n (nI k)) (b + 30) 2 (nI (n + 1))) (b + 131) 0 0) (b + 161) n (nI k)) (b + 131) 52 (nI (n + 1))) b := n0
        refine both_mk (r := nI (n + 1)) ?_ t1 ?_ t2 ⟨s.sn t, cd.cg t, c_stat.cg t (by decide), c_realm.cg t (by decide), c_book.cg t (by decide), c_law.cg t (by decide), c_kin.cg t (by decide), c_shi.cg t (by decide), c_roa.cg t (by decide), c_ord.cg t (by decide), c_han.cg t (by decide), n_wei, c_bag.cg t (by decide), c_pri.cg t (by decide), c_cnt.cg t (by decide), c_led.cg t (by decide), c_yea.cg t (by decide), c_log.cg t (by decide), c_rdr.cg t (by decide), c_msc.cg t (by decide), c_img.cg t (by decide)⟩
        · simp (disch := omega) [f_Tc_weight, hne1, w1, w2, hp, hc, bind_some', ldI, ldR, ldO, stI, stZ, stR, isO, wrA_n, rdA_n, wrA_l, rdA_l, gK_sI, gR_sI, gX_sI, gN_sI, gK_cp, gR_cp, gX_cp, gN_cp, rtZ_0, rtZ_1, if_true, reduceIte, and_self, true_and, and_true, K0, K1, K25, K30, R0_0, R1_6, R25_2]
        · simp (disch := omega) [f_Mo_weight, hne1, i1, bind_some', ldI, ldR, ldO, stI, stZ, stR, isO, wrA_n, rdA_n, wrA_l, rdA_l, gK_sI, gR_sI, gX_sI, gN_sI, gK_cp, gR_cp, gX_cp, gN_cp, rtZ_0, rtZ_1, if_true, reduceIte, and_self, true_and, and_true, K131, K161, R131_53, gI_sI, MM, nI_eqL, hne, hc, nI_addL]
      · have hne : n = 8 := by omega
        subst hne
        exact both_ref I0 (r := -1) (by simp (disch := omega) [f_Tc_weight, hne1, w1, w2, hp, bind_some', ldI, ldR, ldO, stI, stZ, stR, isO, wrA_n, rdA_n, wrA_l, rdA_l, gK_sI, gR_sI, gX_sI, gN_sI, gK_cp, gR_cp, gX_cp, gN_cp, rtZ_0, rtZ_1, if_true, reduceIte, and_self, true_and, and_true, K0, K1, K25, K30, R0_0, R1_6, R25_2]) (by simp (disch := omega) [f_Mo_weight, hne1, i1, bind_some', ldI, ldR, ldO, stI, stZ, stR, isO, wrA_n, rdA_n, wrA_l, rdA_l, gK_sI, gR_sI, gX_sI, gN_sI, gK_cp, gR_cp, gX_cp, gN_cp, rtZ_0, rtZ_1, if_true, reduceIte, and_self, true_and, and_true, K131, gI_sI, MM, nI_eqL])
    · rcases w1 with w1 | ⟨w1, w2⟩
      · exact both_ref I0 (r := -1) (by simp [f_Tc_weight, f_Tc_weight_30, hm, w1, bind_some', ldI, ldR, ldO, stI, stZ, stR, isO, wrA_n, rdA_n, wrA_l, rdA_l, gK_sI, gR_sI, gX_sI, gN_sI, gK_cp, gR_cp, gX_cp, gN_cp, rtZ_0, rtZ_1, if_true, reduceIte, and_self, true_and, and_true]) (by simp [f_Mo_weight, hm, i1, bind_some', ldI, ldR, ldO, stI, stZ, stR, isO, wrA_n, rdA_n, wrA_l, rdA_l, gK_sI, gR_sI, gX_sI, gN_sI, gK_cp, gR_cp, gX_cp, gN_cp, rtZ_0, rtZ_1, if_true, reduceIte, and_self, true_and, and_true, K131])
      · exact both_ref I0 (r := -1) (by simp [f_Tc_weight, f_Tc_weight_30, hm, w1, w2, bind_some', ldI, ldR, ldO, stI, stZ, stR, isO, wrA_n, rdA_n, wrA_l, rdA_l, gK_sI, gR_sI, gX_sI, gN_sI, gK_cp, gR_cp, gX_cp, gN_cp, rtZ_0, rtZ_1, if_true, reduceIte, and_self, true_and, and_true]) (by simp [f_Mo_weight, hm, i1, bind_some', ldI, ldR, ldO, stI, stZ, stR, isO, wrA_n, rdA_n, wrA_l, rdA_l, gK_sI, gR_sI, gX_sI, gN_sI, gK_cp, gR_cp, gX_cp, gN_cp, rtZ_0, rtZ_1, if_true, reduceIte, and_self, true_and, and_true, K131])
theorem op_bag (b : Nat) : B_bag (Inv b) b (b + 131) := by
  intro h I v
  have I0 := I
  obtain ⟨s, cd, c_stat, c_realm, c_book, c_law, c_kin, c_shi, c_roa, c_ord, c_han, c_wei, c_bag, c_pri, c_cnt, c_led, c_yea, c_log, c_rdr, c_msc, c_img⟩ := I
  have K0 : gK h b = (0, 8) := s.K 0 (by decide) rfl
  have K1 : gK h (b + 1) = (0, 1) := s.K 1 (by decide) rfl
  have K25 : gK h (b + 25) = (0, 7) := s.K 25 (by decide) rfl
  have K32 : gK h (b + 32) = (0, 6) := s.K 32 (by decide) rfl
  have K33 : gK h (b + 33) = (1, 10) := s.K 33 (by decide) rfl
  have K131 : gK h (b + 131) = (0, 9) := s.K 131 (by decide) rfl
  have K163 : gK h (b + 163) = (1, 10) := s.K 163 (by decide) rfl
  have K34 : gK h (b + 34) = (0, 6) := s.K 34 (by decide) rfl
  have R0_0 : gR h b 0 = some (b + 1) := s.R 0 0 rfl
  have R1_6 : gR h (b + 1) 6 = some (b + 25) := s.R 1 6 rfl
  have R25_3 : gR h (b + 25) 3 = some (b + 32) := s.R 25 3 rfl
  have R32_1 : gR h (b + 32) 1 = some (b + 33) := s.R 32 1 rfl
  have R131_57 : gR h (b + 131) 57 = some (b + 163) := s.R 131 57 rfl
  have R25_4 : gR h (b + 25) 4 = some (b + 34) := s.R 25 4 rfl
  have cc := c_bag.1
  have cw := c_bag.2
  obtain ⟨n, hn, ⟨W, N⟩, MM, LL⟩ := cc
  by_cases hm : v = -1
  · subst hm
    have t1 : Sn [(34, 2, 3), (32, 2, 3)] b h (sI (sI h (b + 34) 2 0) (b + 32) 2 0) := (Sn.rf.put 34 2 0 (by decide)).put 32 2 0 (by decide)
    have t2 : Sn [(131, 0, 1), (131, 55, 57)] b (sI (sI h (b + 34) 2 0) (b + 32) 2 0) (sI (sI (sI (sI (sI h (b + 34) 2 0) (b + 32) 2 0) (b + 131) 0 0) (b + 131) 55 0) (b + 131) 56 0) := ((Sn.rf.put 131 0 0 (by decide)).put 131 55 0 (by decide)).put 131 56 0 (by decide)
    have t := t1.app t2
    have n_bag : C_bag (sI (sI (sI (sI (sI h (b + 34) 2 0) (b + 32) 2 0) (b + 131) 0 0) (b + 131) 55 0) (b + 131) 56 0) b := by
      obtain ⟨nw, hw, ⟨W2, N2⟩, M2, L2⟩ := cw
      refine ⟨⟨0, by omega, ⟨?_, ?_⟩, ?_, fun l hl => absurd hl (by omega)⟩, ⟨0, by omega, ⟨?_, ?_⟩, ?_, fun l hl => absurd hl (by omega)⟩⟩
      · simp [gI_sI, W]
      · simp [gI_sI]; rfl
      · simp [gI_sI]; rfl
      · simp [gI_sI, W2]
      · simp [gI_sI]; rfl
      · simp [gI_sI]; rfl
    refine both_mk (r := 0) ?_ t1 ?_ t2 ⟨s.sn t, cd.cg t, c_stat.cg t (by decide), c_realm.cg t (by decide), c_book.cg t (by decide), c_law.cg t (by decide), c_kin.cg t (by decide), c_shi.cg t (by decide), c_roa.cg t (by decide), c_ord.cg t (by decide), c_han.cg t (by decide), c_wei.cg t (by decide), n_bag, c_pri.cg t (by decide), c_cnt.cg t (by decide), c_led.cg t (by decide), c_yea.cg t (by decide), c_log.cg t (by decide), c_rdr.cg t (by decide), c_msc.cg t (by decide), c_img.cg t (by decide)⟩
    · simp [f_Tc_bag, f_Row_clear, bind_some', ldI, ldR, ldO, stI, stZ, stR, isO, wrA_n, rdA_n, wrA_l, rdA_l, gK_sI, gR_sI, gX_sI, gN_sI, gK_cp, gR_cp, gX_cp, gN_cp, rtZ_0, rtZ_1, if_true, reduceIte, and_self, true_and, and_true, K0, K1, K25, K32, K34, R0_0, R1_6, R25_3, R25_4]
    · simp [f_Mo_bag, bind_some', ldI, ldR, ldO, stI, stZ, stR, isO, wrA_n, rdA_n, wrA_l, rdA_l, gK_sI, gR_sI, gX_sI, gN_sI, gK_cp, gR_cp, gX_cp, gN_cp, rtZ_0, rtZ_1, if_true, reduceIte, and_self, true_and, and_true, K131]
  · rcases in1_cases v 99 99 rfl (by omega) with ⟨k, l0, l1, rfl, w1, w2, i1⟩ | ⟨w1, i1⟩
    · have hp : ∀ x2 x3 x4, f_Row_put (b + 32) (nI k) x2 x3 x4 h = if n < 10 then some (nI (n + 1), sI (sI h (b + 33) n (nI k)) (b + 32) 2 (nI (n + 1))) else some (-1, h) := fun x2 x3 x4 => row_put1 (m := 10) (n := n) K32 R32_1 K33 W N (by omega) hn (by omega)
      have hne1 : ¬ nI k = -1 := nI_ne_m1 (by omega)
      by_cases hc : n < 10
      · have hne : ¬ n = 10 := by omega
        have t1 : Sn [(33, 0, 10), (32, 2, 3)] b h (sI (sI h (b + 33) n (nI k)) (b + 32) 2 (nI (n + 1))) := (Sn.rf.put 33 n (nI k) (inL_in (lo := 0) (hi := 10) (by decide) (by omega) hc)).put 32 2 (nI (n + 1)) (by decide)
        have t2 : Sn [(131, 0, 1), (163, 0, 10), (131, 55, 56)] b (sI (sI h (b + 33) n (nI k)) (b + 32) 2 (nI (n + 1))) (sI (sI (sI (sI (sI h (b + 33) n (nI k)) (b + 32) 2 (nI (n + 1))) (b + 131) 0 0) (b + 163) n (nI k)) (b + 131) 55 (nI (n + 1))) := ((Sn.rf.put 131 0 0 (by decide)).put 163 n (nI k) (inL_in (lo := 0) (hi := 10) (by decide) (by omega) hc)).put 131 55 (nI (n + 1)) (by decide)
        have t := t1.app t2
        have n0 : LisR 10 1 99 (gI (sI (sI (sI (sI (sI h (b + 33) n (nI k)) (b + 32) 2 (nI (n + 1))) (b + 131) 0 0) (b + 163) n (nI k)) (b + 131) 55 (nI (n + 1))) (b + 32)) (gI (sI (sI (sI (sI (sI h (b + 33) n (nI k)) (b + 32) 2 (nI (n + 1))) (b + 131) 0 0) (b + 163) n (nI k)) (b + 131) 55 (nI (n + 1))) (b + 33)) (gI (sI (sI (sI (sI (sI h (b + 33) n (nI k)) (b + 32) 2 (nI (n + 1))) (b + 131) 0 0) (b + 163) n (nI k)) (b + 131) 55 (nI (n + 1))) (b + 131) 55) (gI (sI (sI (sI (sI (sI h (b + 33) n (nI k)) (b + 32) 2 (nI (n + 1))) (b + 131) 0 0) (b + 163) n (nI k)) (b + 131) 55 (nI (n + 1))) (b + 163)) := by
          refine ⟨n + 1, by omega, ⟨?_, ?_⟩, ?_, fun l hl => ?_⟩
          · simp [gI_sI, W]
          · simp [gI_sI]
          · simp [gI_sI]
          · by_cases e : l = n
            · subst e
              exact ⟨k, by omega, by omega, by simp [gI_sI], by simp [gI_sI]⟩
            · obtain ⟨x, x1, x2, x3, x4⟩ := LL l (by omega)
              exact ⟨x, x1, x2, by simp [gI_sI, e, x3], by simp [gI_sI, e, x4]⟩
        have n_bag : C_bag (sI (sI (sI (sI (sI h (b + 33) n (nI k)) (b + 32) 2 (nI (n + 1))) (b + 131) 0 0) (b + 163) n (nI k)) (b + 131) 55 (nI (n + 1))) b := by
          refine ⟨n0, ?_⟩
          have e55 : gI (sI (sI (sI (sI (sI h (b + 33) n (nI k)) (b + 32) 2 (nI (n + 1))) (b + 131) 0 0) (b + 163) n (nI k)) (b + 131) 55 (nI (n + 1))) (b + 131) 55 = nI (n + 1) := by simp [gI_sI]
          rw [e55, tn_nI (by omega)]
          rw [MM, tn_nI (by omega)] at cw
          have e56 : gI (sI (sI (sI (sI (sI h (b + 33) n (nI k)) (b + 32) 2 (nI (n + 1))) (b + 131) 0 0) (b + 163) n (nI k)) (b + 131) 55 (nI (n + 1))) (b + 131) 56 = gI h (b + 131) 56 := by simp [gI_sI]
          rw [e56]
          have e34 : ∀ q, q = 34 ∨ q = 35 ∨ q = 164 ∨ q = 165 → gI (sI (sI (sI (sI (sI h (b + 33) n (nI k)) (b + 32) 2 (nI (n + 1))) (b + 131) 0 0) (b + 163) n (nI k)) (b + 131) 55 (nI (n + 1))) (b + q) = gI h (b + q) := by
            rintro q (rfl | rfl | rfl | rfl) <;> (funext j; simp [gI_sI])
          rw [e34 34 (by simp), e34 35 (by simp), e34 164 (by simp), e34 165 (by simp)]
          obtain ⟨nw, hw, WN, M2, L2⟩ := cw
          refine ⟨nw, hw, WN, M2, fun l hl => ?_⟩
          obtain ⟨x, y, y1, y2, y3⟩ := L2 l hl
          exact ⟨x, y, Nat.lt_trans y1 (Nat.pow_lt_pow_right (by omega) (by omega)), y2, y3⟩
        refine both_mk (r := nI (n + 1)) ?_ t1 ?_ t2 ⟨s.sn t, cd.cg t, c_stat.cg t (by decide), c_realm.cg t (by decide), c_book.cg t (by decide), c_law.cg t (by decide), c_kin.cg t (by decide), c_shi.cg t (by decide), c_roa.cg t (by decide), c_ord.cg t (by decide), c_han.cg t (by decide), c_wei.cg t (by decide), n_bag, c_pri.cg t (by decide), c_cnt.cg t (by decide), c_led.cg t (by decide), c_yea.cg t (by decide), c_log.cg t (by decide), c_rdr.cg t (by decide), c_msc.cg t (by decide), c_img.cg t (by decide)⟩
        · simp (disch := omega) [f_Tc_bag, hne1, w1, w2, hp, hc, bind_some', ldI, ldR, ldO, stI, stZ, stR, isO, wrA_n, rdA_n, wrA_l, rdA_l, gK_sI, gR_sI, gX_sI, gN_sI, gK_cp, gR_cp, gX_cp, gN_cp, rtZ_0, rtZ_1, if_true, reduceIte, and_self, true_and, and_true, K0, K1, K25, K32, R0_0, R1_6, R25_3]
        · simp (disch := omega) [f_Mo_bag, hne1, i1, bind_some', ldI, ldR, ldO, stI, stZ, stR, isO, wrA_n, rdA_n, wrA_l, rdA_l, gK_sI, gR_sI, gX_sI, gN_sI, gK_cp, gR_cp, gX_cp, gN_cp, rtZ_0, rtZ_1, if_true, reduceIte, and_self, true_and, and_true, K131, K163, R131_57, gI_sI, MM, nI_eqL, hne, hc, nI_addL]
      · have hne : n = 10 := by omega
        subst hne
        exact both_ref I0 (r := -1) (by simp (disch := omega) [f_Tc_bag, hne1, w1, w2, hp, bind_some', ldI, ldR, ldO, stI, stZ, stR, isO, wrA_n, rdA_n, wrA_l, rdA_l, gK_sI, gR_sI, gX_sI, gN_sI, gK_cp, gR_cp, gX_cp, gN_cp, rtZ_0, rtZ_1, if_true, reduceIte, and_self, true_and, and_true, K0, K1, K25, K32, R0_0, R1_6, R25_3]) (by simp (disch := omega) [f_Mo_bag, hne1, i1, bind_some', ldI, ldR, ldO, stI, stZ, stR, isO, wrA_n, rdA_n, wrA_l, rdA_l, gK_sI, gR_sI, gX_sI, gN_sI, gK_cp, gR_cp, gX_cp, gN_cp, rtZ_0, rtZ_1, if_true, reduceIte, and_self, true_and, and_true, K131, gI_sI, MM, nI_eqL])
    · rcases w1 with w1 | ⟨w1, w2⟩
      · exact both_ref I0 (r := -1) (by simp [f_Tc_bag, f_Tc_bag_44, hm, w1, bind_some', ldI, ldR, ldO, stI, stZ, stR, isO, wrA_n, rdA_n, wrA_l, rdA_l, gK_sI, gR_sI, gX_sI, gN_sI, gK_cp, gR_cp, gX_cp, gN_cp, rtZ_0, rtZ_1, if_true, reduceIte, and_self, true_and, and_true]) (by simp [f_Mo_bag, hm, i1, bind_some', ldI, ldR, ldO, stI, stZ, stR, isO, wrA_n, rdA_n, wrA_l, rdA_l, gK_sI, gR_sI, gX_sI, gN_sI, gK_cp, gR_cp, gX_cp, gN_cp, rtZ_0, rtZ_1, if_true, reduceIte, and_self, true_and, and_true, K131])
      · exact both_ref I0 (r := -1) (by simp [f_Tc_bag, f_Tc_bag_44, hm, w1, w2, bind_some', ldI, ldR, ldO, stI, stZ, stR, isO, wrA_n, rdA_n, wrA_l, rdA_l, gK_sI, gR_sI, gX_sI, gN_sI, gK_cp, gR_cp, gX_cp, gN_cp, rtZ_0, rtZ_1, if_true, reduceIte, and_self, true_and, and_true]) (by simp [f_Mo_bag, hm, i1, bind_some', ldI, ldR, ldO, stI, stZ, stR, isO, wrA_n, rdA_n, wrA_l, rdA_l, gK_sI, gR_sI, gX_sI, gN_sI, gK_cp, gR_cp, gX_cp, gN_cp, rtZ_0, rtZ_1, if_true, reduceIte, and_self, true_and, and_true, K131])
