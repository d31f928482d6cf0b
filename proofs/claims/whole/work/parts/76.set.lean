/-! ===== set ===== -/
theorem C_realm_mk {h h2 : PH} {b : Nat} (c : C_realm h b) (e6 : gI h2 (b + 131) 6 = gI h (b + 131) 6) (e7 : gI h2 (b + 131) 7 = gI h (b + 131) 7) (eF : ∀ j, j < 20 → gI h2 (b + 2) j = gI h (b + 2) j) (eG : ∀ j, (j < 7 ∨ (43 ≤ j ∧ j < 67)) → gI h2 (b + 132) j = gI h (b + 132) j)
    (r4 : ∀ t, t < ntOf h b → (∃ x, x ≤ 9999 ∧ gI h2 (b + 132) (7 + t) = nI x) ∧ (∃ x, x ≤ 99 ∧ gI h2 (b + 132) (19 + t) = nI x) ∧ (∃ x, x ≤ 4 ∧ gI h2 (b + 132) (31 + t) = nI x)) (r5 : ∀ o, o < noOf h b → (∃ x, x < 4 ∧ gI h2 (b + 132) (67 + o) = nI x) ∧ ∃ x, x ≤ 9 ∧ gI h2 (b + 132) (73 + o) = nI x)
    (RT' : ∀ t, t < ntOf h b → gI h2 (b + 3) t = gI h2 (b + 135) t ∧ gI h2 (b + 4) t = gI h2 (b + 136) t ∧ gI h2 (b + 5) t = gI h2 (b + 132) (7 + t) ∧ gI h2 (b + 6) t = gI h2 (b + 132) (19 + t) ∧ gI h2 (b + 7) t = gI h2 (b + 132) (31 + t) - 1)
    (RO' : ∀ o, o < noOf h b → gI h2 (b + 8) o = gI h2 (b + 132) (67 + o) ∧ gI h2 (b + 9) o = gI h2 (b + 137) o ∧ gI h2 (b + 10) o = gI h2 (b + 138) o ∧ gI h2 (b + 11) o = gI h2 (b + 132) (73 + o)) : C_realm h2 b := by
  obtain ⟨⟨hnt, hno⟩, ⟨r1, r2, r3, r4', r5'⟩, F1, F9, F0, F15, F16, F17, F18, F19, F14, F7, F8, RT, RO⟩ := c
  have en : ntOf h2 b = ntOf h b := by unfold ntOf; rw [e6]
  have em : noOf h2 b = noOf h b := by unfold noOf; rw [e7]
  unfold C_realm RealmAt RlR
  rw [en, em]
  refine ⟨⟨hnt, hno⟩, ⟨?_, ?_, ?_, fun k hk => ?_, fun o ho => r5 o ho⟩, ?_, ?_, ?_, ?_, ?_, ?_, ?_, ?_, ?_, ?_, ?_, RT', RO'⟩
  · rw [eG 0 (by omega)]; exact r1
  · rw [eG 2 (by omega)]; exact r2
  · rw [eG 6 (by omega)]; exact r3
  · obtain ⟨a1, a2, a3⟩ := r4 k hk
    refine ⟨a1, a2, a3, ?_, ?_⟩
    · rw [eG _ (by omega)]; exact (r4' k hk).2.2.2.1
    · rw [eG _ (by omega)]; exact (r4' k hk).2.2.2.2
  · rw [eF 1 (by omega)]; exact F1
  · rw [eF 9 (by omega)]; exact F9
  · rw [eF 0 (by omega), eG 1 (by omega)]; exact F0
  · rw [eF 15 (by omega), eG 3 (by omega)]; exact F15
  · rw [eF 16 (by omega), eG 4 (by omega)]; exact F16
  · rw [eF 17 (by omega), eG 5 (by omega)]; exact F17
  · rw [eF 18 (by omega), eG 0 (by omega)]; exact F18
  · rw [eF 19 (by omega), eG 2 (by omega)]; exact F19
  · rw [eF 14 (by omega), eG 6 (by omega)]; exact F14
  · rw [eF 7 (by omega), bs_cg (q := fun t => gI h (b + 132) (43 + t) == 1) (fun k hk => by rw [eG _ (by omega)])]; exact F7
  · rw [eF 8 (by omega), bs_cg (q := fun t => gI h (b + 132) (55 + t) == 1) (fun k hk => by rw [eG _ (by omega)])]; exact F8
theorem op_set (b : Nat) : B_set (Inv b) b (b + 131) := by
  intro h I v1 v2 v3
  have I0 := I
  obtain ⟨s, cd, c_stat, c_realm, c_book, c_law, c_kin, c_shi, c_roa, c_ord, c_han, c_wei, c_bag, c_pri, c_cnt, c_led, c_yea, c_log, c_rdr, c_msc, c_img⟩ := I
  have K0 : gK h b = (0, 8) := s.K 0 (by decide) rfl
  have K1 : gK h (b + 1) = (0, 1) := s.K 1 (by decide) rfl
  have K2 : gK h (b + 2) = (0, 5) := s.K 2 (by decide) rfl
  have K4 : gK h (b + 4) = (1, 12) := s.K 4 (by decide) rfl
  have K5 : gK h (b + 5) = (1, 12) := s.K 5 (by decide) rfl
  have K6 : gK h (b + 6) = (1, 12) := s.K 6 (by decide) rfl
  have K10 : gK h (b + 10) = (1, 6) := s.K 10 (by decide) rfl
  have K11 : gK h (b + 11) = (1, 6) := s.K 11 (by decide) rfl
  have K40 : gK h (b + 40) = (0, 3) := s.K 40 (by decide) rfl
  have K131 : gK h (b + 131) = (0, 9) := s.K 131 (by decide) rfl
  have K132 : gK h (b + 132) = (1, 79) := s.K 132 (by decide) rfl
  have K136 : gK h (b + 136) = (1, 12) := s.K 136 (by decide) rfl
  have K138 : gK h (b + 138) = (1, 6) := s.K 138 (by decide) rfl
  have R0_0 : gR h b 0 = some (b + 1) := s.R 0 0 rfl
  have R0_1 : gR h b 1 = some (b + 40) := s.R 0 1 rfl
  have R1_0 : gR h (b + 1) 0 = some (b + 2) := s.R 1 0 rfl
  have R2_3 : gR h (b + 2) 3 = some (b + 4) := s.R 2 3 rfl
  have R2_4 : gR h (b + 2) 4 = some (b + 5) := s.R 2 4 rfl
  have R2_5 : gR h (b + 2) 5 = some (b + 6) := s.R 2 5 rfl
  have R2_12 : gR h (b + 2) 12 = some (b + 10) := s.R 2 12 rfl
  have R2_13 : gR h (b + 2) 13 = some (b + 11) := s.R 2 13 rfl
  have R131_1 : gR h (b + 131) 1 = some (b + 132) := s.R 131 1 rfl
  have R131_9 : gR h (b + 131) 9 = some (b + 136) := s.R 131 9 rfl
  have R131_11 : gR h (b + 131) 11 = some (b + 138) := s.R 131 11 rfl
  have cr := c_realm
  obtain ⟨⟨hnt, hno⟩, ro, F1, F9, F0, F15, F16, F17, F18, F19, F14, F7, F8, RT, RO⟩ := cr
  have RT : ∀ t, t < ntOf h b → gI h (b + 3) t = gI h (b + 135) t ∧ gI h (b + 4) t = gI h (b + 136) t ∧ gI h (b + 5) t = gI h (b + 132) (7 + t) ∧ gI h (b + 6) t = gI h (b + 132) (19 + t) ∧ gI h (b + 7) t = gI h (b + 132) (31 + t) - 1 := RT
  have RO : ∀ o, o < noOf h b → gI h (b + 8) o = gI h (b + 132) (67 + o) ∧ gI h (b + 9) o = gI h (b + 137) o ∧ gI h (b + 10) o = gI h (b + 138) o ∧ gI h (b + 11) o = gI h (b + 132) (73 + o) := RO
  have hN6 : gI h (b + 131) 6 = nI (ntOf h b) := c_stat.1
  have hN7 : gI h (b + 131) 7 = nI (noOf h b) := c_stat.2.1
  obtain ⟨g, hg⟩ : ∃ g, g = sI h (b + 131) 0 0 := ⟨_, rfl⟩
  have e01 : ¬ (0 : Int32) = 1 := by decide
  have e10 : ¬ (1 : Int32) = 0 := by decide
  have g6 : gI g (b + 131) 6 = nI (ntOf h b) := by rw [hg]; simp (disch := omega) only [gI_q, gI_n1, gI_n2]; exact hN6
  have g7 : gI g (b + 131) 7 = nI (noOf h b) := by rw [hg]; simp (disch := omega) only [gI_q, gI_n1, gI_n2]; exact hN7
  have Kg : gK g (b + 131) = (0, 9) := by rw [hg]; exact K131
  obtain ⟨ro1, ro2, ro3, ro4, ro5⟩ := ro
  have kx : ∀ k, (nI k).toInt = (k : Int) ∨ 2147483648 ≤ k := fun k => by
    by_cases q : k < 2147483648
    · exact Or.inl (iI_toInt (z := (k : Int)) (by omega) (by omega))
    · exact Or.inr (by omega)
  by_cases hv0 : v1 = 0
  · subst hv0
    have ia : ∀ a h, f_Mo_isIn a (0 : Int32) 0 2 h = some (1, h) := fun a h => rfl
    rcases tra_cases v2 (ntOf h b) hnt with ⟨w, ht, rfl, u1, i1⟩ | ⟨u1, i1⟩
    case inr =>
      refine both_ref I0 (r := 0) ?_ ?_
      · have u := u1 (b + 2) h K2 F1
        simp [f_Tc_set, f_Tc_set_34, f_Realm_tellTraveller, f_Realm_tellTraveller_31, f_Realm_tellTraveller_79, show (0 : Int32) < 3 from by decide, ↓ob_eq, ob_so, ldI, ldR, ldO, stI, stZ, stR, isO, wrA_n, rdA_n, wrA_l, rdA_l, gK_sI, gR_sI, gX_sI, gN_sI, gK_cp, gR_cp, gX_cp, gN_cp, rtZ_0, rtZ_1, if_true, reduceIte, and_self, true_and, and_true, K0, K1, K2, R0_0, R1_0, u]
      · have i := i1 (b + 131) g Kg g6
        rw [← hg]
        simp [f_Mo_set, f_Mo_set_31, f_Mo_set_46, f_Mo_set_58, f_Mo_set_73, f_Mo_set_85, f_Mo_canSet, f_Mo_canSet_43, ia, ↓ob_eq, ob_so, ldI, ldR, ldO, stI, stZ, stR, isO, wrA_n, rdA_n, wrA_l, rdA_l, gK_sI, gR_sI, gX_sI, gN_sI, gK_cp, gR_cp, gX_cp, gN_cp, rtZ_0, rtZ_1, if_true, reduceIte, and_self, true_and, and_true, K131, ← hg, Kg, i]
    have u := u1 (b + 2) h K2 F1
    have i := i1 (b + 131) g Kg g6
    rcases in_cases v3 9999 9999 rfl (by omega) with ⟨x, hx, rfl, u2, i2⟩ | ⟨u2, i2⟩
    case inr =>
      refine both_ref I0 (r := 0) ?_ ?_
      · simp [f_Tc_set, f_Tc_set_34, f_Realm_tellTraveller, f_Realm_tellTraveller_31, f_Realm_tellTraveller_79, show (0 : Int32) < 3 from by decide, ↓ob_eq, ob_so, ldI, ldR, ldO, stI, stZ, stR, isO, wrA_n, rdA_n, wrA_l, rdA_l, gK_sI, gR_sI, gX_sI, gN_sI, gK_cp, gR_cp, gX_cp, gN_cp, rtZ_0, rtZ_1, if_true, reduceIte, and_self, true_and, and_true, K0, K1, K2, R0_0, R1_0, u, u2]
      · rw [← hg]
        simp [f_Mo_set, f_Mo_set_31, f_Mo_set_46, f_Mo_set_58, f_Mo_set_73, f_Mo_set_85, f_Mo_canSet, f_Mo_canSet_43, ia, ↓ob_eq, ob_so, ldI, ldR, ldO, stI, stZ, stR, isO, wrA_n, rdA_n, wrA_l, rdA_l, gK_sI, gR_sI, gX_sI, gN_sI, gK_cp, gR_cp, gX_cp, gN_cp, rtZ_0, rtZ_1, if_true, reduceIte, and_self, true_and, and_true, K131, ← hg, Kg, i, i2]
    have tN : w < 12 := by omega
    have aB : 7 + w < 79 := by omega
    obtain ⟨h1, hh1⟩ : ∃ h1, h1 = sI (sI h (b + 5) w (nI x)) (b + 40) 2 0 := ⟨_, rfl⟩
    obtain ⟨h2, hh2⟩ : ∃ h2, h2 = sI (sI (sI h1 (b + 131) 0 0) (b + 132) (7 + w) (nI x)) (b + 131) 3 0 := ⟨_, rfl⟩
    have t1 : Sn [(5, 0, 12), (40, 2, 3)] b h h1 := by
      rw [hh1]
      exact (Sn.rf.put 5 w _ (inL_in (lo := 0) (hi := 12) (by decide) (by omega) tN)).put 40 2 _ (by decide)
    have t2 : Sn [(131, 0, 1), (132, 7, 19), (131, 3, 4)] b h1 h2 := by
      rw [hh2]
      exact ((Sn.rf.put 131 0 _ (by decide)).put 132 _ _ (inL_in (lo := 7) (hi := 19) (by decide) (by omega) (by omega))).put 131 3 _ (by decide)
    have t := t1.app t2
    have KA := K5
    have i1h := i1 (b + 131) (sI h1 (b + 131) 0 0) (by show gK h1 (b + 131) = (0, 9); rw [t1.1]; exact K131) (by rw [gI_n2 (by omega), t1.I (by decide)]; exact hN6)
    refine both_mk (r := 1) (h1 := h1) (h2 := h2) ?_ t1 ?_ t2 ?_
    · rw [hh1]
      simp (disch := omega) [f_Tc_set, f_Tc_set_34, f_Log_forget, f_Realm_tellTraveller, f_Realm_tellTraveller_31, f_Realm_tellTraveller_79, show (0 : Int32) < 3 from by decide, ↓ob_eq, ob_so, ldI, ldR, ldO, stI, stZ, stR, isO, wrA_n, rdA_n, wrA_l, rdA_l, gK_sI, gR_sI, gX_sI, gN_sI, gK_cp, gR_cp, gX_cp, gN_cp, rtZ_0, rtZ_1, if_true, reduceIte, and_self, true_and, and_true, K0, K1, K2, KA, K40, R0_0, R0_1, R1_0, R2_4, u, u2, tN]
    · have kk : gK h1 (b + 131) = (0, 9) := by rw [t1.1]; exact K131
      have k2 : gK h1 (b + 132) = (1, 79) := by rw [t1.1]; exact K132
      have rr : gR h1 (b + 131) 1 = some (b + 132) := by rw [t1.2.1]; exact R131_1
      rw [hh2]
      simp (disch := omega) [f_Mo_set, f_Mo_set_31, f_Mo_set_46, f_Mo_set_58, f_Mo_set_73, f_Mo_set_85, f_Mo_canSet, f_Mo_canSet_43, ia, ↓ob_eq, ob_so, ldI, ldR, ldO, stI, stZ, stR, isO, wrA_n, rdA_n, wrA_l, rdA_l, gK_sI, gR_sI, gX_sI, gN_sI, gK_cp, gR_cp, gX_cp, gN_cp, rtZ_0, rtZ_1, if_true, reduceIte, and_self, true_and, and_true, kk, k2, rr, i1h, i2, tN, aB, L_addn]
    · have n_log : C_log h2 b := by
        refine C_log_0 (by unfold ntOf; rw [t.I (by decide)]; exact hnt) (by unfold noOf; rw [t.I (by decide)]; exact hno) ?_ ?_ ?_
        · rw [t.I (by decide)]; exact c_log.nx
        · rw [hh2, hh1]; simp [gI_sI]
        · rw [hh2, hh1]; simp [gI_sI]
      have f3 : ∀ j, gI h2 (b + 3) j = gI h (b + 3) j := fun j => by rw [hh2, hh1]; simp [gI_sI]
      have f4 : ∀ j, gI h2 (b + 4) j = gI h (b + 4) j := fun j => by rw [hh2, hh1]; simp [gI_sI]
      have f5 : ∀ j, gI h2 (b + 5) j = if j = w then nI x else gI h (b + 5) j := fun j => by rw [hh2, hh1]; simp [gI_sI]
      have f6 : ∀ j, gI h2 (b + 6) j = gI h (b + 6) j := fun j => by rw [hh2, hh1]; simp [gI_sI]
      have f7 : ∀ j, gI h2 (b + 7) j = gI h (b + 7) j := fun j => by rw [hh2, hh1]; simp [gI_sI]
      have f8 : ∀ j, gI h2 (b + 8) j = gI h (b + 8) j := fun j => by rw [hh2, hh1]; simp [gI_sI]
      have f9 : ∀ j, gI h2 (b + 9) j = gI h (b + 9) j := fun j => by rw [hh2, hh1]; simp [gI_sI]
      have f10 : ∀ j, gI h2 (b + 10) j = gI h (b + 10) j := fun j => by rw [hh2, hh1]; simp [gI_sI]
      have f11 : ∀ j, gI h2 (b + 11) j = gI h (b + 11) j := fun j => by rw [hh2, hh1]; simp [gI_sI]
      have f135 : ∀ j, gI h2 (b + 135) j = gI h (b + 135) j := fun j => by rw [hh2, hh1]; simp [gI_sI]
      have f136 : ∀ j, gI h2 (b + 136) j = gI h (b + 136) j := fun j => by rw [hh2, hh1]; simp [gI_sI]
      have f137 : ∀ j, gI h2 (b + 137) j = gI h (b + 137) j := fun j => by rw [hh2, hh1]; simp [gI_sI]
      have f138 : ∀ j, gI h2 (b + 138) j = gI h (b + 138) j := fun j => by rw [hh2, hh1]; simp [gI_sI]
      have f132 : ∀ j, gI h2 (b + 132) j = if j = 7 + w then nI x else gI h (b + 132) j := fun j => by rw [hh2, hh1]; simp [gI_sI]
      have n_realm : C_realm h2 b := by
        refine C_realm_mk c_realm (t.I (by decide)) (t.I (by decide)) (fun j hj => t.2.2.2.2 2 j (by simp [inL])) (fun j hj => by rw [f132, if_neg (by omega)]) (fun k hk => ?_) (fun o ho => ?_) (fun k hk => ?_) (fun o ho => ?_)
        · obtain ⟨a1, a2, a3, _⟩ := ro4 k hk
          rw [f132, f132, f132, if_neg (show ¬ 31 + k = 7 + w by omega)]
          rw [if_neg (show ¬ 19 + k = 7 + w by omega)]
          refine ⟨?_, a2, a3⟩
          by_cases y : k = w
          · rw [if_pos (by omega)]; exact ⟨x, hx, rfl⟩
          · rw [if_neg (by omega)]; exact a1
        · rw [f132, f132, if_neg (by omega), if_neg (by omega)]; exact ro5 o ho
        · obtain ⟨a1, a2, a3, a4, a5⟩ := RT k hk
          rw [f3, f4, f5, f6, f7, f135, f136, f132, f132, f132]
          by_cases y : k = w
          · rw [if_neg (show ¬ 31 + k = 7 + w by omega), if_neg (show ¬ 19 + k = 7 + w by omega), if_pos y, if_pos (show 7 + k = 7 + w by omega)]; exact ⟨a1, a2, rfl, a4, a5⟩
          · rw [if_neg (show ¬ 31 + k = 7 + w by omega), if_neg (show ¬ 19 + k = 7 + w by omega), if_neg y, if_neg (show ¬ 7 + k = 7 + w by omega)]; exact ⟨a1, a2, a3, a4, a5⟩
        · obtain ⟨a1, a2, a3, a4⟩ := RO o ho
          rw [f8, f9, f10, f11, f137, f138, f132, f132]
          rw [if_neg (by omega), if_neg (by omega)]
          exact ⟨a1, a2, a3, a4⟩
      exact ⟨s.sn t, cd.cg t, c_stat.cg t (by decide), n_realm, c_book.cg t (by decide), c_law.cg t (by decide), c_kin.cg t (by decide), c_shi.cg t (by decide), c_roa.cg t (by decide), c_ord.cg t (by decide), c_han.cg t (by decide), c_wei.cg t (by decide), c_bag.cg t (by decide), c_pri.cg t (by decide), c_cnt.cg t (by decide), c_led.cg t (by decide), c_yea.cg t (by decide), n_log, c_rdr.cg t (by decide), c_msc.cg t (by decide), c_img.cg t (by decide)⟩
  by_cases hv1 : v1 = 1
  · subst hv1
    have ia : ∀ a h, f_Mo_isIn a (1 : Int32) 0 2 h = some (1, h) := fun a h => rfl
    rcases tra_cases v2 (ntOf h b) hnt with ⟨w, ht, rfl, u1, i1⟩ | ⟨u1, i1⟩
    case inr =>
      refine both_ref I0 (r := 0) ?_ ?_
      · have u := u1 (b + 2) h K2 F1
        simp [f_Tc_set, f_Tc_set_34, f_Realm_tellTraveller, f_Realm_tellTraveller_31, f_Realm_tellTraveller_79, show (1 : Int32) < 3 from by decide, ↓ob_eq, ob_so, ldI, ldR, ldO, stI, stZ, stR, isO, wrA_n, rdA_n, wrA_l, rdA_l, gK_sI, gR_sI, gX_sI, gN_sI, gK_cp, gR_cp, gX_cp, gN_cp, rtZ_0, rtZ_1, if_true, reduceIte, and_self, true_and, and_true, K0, K1, K2, R0_0, R1_0, u]
      · have i := i1 (b + 131) g Kg g6
        rw [← hg]
        simp [f_Mo_set, f_Mo_set_31, f_Mo_set_46, f_Mo_set_58, f_Mo_set_73, f_Mo_set_85, f_Mo_canSet, f_Mo_canSet_43, ia, ↓ob_eq, ob_so, ldI, ldR, ldO, stI, stZ, stR, isO, wrA_n, rdA_n, wrA_l, rdA_l, gK_sI, gR_sI, gX_sI, gN_sI, gK_cp, gR_cp, gX_cp, gN_cp, rtZ_0, rtZ_1, if_true, reduceIte, and_self, true_and, and_true, K131, ← hg, Kg, i]
    have u := u1 (b + 2) h K2 F1
    have i := i1 (b + 131) g Kg g6
    rcases in_cases v3 99 99 rfl (by omega) with ⟨x, hx, rfl, u2, i2⟩ | ⟨u2, i2⟩
    case inr =>
      refine both_ref I0 (r := 0) ?_ ?_
      · simp [f_Tc_set, f_Tc_set_34, f_Realm_tellTraveller, f_Realm_tellTraveller_31, f_Realm_tellTraveller_79, show (1 : Int32) < 3 from by decide, ↓ob_eq, ob_so, ldI, ldR, ldO, stI, stZ, stR, isO, wrA_n, rdA_n, wrA_l, rdA_l, gK_sI, gR_sI, gX_sI, gN_sI, gK_cp, gR_cp, gX_cp, gN_cp, rtZ_0, rtZ_1, if_true, reduceIte, and_self, true_and, and_true, K0, K1, K2, R0_0, R1_0, u, u2]
      · rw [← hg]
        simp [f_Mo_set, f_Mo_set_31, f_Mo_set_46, f_Mo_set_58, f_Mo_set_73, f_Mo_set_85, f_Mo_canSet, f_Mo_canSet_43, ia, ↓ob_eq, ob_so, ldI, ldR, ldO, stI, stZ, stR, isO, wrA_n, rdA_n, wrA_l, rdA_l, gK_sI, gR_sI, gX_sI, gN_sI, gK_cp, gR_cp, gX_cp, gN_cp, rtZ_0, rtZ_1, if_true, reduceIte, and_self, true_and, and_true, K131, ← hg, Kg, i, i2]
    have tN : w < 12 := by omega
    have aB : 19 + w < 79 := by omega
    obtain ⟨h1, hh1⟩ : ∃ h1, h1 = sI (sI h (b + 6) w (nI x)) (b + 40) 2 0 := ⟨_, rfl⟩
    obtain ⟨h2, hh2⟩ : ∃ h2, h2 = sI (sI (sI h1 (b + 131) 0 0) (b + 132) (19 + w) (nI x)) (b + 131) 3 0 := ⟨_, rfl⟩
    have t1 : Sn [(6, 0, 12), (40, 2, 3)] b h h1 := by
      rw [hh1]
      exact (Sn.rf.put 6 w _ (inL_in (lo := 0) (hi := 12) (by decide) (by omega) tN)).put 40 2 _ (by decide)
    have t2 : Sn [(131, 0, 1), (132, 19, 31), (131, 3, 4)] b h1 h2 := by
      rw [hh2]
      exact ((Sn.rf.put 131 0 _ (by decide)).put 132 _ _ (inL_in (lo := 19) (hi := 31) (by decide) (by omega) (by omega))).put 131 3 _ (by decide)
    have t := t1.app t2
    have KA := K6
    have i1h := i1 (b + 131) (sI h1 (b + 131) 0 0) (by show gK h1 (b + 131) = (0, 9); rw [t1.1]; exact K131) (by rw [gI_n2 (by omega), t1.I (by decide)]; exact hN6)
    refine both_mk (r := 1) (h1 := h1) (h2 := h2) ?_ t1 ?_ t2 ?_
    · rw [hh1]
      simp (disch := omega) [f_Tc_set, f_Tc_set_34, f_Log_forget, f_Realm_tellTraveller, f_Realm_tellTraveller_31, f_Realm_tellTraveller_79, show (1 : Int32) < 3 from by decide, ↓ob_eq, ob_so, ldI, ldR, ldO, stI, stZ, stR, isO, wrA_n, rdA_n, wrA_l, rdA_l, gK_sI, gR_sI, gX_sI, gN_sI, gK_cp, gR_cp, gX_cp, gN_cp, rtZ_0, rtZ_1, if_true, reduceIte, and_self, true_and, and_true, K0, K1, K2, KA, K40, R0_0, R0_1, R1_0, R2_5, u, u2, tN]
    · have kk : gK h1 (b + 131) = (0, 9) := by rw [t1.1]; exact K131
      have k2 : gK h1 (b + 132) = (1, 79) := by rw [t1.1]; exact K132
      have rr : gR h1 (b + 131) 1 = some (b + 132) := by rw [t1.2.1]; exact R131_1
      rw [hh2]
      simp (disch := omega) [f_Mo_set, f_Mo_set_31, f_Mo_set_46, f_Mo_set_58, f_Mo_set_73, f_Mo_set_85, f_Mo_canSet, f_Mo_canSet_43, ia, ↓ob_eq, ob_so, ldI, ldR, ldO, stI, stZ, stR, isO, wrA_n, rdA_n, wrA_l, rdA_l, gK_sI, gR_sI, gX_sI, gN_sI, gK_cp, gR_cp, gX_cp, gN_cp, rtZ_0, rtZ_1, if_true, reduceIte, and_self, true_and, and_true, kk, k2, rr, i1h, i2, tN, aB, L_addn]
    · have n_log : C_log h2 b := by
        refine C_log_0 (by unfold ntOf; rw [t.I (by decide)]; exact hnt) (by unfold noOf; rw [t.I (by decide)]; exact hno) ?_ ?_ ?_
        · rw [t.I (by decide)]; exact c_log.nx
        · rw [hh2, hh1]; simp [gI_sI]
        · rw [hh2, hh1]; simp [gI_sI]
      have f3 : ∀ j, gI h2 (b + 3) j = gI h (b + 3) j := fun j => by rw [hh2, hh1]; simp [gI_sI]
      have f4 : ∀ j, gI h2 (b + 4) j = gI h (b + 4) j := fun j => by rw [hh2, hh1]; simp [gI_sI]
      have f5 : ∀ j, gI h2 (b + 5) j = gI h (b + 5) j := fun j => by rw [hh2, hh1]; simp [gI_sI]
      have f6 : ∀ j, gI h2 (b + 6) j = if j = w then nI x else gI h (b + 6) j := fun j => by rw [hh2, hh1]; simp [gI_sI]
      have f7 : ∀ j, gI h2 (b + 7) j = gI h (b + 7) j := fun j => by rw [hh2, hh1]; simp [gI_sI]
      have f8 : ∀ j, gI h2 (b + 8) j = gI h (b + 8) j := fun j => by rw [hh2, hh1]; simp [gI_sI]
      have f9 : ∀ j, gI h2 (b + 9) j = gI h (b + 9) j := fun j => by rw [hh2, hh1]; simp [gI_sI]
      have f10 : ∀ j, gI h2 (b + 10) j = gI h (b + 10) j := fun j => by rw [hh2, hh1]; simp [gI_sI]
      have f11 : ∀ j, gI h2 (b + 11) j = gI h (b + 11) j := fun j => by rw [hh2, hh1]; simp [gI_sI]
      have f135 : ∀ j, gI h2 (b + 135) j = gI h (b + 135) j := fun j => by rw [hh2, hh1]; simp [gI_sI]
      have f136 : ∀ j, gI h2 (b + 136) j = gI h (b + 136) j := fun j => by rw [hh2, hh1]; simp [gI_sI]
      have f137 : ∀ j, gI h2 (b + 137) j = gI h (b + 137) j := fun j => by rw [hh2, hh1]; simp [gI_sI]
      have f138 : ∀ j, gI h2 (b + 138) j = gI h (b + 138) j := fun j => by rw [hh2, hh1]; simp [gI_sI]
      have f132 : ∀ j, gI h2 (b + 132) j = if j = 19 + w then nI x else gI h (b + 132) j := fun j => by rw [hh2, hh1]; simp [gI_sI]
      have n_realm : C_realm h2 b := by
        refine C_realm_mk c_realm (t.I (by decide)) (t.I (by decide)) (fun j hj => t.2.2.2.2 2 j (by simp [inL])) (fun j hj => by rw [f132, if_neg (by omega)]) (fun k hk => ?_) (fun o ho => ?_) (fun k hk => ?_) (fun o ho => ?_)
        · obtain ⟨a1, a2, a3, _⟩ := ro4 k hk
          rw [f132, f132, f132, if_neg (show ¬ 31 + k = 19 + w by omega)]
          rw [if_neg (show ¬ 7 + k = 19 + w by omega)]
          refine ⟨a1, ?_, a3⟩
          by_cases y : k = w
          · rw [if_pos (by omega)]; exact ⟨x, hx, rfl⟩
          · rw [if_neg (by omega)]; exact a2
        · rw [f132, f132, if_neg (by omega), if_neg (by omega)]; exact ro5 o ho
        · obtain ⟨a1, a2, a3, a4, a5⟩ := RT k hk
          rw [f3, f4, f5, f6, f7, f135, f136, f132, f132, f132]
          by_cases y : k = w
          · rw [if_neg (show ¬ 31 + k = 19 + w by omega), if_neg (show ¬ 7 + k = 19 + w by omega), if_pos y, if_pos (show 19 + k = 19 + w by omega)]; exact ⟨a1, a2, a3, rfl, a5⟩
          · rw [if_neg (show ¬ 31 + k = 19 + w by omega), if_neg (show ¬ 7 + k = 19 + w by omega), if_neg y, if_neg (show ¬ 19 + k = 19 + w by omega)]; exact ⟨a1, a2, a3, a4, a5⟩
        · obtain ⟨a1, a2, a3, a4⟩ := RO o ho
          rw [f8, f9, f10, f11, f137, f138, f132, f132]
          rw [if_neg (by omega), if_neg (by omega)]
          exact ⟨a1, a2, a3, a4⟩
      exact ⟨s.sn t, cd.cg t, c_stat.cg t (by decide), n_realm, c_book.cg t (by decide), c_law.cg t (by decide), c_kin.cg t (by decide), c_shi.cg t (by decide), c_roa.cg t (by decide), c_ord.cg t (by decide), c_han.cg t (by decide), c_wei.cg t (by decide), c_bag.cg t (by decide), c_pri.cg t (by decide), c_cnt.cg t (by decide), c_led.cg t (by decide), c_yea.cg t (by decide), n_log, c_rdr.cg t (by decide), c_msc.cg t (by decide), c_img.cg t (by decide)⟩
  by_cases hv2 : v1 = 2
  · subst hv2
    have ia : ∀ a h, f_Mo_isIn a (2 : Int32) 0 2 h = some (1, h) := fun a h => rfl
    rcases tra_cases v2 (ntOf h b) hnt with ⟨w, ht, rfl, u1, i1⟩ | ⟨u1, i1⟩
    case inr =>
      refine both_ref I0 (r := 0) ?_ ?_
      · have u := u1 (b + 2) h K2 F1
        simp [f_Tc_set, f_Tc_set_34, f_Realm_tellTraveller, f_Realm_tellTraveller_31, f_Realm_tellTraveller_79, show (2 : Int32) < 3 from by decide, ↓ob_eq, ob_so, ldI, ldR, ldO, stI, stZ, stR, isO, wrA_n, rdA_n, wrA_l, rdA_l, gK_sI, gR_sI, gX_sI, gN_sI, gK_cp, gR_cp, gX_cp, gN_cp, rtZ_0, rtZ_1, if_true, reduceIte, and_self, true_and, and_true, K0, K1, K2, R0_0, R1_0, u]
      · have i := i1 (b + 131) g Kg g6
        rw [← hg]
        simp [f_Mo_set, f_Mo_set_31, f_Mo_set_46, f_Mo_set_58, f_Mo_set_73, f_Mo_set_85, f_Mo_canSet, f_Mo_canSet_43, ia, ↓ob_eq, ob_so, ldI, ldR, ldO, stI, stZ, stR, isO, wrA_n, rdA_n, wrA_l, rdA_l, gK_sI, gR_sI, gX_sI, gN_sI, gK_cp, gR_cp, gX_cp, gN_cp, rtZ_0, rtZ_1, if_true, reduceIte, and_self, true_and, and_true, K131, ← hg, Kg, i]
    have u := u1 (b + 2) h K2 F1
    have i := i1 (b + 131) g Kg g6
    rcases in_cases v3 9 9 rfl (by omega) with ⟨x, hx, rfl, u2, i2⟩ | ⟨u2, i2⟩
    case inr =>
      refine both_ref I0 (r := 0) ?_ ?_
      · simp [f_Tc_set, f_Tc_set_34, f_Realm_tellTraveller, f_Realm_tellTraveller_31, f_Realm_tellTraveller_79, show (2 : Int32) < 3 from by decide, ↓ob_eq, ob_so, ldI, ldR, ldO, stI, stZ, stR, isO, wrA_n, rdA_n, wrA_l, rdA_l, gK_sI, gR_sI, gX_sI, gN_sI, gK_cp, gR_cp, gX_cp, gN_cp, rtZ_0, rtZ_1, if_true, reduceIte, and_self, true_and, and_true, K0, K1, K2, R0_0, R1_0, u, u2]
      · rw [← hg]
        simp [f_Mo_set, f_Mo_set_31, f_Mo_set_46, f_Mo_set_58, f_Mo_set_73, f_Mo_set_85, f_Mo_canSet, f_Mo_canSet_43, ia, ↓ob_eq, ob_so, ldI, ldR, ldO, stI, stZ, stR, isO, wrA_n, rdA_n, wrA_l, rdA_l, gK_sI, gR_sI, gX_sI, gN_sI, gK_cp, gR_cp, gX_cp, gN_cp, rtZ_0, rtZ_1, if_true, reduceIte, and_self, true_and, and_true, K131, ← hg, Kg, i, i2]
    have tN : w < 12 := by omega
    obtain ⟨h1, hh1⟩ : ∃ h1, h1 = sI (sI h (b + 4) w (nI x)) (b + 40) 2 0 := ⟨_, rfl⟩
    obtain ⟨h2, hh2⟩ : ∃ h2, h2 = sI (sI (sI h1 (b + 131) 0 0) (b + 136) w (nI x)) (b + 131) 3 0 := ⟨_, rfl⟩
    have t1 : Sn [(4, 0, 12), (40, 2, 3)] b h h1 := by
      rw [hh1]
      exact (Sn.rf.put 4 w _ (inL_in (lo := 0) (hi := 12) (by decide) (by omega) tN)).put 40 2 _ (by decide)
    have t2 : Sn [(131, 0, 1), (136, 0, 12), (131, 3, 4)] b h1 h2 := by
      rw [hh2]
      exact ((Sn.rf.put 131 0 _ (by decide)).put 136 _ _ (inL_in (lo := 0) (hi := 12) (by decide) (by omega) tN)).put 131 3 _ (by decide)
    have t := t1.app t2
    have KA := K4
    have i1h := i1 (b + 131) (sI h1 (b + 131) 0 0) (by show gK h1 (b + 131) = (0, 9); rw [t1.1]; exact K131) (by rw [gI_n2 (by omega), t1.I (by decide)]; exact hN6)
    refine both_mk (r := 1) (h1 := h1) (h2 := h2) ?_ t1 ?_ t2 ?_
    · rw [hh1]
      simp (disch := omega) [f_Tc_set, f_Tc_set_34, f_Log_forget, f_Realm_tellTraveller, f_Realm_tellTraveller_31, f_Realm_tellTraveller_79, show (2 : Int32) < 3 from by decide, ↓ob_eq, ob_so, ldI, ldR, ldO, stI, stZ, stR, isO, wrA_n, rdA_n, wrA_l, rdA_l, gK_sI, gR_sI, gX_sI, gN_sI, gK_cp, gR_cp, gX_cp, gN_cp, rtZ_0, rtZ_1, if_true, reduceIte, and_self, true_and, and_true, K0, K1, K2, KA, K40, R0_0, R0_1, R1_0, R2_3, u, u2, tN]
    · have kk : gK h1 (b + 131) = (0, 9) := by rw [t1.1]; exact K131
      have k2 : gK h1 (b + 136) = (1, 12) := by rw [t1.1]; exact K136
      have rr : gR h1 (b + 131) 9 = some (b + 136) := by rw [t1.2.1]; exact R131_9
      rw [hh2]
      simp (disch := omega) [f_Mo_set, f_Mo_set_31, f_Mo_set_46, f_Mo_set_58, f_Mo_set_73, f_Mo_set_85, f_Mo_canSet, f_Mo_canSet_43, ia, ↓ob_eq, ob_so, ldI, ldR, ldO, stI, stZ, stR, isO, wrA_n, rdA_n, wrA_l, rdA_l, gK_sI, gR_sI, gX_sI, gN_sI, gK_cp, gR_cp, gX_cp, gN_cp, rtZ_0, rtZ_1, if_true, reduceIte, and_self, true_and, and_true, kk, k2, rr, i1h, i2, tN, L_addn]
    · have n_log : C_log h2 b := by
        refine C_log_0 (by unfold ntOf; rw [t.I (by decide)]; exact hnt) (by unfold noOf; rw [t.I (by decide)]; exact hno) ?_ ?_ ?_
        · rw [t.I (by decide)]; exact c_log.nx
        · rw [hh2, hh1]; simp [gI_sI]
        · rw [hh2, hh1]; simp [gI_sI]
      have f3 : ∀ j, gI h2 (b + 3) j = gI h (b + 3) j := fun j => by rw [hh2, hh1]; simp [gI_sI]
      have f4 : ∀ j, gI h2 (b + 4) j = if j = w then nI x else gI h (b + 4) j := fun j => by rw [hh2, hh1]; simp [gI_sI]
      have f5 : ∀ j, gI h2 (b + 5) j = gI h (b + 5) j := fun j => by rw [hh2, hh1]; simp [gI_sI]
      have f6 : ∀ j, gI h2 (b + 6) j = gI h (b + 6) j := fun j => by rw [hh2, hh1]; simp [gI_sI]
      have f7 : ∀ j, gI h2 (b + 7) j = gI h (b + 7) j := fun j => by rw [hh2, hh1]; simp [gI_sI]
      have f8 : ∀ j, gI h2 (b + 8) j = gI h (b + 8) j := fun j => by rw [hh2, hh1]; simp [gI_sI]
      have f9 : ∀ j, gI h2 (b + 9) j = gI h (b + 9) j := fun j => by rw [hh2, hh1]; simp [gI_sI]
      have f10 : ∀ j, gI h2 (b + 10) j = gI h (b + 10) j := fun j => by rw [hh2, hh1]; simp [gI_sI]
      have f11 : ∀ j, gI h2 (b + 11) j = gI h (b + 11) j := fun j => by rw [hh2, hh1]; simp [gI_sI]
      have f135 : ∀ j, gI h2 (b + 135) j = gI h (b + 135) j := fun j => by rw [hh2, hh1]; simp [gI_sI]
      have f136 : ∀ j, gI h2 (b + 136) j = if j = w then nI x else gI h (b + 136) j := fun j => by rw [hh2, hh1]; simp [gI_sI]
      have f137 : ∀ j, gI h2 (b + 137) j = gI h (b + 137) j := fun j => by rw [hh2, hh1]; simp [gI_sI]
      have f138 : ∀ j, gI h2 (b + 138) j = gI h (b + 138) j := fun j => by rw [hh2, hh1]; simp [gI_sI]
      have f132 : ∀ j, gI h2 (b + 132) j = gI h (b + 132) j := fun j => by rw [hh2, hh1]; simp [gI_sI]
      have n_stat : C_stat h2 b := by
        have c_stat2 := c_stat
        obtain ⟨s1, s2, s3, s4, s5, s6⟩ := c_stat2
        unfold C_stat
        have en : ntOf h2 b = ntOf h b := by unfold ntOf; rw [t.I (by decide)]
        have em : noOf h2 b = noOf h b := by unfold noOf; rw [t.I (by decide)]
        rw [en, em, t.I (o := 131) (j := 6) (by decide), t.I (o := 131) (j := 7) (by decide)]
        refine ⟨s1, s2, s3, s4, fun k hk => ?_, fun o ho => ?_⟩
        · rw [f135, f136]
          refine ⟨(s5 k hk).1, ?_⟩
          by_cases y : k = w
          · rw [if_pos y]; exact ⟨x, hx, rfl⟩
          · rw [if_neg y]; exact (s5 k hk).2
        · rw [f137, f138]; exact s6 o ho
      have n_realm : C_realm h2 b := by
        refine C_realm_mk c_realm (t.I (by decide)) (t.I (by decide)) (fun j hj => t.2.2.2.2 2 j (by simp [inL])) (fun j hj => by rw [f132]) (fun k hk => ?_) (fun o ho => ?_) (fun k hk => ?_) (fun o ho => ?_)
        · obtain ⟨a1, a2, a3, _⟩ := ro4 k hk
          rw [f132, f132, f132]
          exact ⟨a1, a2, a3⟩
        · rw [f132, f132]; exact ro5 o ho
        · obtain ⟨a1, a2, a3, a4, a5⟩ := RT k hk
          rw [f3, f4, f5, f6, f7, f135, f136, f132, f132, f132]
          by_cases y : k = w
          · rw [if_pos y, if_pos y]; exact ⟨a1, rfl, a3, a4, a5⟩
          · rw [if_neg y, if_neg y]; exact ⟨a1, a2, a3, a4, a5⟩
        · obtain ⟨a1, a2, a3, a4⟩ := RO o ho
          rw [f8, f9, f10, f11, f137, f138, f132, f132]
          exact ⟨a1, a2, a3, a4⟩
      exact ⟨s.sn t, cd.cg t, n_stat, n_realm, c_book.cg t (by decide), c_law.cg t (by decide), c_kin.cg t (by decide), c_shi.cg t (by decide), c_roa.cg t (by decide), c_ord.cg t (by decide), c_han.cg t (by decide), c_wei.cg t (by decide), c_bag.cg t (by decide), c_pri.cg t (by decide), c_cnt.cg t (by decide), c_led.cg t (by decide), c_yea.cg t (by decide), n_log, c_rdr.cg t (by decide), c_msc.cg t (by decide), c_img.cg t (by decide)⟩
  by_cases hv3 : v1 = 3
  · subst hv3
    have ib : ∀ a h, f_Mo_isIn a (3 : Int32) 0 2 h = some (0, h) := fun a h => rfl
    have ia : ∀ a h, f_Mo_isIn a (3 : Int32) 3 4 h = some (1, h) := fun a h => rfl
    rcases off_cases v2 (noOf h b) hno with ⟨w, ht, rfl, u1, i1⟩ | ⟨u1, i1⟩
    case inr =>
      refine both_ref I0 (r := 0) ?_ ?_
      · have u := u1 (b + 2) h K2 F9
        simp [f_Tc_set, f_Tc_set_34, f_Realm_tellOfficer, f_Realm_tellOfficer_21, f_Realm_tellOfficer_58, show ¬ (3 : Int32) < 3 from by decide, ↓ob_eq, ob_so, ldI, ldR, ldO, stI, stZ, stR, isO, wrA_n, rdA_n, wrA_l, rdA_l, gK_sI, gR_sI, gX_sI, gN_sI, gK_cp, gR_cp, gX_cp, gN_cp, rtZ_0, rtZ_1, if_true, reduceIte, and_self, true_and, and_true, K0, K1, K2, R0_0, R1_0, u]
      · have i := i1 (b + 131) g Kg g7
        rw [← hg]
        simp [f_Mo_set, f_Mo_set_31, f_Mo_set_46, f_Mo_set_58, f_Mo_set_73, f_Mo_set_85, f_Mo_canSet, f_Mo_canSet_43, ia, ib, ↓ob_eq, ob_so, ldI, ldR, ldO, stI, stZ, stR, isO, wrA_n, rdA_n, wrA_l, rdA_l, gK_sI, gR_sI, gX_sI, gN_sI, gK_cp, gR_cp, gX_cp, gN_cp, rtZ_0, rtZ_1, if_true, reduceIte, and_self, true_and, and_true, K131, ← hg, Kg, i]
    have u := u1 (b + 2) h K2 F9
    have i := i1 (b + 131) g Kg g7
    rcases in_cases v3 9 9 rfl (by omega) with ⟨x, hx, rfl, u2, i2⟩ | ⟨u2, i2⟩
    case inr =>
      refine both_ref I0 (r := 0) ?_ ?_
      · simp [f_Tc_set, f_Tc_set_34, f_Realm_tellOfficer, f_Realm_tellOfficer_21, f_Realm_tellOfficer_58, show ¬ (3 : Int32) < 3 from by decide, ↓ob_eq, ob_so, ldI, ldR, ldO, stI, stZ, stR, isO, wrA_n, rdA_n, wrA_l, rdA_l, gK_sI, gR_sI, gX_sI, gN_sI, gK_cp, gR_cp, gX_cp, gN_cp, rtZ_0, rtZ_1, if_true, reduceIte, and_self, true_and, and_true, K0, K1, K2, R0_0, R1_0, u, u2]
      · rw [← hg]
        simp [f_Mo_set, f_Mo_set_31, f_Mo_set_46, f_Mo_set_58, f_Mo_set_73, f_Mo_set_85, f_Mo_canSet, f_Mo_canSet_43, ia, ib, ↓ob_eq, ob_so, ldI, ldR, ldO, stI, stZ, stR, isO, wrA_n, rdA_n, wrA_l, rdA_l, gK_sI, gR_sI, gX_sI, gN_sI, gK_cp, gR_cp, gX_cp, gN_cp, rtZ_0, rtZ_1, if_true, reduceIte, and_self, true_and, and_true, K131, ← hg, Kg, i, i2]
    have tN : w < 6 := by omega
    have aB : 73 + w < 79 := by omega
    obtain ⟨h1, hh1⟩ : ∃ h1, h1 = sI (sI h (b + 11) w (nI x)) (b + 40) 2 0 := ⟨_, rfl⟩
    obtain ⟨h2, hh2⟩ : ∃ h2, h2 = sI (sI (sI h1 (b + 131) 0 0) (b + 132) (73 + w) (nI x)) (b + 131) 3 0 := ⟨_, rfl⟩
    have t1 : Sn [(11, 0, 6), (40, 2, 3)] b h h1 := by
      rw [hh1]
      exact (Sn.rf.put 11 w _ (inL_in (lo := 0) (hi := 6) (by decide) (by omega) tN)).put 40 2 _ (by decide)
    have t2 : Sn [(131, 0, 1), (132, 73, 79), (131, 3, 4)] b h1 h2 := by
      rw [hh2]
      exact ((Sn.rf.put 131 0 _ (by decide)).put 132 _ _ (inL_in (lo := 73) (hi := 79) (by decide) (by omega) (by omega))).put 131 3 _ (by decide)
    have t := t1.app t2
    have KA := K11
    have i1h := i1 (b + 131) (sI h1 (b + 131) 0 0) (by show gK h1 (b + 131) = (0, 9); rw [t1.1]; exact K131) (by rw [gI_n2 (by omega), t1.I (by decide)]; exact hN7)
    refine both_mk (r := 1) (h1 := h1) (h2 := h2) ?_ t1 ?_ t2 ?_
    · rw [hh1]
      simp (disch := omega) [f_Tc_set, f_Tc_set_34, f_Log_forget, f_Realm_tellOfficer, f_Realm_tellOfficer_21, f_Realm_tellOfficer_58, show ¬ (3 : Int32) < 3 from by decide, ↓ob_eq, ob_so, ldI, ldR, ldO, stI, stZ, stR, isO, wrA_n, rdA_n, wrA_l, rdA_l, gK_sI, gR_sI, gX_sI, gN_sI, gK_cp, gR_cp, gX_cp, gN_cp, rtZ_0, rtZ_1, if_true, reduceIte, and_self, true_and, and_true, K0, K1, K2, KA, K40, R0_0, R0_1, R1_0, R2_13, u, u2, tN]
    · have kk : gK h1 (b + 131) = (0, 9) := by rw [t1.1]; exact K131
      have k2 : gK h1 (b + 132) = (1, 79) := by rw [t1.1]; exact K132
      have rr : gR h1 (b + 131) 1 = some (b + 132) := by rw [t1.2.1]; exact R131_1
      rw [hh2]
      simp (disch := omega) [f_Mo_set, f_Mo_set_31, f_Mo_set_46, f_Mo_set_58, f_Mo_set_73, f_Mo_set_85, f_Mo_canSet, f_Mo_canSet_43, ia, ib, ↓ob_eq, ob_so, ldI, ldR, ldO, stI, stZ, stR, isO, wrA_n, rdA_n, wrA_l, rdA_l, gK_sI, gR_sI, gX_sI, gN_sI, gK_cp, gR_cp, gX_cp, gN_cp, rtZ_0, rtZ_1, if_true, reduceIte, and_self, true_and, and_true, kk, k2, rr, i1h, i2, tN, aB, L_addn]
    · have n_log : C_log h2 b := by
        refine C_log_0 (by unfold ntOf; rw [t.I (by decide)]; exact hnt) (by unfold noOf; rw [t.I (by decide)]; exact hno) ?_ ?_ ?_
        · rw [t.I (by decide)]; exact c_log.nx
        · rw [hh2, hh1]; simp [gI_sI]
        · rw [hh2, hh1]; simp [gI_sI]
      have f3 : ∀ j, gI h2 (b + 3) j = gI h (b + 3) j := fun j => by rw [hh2, hh1]; simp [gI_sI]
      have f4 : ∀ j, gI h2 (b + 4) j = gI h (b + 4) j := fun j => by rw [hh2, hh1]; simp [gI_sI]
      have f5 : ∀ j, gI h2 (b + 5) j = gI h (b + 5) j := fun j => by rw [hh2, hh1]; simp [gI_sI]
      have f6 : ∀ j, gI h2 (b + 6) j = gI h (b + 6) j := fun j => by rw [hh2, hh1]; simp [gI_sI]
      have f7 : ∀ j, gI h2 (b + 7) j = gI h (b + 7) j := fun j => by rw [hh2, hh1]; simp [gI_sI]
      have f8 : ∀ j, gI h2 (b + 8) j = gI h (b + 8) j := fun j => by rw [hh2, hh1]; simp [gI_sI]
      have f9 : ∀ j, gI h2 (b + 9) j = gI h (b + 9) j := fun j => by rw [hh2, hh1]; simp [gI_sI]
      have f10 : ∀ j, gI h2 (b + 10) j = gI h (b + 10) j := fun j => by rw [hh2, hh1]; simp [gI_sI]
      have f11 : ∀ j, gI h2 (b + 11) j = if j = w then nI x else gI h (b + 11) j := fun j => by rw [hh2, hh1]; simp [gI_sI]
      have f135 : ∀ j, gI h2 (b + 135) j = gI h (b + 135) j := fun j => by rw [hh2, hh1]; simp [gI_sI]
      have f136 : ∀ j, gI h2 (b + 136) j = gI h (b + 136) j := fun j => by rw [hh2, hh1]; simp [gI_sI]
      have f137 : ∀ j, gI h2 (b + 137) j = gI h (b + 137) j := fun j => by rw [hh2, hh1]; simp [gI_sI]
      have f138 : ∀ j, gI h2 (b + 138) j = gI h (b + 138) j := fun j => by rw [hh2, hh1]; simp [gI_sI]
      have f132 : ∀ j, gI h2 (b + 132) j = if j = 73 + w then nI x else gI h (b + 132) j := fun j => by rw [hh2, hh1]; simp [gI_sI]
      have n_realm : C_realm h2 b := by
        refine C_realm_mk c_realm (t.I (by decide)) (t.I (by decide)) (fun j hj => t.2.2.2.2 2 j (by simp [inL])) (fun j hj => by rw [f132, if_neg (by omega)]) (fun k hk => ?_) (fun o ho => ?_) (fun k hk => ?_) (fun o ho => ?_)
        · obtain ⟨a1, a2, a3, _⟩ := ro4 k hk
          rw [f132, f132, f132, if_neg (by omega), if_neg (by omega), if_neg (by omega)]
          exact ⟨a1, a2, a3⟩
        · obtain ⟨a1, a2⟩ := ro5 o ho
          rw [f132, f132, if_neg (show ¬ 67 + o = 73 + w by omega)]
          refine ⟨a1, ?_⟩
          by_cases y : o = w
          · rw [if_pos (by omega)]; exact ⟨x, hx, rfl⟩
          · rw [if_neg (by omega)]; exact a2
        · obtain ⟨a1, a2, a3, a4, a5⟩ := RT k hk
          rw [f3, f4, f5, f6, f7, f135, f136, f132, f132, f132]
          rw [if_neg (by omega), if_neg (by omega), if_neg (by omega)]
          exact ⟨a1, a2, a3, a4, a5⟩
        · obtain ⟨a1, a2, a3, a4⟩ := RO o ho
          rw [f8, f9, f10, f11, f137, f138, f132, f132]
          by_cases y : o = w
          · rw [if_neg (show ¬ 67 + o = 73 + w by omega), if_pos y, if_pos (show 73 + o = 73 + w by omega)]; exact ⟨a1, a2, a3, rfl⟩
          · rw [if_neg (show ¬ 67 + o = 73 + w by omega), if_neg y, if_neg (show ¬ 73 + o = 73 + w by omega)]; exact ⟨a1, a2, a3, a4⟩
      exact ⟨s.sn t, cd.cg t, c_stat.cg t (by decide), n_realm, c_book.cg t (by decide), c_law.cg t (by decide), c_kin.cg t (by decide), c_shi.cg t (by decide), c_roa.cg t (by decide), c_ord.cg t (by decide), c_han.cg t (by decide), c_wei.cg t (by decide), c_bag.cg t (by decide), c_pri.cg t (by decide), c_cnt.cg t (by decide), c_led.cg t (by decide), c_yea.cg t (by decide), n_log, c_rdr.cg t (by decide), c_msc.cg t (by decide), c_img.cg t (by decide)⟩
  by_cases hv4 : v1 = 4
  · subst hv4
    have ib : ∀ a h, f_Mo_isIn a (4 : Int32) 0 2 h = some (0, h) := fun a h => rfl
    have ia : ∀ a h, f_Mo_isIn a (4 : Int32) 3 4 h = some (1, h) := fun a h => rfl
    rcases off_cases v2 (noOf h b) hno with ⟨w, ht, rfl, u1, i1⟩ | ⟨u1, i1⟩
    case inr =>
      refine both_ref I0 (r := 0) ?_ ?_
      · have u := u1 (b + 2) h K2 F9
        simp [f_Tc_set, f_Tc_set_34, f_Realm_tellOfficer, f_Realm_tellOfficer_21, f_Realm_tellOfficer_58, show ¬ (4 : Int32) < 3 from by decide, ↓ob_eq, ob_so, ldI, ldR, ldO, stI, stZ, stR, isO, wrA_n, rdA_n, wrA_l, rdA_l, gK_sI, gR_sI, gX_sI, gN_sI, gK_cp, gR_cp, gX_cp, gN_cp, rtZ_0, rtZ_1, if_true, reduceIte, and_self, true_and, and_true, K0, K1, K2, R0_0, R1_0, u]
      · have i := i1 (b + 131) g Kg g7
        rw [← hg]
        simp [f_Mo_set, f_Mo_set_31, f_Mo_set_46, f_Mo_set_58, f_Mo_set_73, f_Mo_set_85, f_Mo_canSet, f_Mo_canSet_43, ia, ib, ↓ob_eq, ob_so, ldI, ldR, ldO, stI, stZ, stR, isO, wrA_n, rdA_n, wrA_l, rdA_l, gK_sI, gR_sI, gX_sI, gN_sI, gK_cp, gR_cp, gX_cp, gN_cp, rtZ_0, rtZ_1, if_true, reduceIte, and_self, true_and, and_true, K131, ← hg, Kg, i]
    have u := u1 (b + 2) h K2 F9
    have i := i1 (b + 131) g Kg g7
    rcases in_cases v3 9 9 rfl (by omega) with ⟨x, hx, rfl, u2, i2⟩ | ⟨u2, i2⟩
    case inr =>
      refine both_ref I0 (r := 0) ?_ ?_
      · simp [f_Tc_set, f_Tc_set_34, f_Realm_tellOfficer, f_Realm_tellOfficer_21, f_Realm_tellOfficer_58, show ¬ (4 : Int32) < 3 from by decide, ↓ob_eq, ob_so, ldI, ldR, ldO, stI, stZ, stR, isO, wrA_n, rdA_n, wrA_l, rdA_l, gK_sI, gR_sI, gX_sI, gN_sI, gK_cp, gR_cp, gX_cp, gN_cp, rtZ_0, rtZ_1, if_true, reduceIte, and_self, true_and, and_true, K0, K1, K2, R0_0, R1_0, u, u2]
      · rw [← hg]
        simp [f_Mo_set, f_Mo_set_31, f_Mo_set_46, f_Mo_set_58, f_Mo_set_73, f_Mo_set_85, f_Mo_canSet, f_Mo_canSet_43, ia, ib, ↓ob_eq, ob_so, ldI, ldR, ldO, stI, stZ, stR, isO, wrA_n, rdA_n, wrA_l, rdA_l, gK_sI, gR_sI, gX_sI, gN_sI, gK_cp, gR_cp, gX_cp, gN_cp, rtZ_0, rtZ_1, if_true, reduceIte, and_self, true_and, and_true, K131, ← hg, Kg, i, i2]
    have tN : w < 6 := by omega
    obtain ⟨h1, hh1⟩ : ∃ h1, h1 = sI (sI h (b + 10) w (nI x)) (b + 40) 2 0 := ⟨_, rfl⟩
    obtain ⟨h2, hh2⟩ : ∃ h2, h2 = sI (sI (sI h1 (b + 131) 0 0) (b + 138) w (nI x)) (b + 131) 3 0 := ⟨_, rfl⟩
    have t1 : Sn [(10, 0, 6), (40, 2, 3)] b h h1 := by
      rw [hh1]
      exact (Sn.rf.put 10 w _ (inL_in (lo := 0) (hi := 6) (by decide) (by omega) tN)).put 40 2 _ (by decide)
    have t2 : Sn [(131, 0, 1), (138, 0, 6), (131, 3, 4)] b h1 h2 := by
      rw [hh2]
      exact ((Sn.rf.put 131 0 _ (by decide)).put 138 _ _ (inL_in (lo := 0) (hi := 6) (by decide) (by omega) tN)).put 131 3 _ (by decide)
    have t := t1.app t2
    have KA := K10
    have i1h := i1 (b + 131) (sI h1 (b + 131) 0 0) (by show gK h1 (b + 131) = (0, 9); rw [t1.1]; exact K131) (by rw [gI_n2 (by omega), t1.I (by decide)]; exact hN7)
    refine both_mk (r := 1) (h1 := h1) (h2 := h2) ?_ t1 ?_ t2 ?_
    · rw [hh1]
      simp (disch := omega) [f_Tc_set, f_Tc_set_34, f_Log_forget, f_Realm_tellOfficer, f_Realm_tellOfficer_21, f_Realm_tellOfficer_58, show ¬ (4 : Int32) < 3 from by decide, ↓ob_eq, ob_so, ldI, ldR, ldO, stI, stZ, stR, isO, wrA_n, rdA_n, wrA_l, rdA_l, gK_sI, gR_sI, gX_sI, gN_sI, gK_cp, gR_cp, gX_cp, gN_cp, rtZ_0, rtZ_1, if_true, reduceIte, and_self, true_and, and_true, K0, K1, K2, KA, K40, R0_0, R0_1, R1_0, R2_12, u, u2, tN]
    · have kk : gK h1 (b + 131) = (0, 9) := by rw [t1.1]; exact K131
      have k2 : gK h1 (b + 138) = (1, 6) := by rw [t1.1]; exact K138
      have rr : gR h1 (b + 131) 11 = some (b + 138) := by rw [t1.2.1]; exact R131_11
      rw [hh2]
      simp (disch := omega) [f_Mo_set, f_Mo_set_31, f_Mo_set_46, f_Mo_set_58, f_Mo_set_73, f_Mo_set_85, f_Mo_canSet, f_Mo_canSet_43, ia, ib, ↓ob_eq, ob_so, ldI, ldR, ldO, stI, stZ, stR, isO, wrA_n, rdA_n, wrA_l, rdA_l, gK_sI, gR_sI, gX_sI, gN_sI, gK_cp, gR_cp, gX_cp, gN_cp, rtZ_0, rtZ_1, if_true, reduceIte, and_self, true_and, and_true, kk, k2, rr, i1h, i2, tN, L_addn]
    · have n_log : C_log h2 b := by
        refine C_log_0 (by unfold ntOf; rw [t.I (by decide)]; exact hnt) (by unfold noOf; rw [t.I (by decide)]; exact hno) ?_ ?_ ?_
        · rw [t.I (by decide)]; exact c_log.nx
        · rw [hh2, hh1]; simp [gI_sI]
        · rw [hh2, hh1]; simp [gI_sI]
      have f3 : ∀ j, gI h2 (b + 3) j = gI h (b + 3) j := fun j => by rw [hh2, hh1]; simp [gI_sI]
      have f4 : ∀ j, gI h2 (b + 4) j = gI h (b + 4) j := fun j => by rw [hh2, hh1]; simp [gI_sI]
      have f5 : ∀ j, gI h2 (b + 5) j = gI h (b + 5) j := fun j => by rw [hh2, hh1]; simp [gI_sI]
      have f6 : ∀ j, gI h2 (b + 6) j = gI h (b + 6) j := fun j => by rw [hh2, hh1]; simp [gI_sI]
      have f7 : ∀ j, gI h2 (b + 7) j = gI h (b + 7) j := fun j => by rw [hh2, hh1]; simp [gI_sI]
      have f8 : ∀ j, gI h2 (b + 8) j = gI h (b + 8) j := fun j => by rw [hh2, hh1]; simp [gI_sI]
      have f9 : ∀ j, gI h2 (b + 9) j = gI h (b + 9) j := fun j => by rw [hh2, hh1]; simp [gI_sI]
      have f10 : ∀ j, gI h2 (b + 10) j = if j = w then nI x else gI h (b + 10) j := fun j => by rw [hh2, hh1]; simp [gI_sI]
      have f11 : ∀ j, gI h2 (b + 11) j = gI h (b + 11) j := fun j => by rw [hh2, hh1]; simp [gI_sI]
      have f135 : ∀ j, gI h2 (b + 135) j = gI h (b + 135) j := fun j => by rw [hh2, hh1]; simp [gI_sI]
      have f136 : ∀ j, gI h2 (b + 136) j = gI h (b + 136) j := fun j => by rw [hh2, hh1]; simp [gI_sI]
      have f137 : ∀ j, gI h2 (b + 137) j = gI h (b + 137) j := fun j => by rw [hh2, hh1]; simp [gI_sI]
      have f138 : ∀ j, gI h2 (b + 138) j = if j = w then nI x else gI h (b + 138) j := fun j => by rw [hh2, hh1]; simp [gI_sI]
      have f132 : ∀ j, gI h2 (b + 132) j = gI h (b + 132) j := fun j => by rw [hh2, hh1]; simp [gI_sI]
      have n_stat : C_stat h2 b := by
        have c_stat2 := c_stat
        obtain ⟨s1, s2, s3, s4, s5, s6⟩ := c_stat2
        unfold C_stat
        have en : ntOf h2 b = ntOf h b := by unfold ntOf; rw [t.I (by decide)]
        have em : noOf h2 b = noOf h b := by unfold noOf; rw [t.I (by decide)]
        rw [en, em, t.I (o := 131) (j := 6) (by decide), t.I (o := 131) (j := 7) (by decide)]
        refine ⟨s1, s2, s3, s4, fun k hk => ?_, fun o ho => ?_⟩
        · rw [f135, f136]; exact s5 k hk
        · rw [f137, f138]
          refine ⟨(s6 o ho).1, ?_⟩
          by_cases y : o = w
          · rw [if_pos y]; exact ⟨x, hx, rfl⟩
          · rw [if_neg y]; exact (s6 o ho).2
      have n_realm : C_realm h2 b := by
        refine C_realm_mk c_realm (t.I (by decide)) (t.I (by decide)) (fun j hj => t.2.2.2.2 2 j (by simp [inL])) (fun j hj => by rw [f132]) (fun k hk => ?_) (fun o ho => ?_) (fun k hk => ?_) (fun o ho => ?_)
        · obtain ⟨a1, a2, a3, _⟩ := ro4 k hk
          rw [f132, f132, f132]
          exact ⟨a1, a2, a3⟩
        · rw [f132, f132]; exact ro5 o ho
        · obtain ⟨a1, a2, a3, a4, a5⟩ := RT k hk
          rw [f3, f4, f5, f6, f7, f135, f136, f132, f132, f132]
          exact ⟨a1, a2, a3, a4, a5⟩
        · obtain ⟨a1, a2, a3, a4⟩ := RO o ho
          rw [f8, f9, f10, f11, f137, f138, f132, f132]
          by_cases y : o = w
          · rw [if_pos y, if_pos y]; exact ⟨a1, a2, rfl, a4⟩
          · rw [if_neg y, if_neg y]; exact ⟨a1, a2, a3, a4⟩
      exact ⟨s.sn t, cd.cg t, n_stat, n_realm, c_book.cg t (by decide), c_law.cg t (by decide), c_kin.cg t (by decide), c_shi.cg t (by decide), c_roa.cg t (by decide), c_ord.cg t (by decide), c_han.cg t (by decide), c_wei.cg t (by decide), c_bag.cg t (by decide), c_pri.cg t (by decide), c_cnt.cg t (by decide), c_led.cg t (by decide), c_yea.cg t (by decide), n_log, c_rdr.cg t (by decide), c_msc.cg t (by decide), c_img.cg t (by decide)⟩
  -- nothing of the kind
  have m02 : ∀ a h, f_Mo_isIn a v1 0 2 h = some (0, h) := fun a h => by
    rcases in_cases v1 2 2 rfl (by omega) with ⟨k, hk, rfl, u, i⟩ | ⟨u, i⟩
    · have : k = 0 ∨ k = 1 ∨ k = 2 := by omega
      rcases this with rfl | rfl | rfl
      · exact absurd rfl hv0
      · exact absurd rfl hv1
      · exact absurd rfl hv2
    · exact i a h
  have m34 : ∀ a h, f_Mo_isIn a v1 3 4 h = some (0, h) := fun a h => by
    unfold f_Mo_isIn
    by_cases q : v1 < 3
    · rw [if_pos q, rtZ_0]
    · rw [if_neg q]
      by_cases q2 : (4 : Int32) < v1
      · rw [if_pos q2, rtZ_0]
      · exfalso
        rw [fa_lt] at q q2
        have z3 : (3 : Int32).toInt = 3 := rfl
        have z4 : (4 : Int32).toInt = 4 := rfl
        rw [z3] at q
        rw [z4] at q2
        have : v1.toInt = 3 ∨ v1.toInt = 4 := by omega
        rcases this with e | e
        · exact hv3 ((fa_eq _ _).mpr (by rw [e, z3]))
        · exact hv4 ((fa_eq _ _).mpr (by rw [e, z4]))
  have wm : ∀ h, f_Tc_within v3 (-1) h = some (0, h) := fun h => by
    unfold f_Tc_within
    by_cases q : v3 < 0
    · rw [if_pos q, rtZ_0]
    · have q2 : (-1 : Int32) < v3 := by
        rw [fa_lt] at q ⊢
        have z0 : (0 : Int32).toInt = 0 := rfl
        have z1 : (-1 : Int32).toInt = -1 := rfl
        omega
      rw [if_neg q, if_pos q2, rtZ_0]
  refine both_ref I0 (r := 0) ?_ ?_
  · by_cases q : v1 < 3
    · rcases tra_cases v2 (ntOf h b) hnt with ⟨t, ht, rfl, u1, i1⟩ | ⟨u1, i1⟩
      · have u := u1 (b + 2) h K2 F1
        simp [f_Tc_set, f_Tc_set_34, f_Realm_tellTraveller, f_Realm_tellTraveller_31, q, hv0, hv1, hv2, ↓ob_eq, ob_so, ldI, ldR, ldO, stI, stZ, stR, isO, wrA_n, rdA_n, wrA_l, rdA_l, gK_sI, gR_sI, gX_sI, gN_sI, gK_cp, gR_cp, gX_cp, gN_cp, rtZ_0, rtZ_1, if_true, reduceIte, and_self, true_and, and_true, K0, K1, K2, R0_0, R1_0, u, wm]
      · have u := u1 (b + 2) h K2 F1
        simp [f_Tc_set, f_Tc_set_34, f_Realm_tellTraveller, f_Realm_tellTraveller_31, q, hv0, hv1, hv2, ↓ob_eq, ob_so, ldI, ldR, ldO, stI, stZ, stR, isO, wrA_n, rdA_n, wrA_l, rdA_l, gK_sI, gR_sI, gX_sI, gN_sI, gK_cp, gR_cp, gX_cp, gN_cp, rtZ_0, rtZ_1, if_true, reduceIte, and_self, true_and, and_true, K0, K1, K2, R0_0, R1_0, u]
    · rcases off_cases v2 (noOf h b) hno with ⟨t, ht, rfl, u1, i1⟩ | ⟨u1, i1⟩
      · have u := u1 (b + 2) h K2 F9
        simp [f_Tc_set, f_Tc_set_34, f_Realm_tellOfficer, f_Realm_tellOfficer_21, q, hv3, hv4, ↓ob_eq, ob_so, ldI, ldR, ldO, stI, stZ, stR, isO, wrA_n, rdA_n, wrA_l, rdA_l, gK_sI, gR_sI, gX_sI, gN_sI, gK_cp, gR_cp, gX_cp, gN_cp, rtZ_0, rtZ_1, if_true, reduceIte, and_self, true_and, and_true, K0, K1, K2, R0_0, R1_0, u, wm]
      · have u := u1 (b + 2) h K2 F9
        simp [f_Tc_set, f_Tc_set_34, f_Realm_tellOfficer, f_Realm_tellOfficer_21, q, hv3, hv4, ↓ob_eq, ob_so, ldI, ldR, ldO, stI, stZ, stR, isO, wrA_n, rdA_n, wrA_l, rdA_l, gK_sI, gR_sI, gX_sI, gN_sI, gK_cp, gR_cp, gX_cp, gN_cp, rtZ_0, rtZ_1, if_true, reduceIte, and_self, true_and, and_true, K0, K1, K2, R0_0, R1_0, u]
  · rw [← hg]
    simp [f_Mo_set, f_Mo_canSet, m02, m34, ↓ob_eq, ob_so, ldI, ldR, ldO, stI, stZ, stR, isO, wrA_n, rdA_n, wrA_l, rdA_l, gK_sI, gR_sI, gX_sI, gN_sI, gK_cp, gR_cp, gX_cp, gN_cp, rtZ_0, rtZ_1, if_true, reduceIte, and_self, true_and, and_true, K131, ← hg, Kg]
