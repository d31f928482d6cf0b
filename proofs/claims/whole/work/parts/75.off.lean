theorem op_officer (b : Nat) : B_officer (Inv b) b (b + 131) := by
  intro h I v1 v2 v3
  have I0 := I
  obtain ⟨s, cd, c_stat, c_realm, c_book, c_law, c_kin, c_shi, c_roa, c_ord, c_han, c_wei, c_bag, c_pri, c_cnt, c_led, c_yea, c_log, c_rdr, c_msc, c_img⟩ := I
  have K0 : gK h b = (0, 8) := s.K 0 (by decide) rfl
  have K1 : gK h (b + 1) = (0, 1) := s.K 1 (by decide) rfl
  have K2 : gK h (b + 2) = (0, 5) := s.K 2 (by decide) rfl
  have K8 : gK h (b + 8) = (1, 6) := s.K 8 (by decide) rfl
  have K9 : gK h (b + 9) = (1, 6) := s.K 9 (by decide) rfl
  have K10 : gK h (b + 10) = (1, 6) := s.K 10 (by decide) rfl
  have K11 : gK h (b + 11) = (1, 6) := s.K 11 (by decide) rfl
  have K40 : gK h (b + 40) = (0, 3) := s.K 40 (by decide) rfl
  have K131 : gK h (b + 131) = (0, 9) := s.K 131 (by decide) rfl
  have K132 : gK h (b + 132) = (1, 79) := s.K 132 (by decide) rfl
  have K137 : gK h (b + 137) = (1, 6) := s.K 137 (by decide) rfl
  have K138 : gK h (b + 138) = (1, 6) := s.K 138 (by decide) rfl
  have R0_0 : gR h b 0 = some (b + 1) := s.R 0 0 rfl
  have R0_1 : gR h b 1 = some (b + 40) := s.R 0 1 rfl
  have R1_0 : gR h (b + 1) 0 = some (b + 2) := s.R 1 0 rfl
  have R2_10 : gR h (b + 2) 10 = some (b + 8) := s.R 2 10 rfl
  have R2_11 : gR h (b + 2) 11 = some (b + 9) := s.R 2 11 rfl
  have R2_12 : gR h (b + 2) 12 = some (b + 10) := s.R 2 12 rfl
  have R2_13 : gR h (b + 2) 13 = some (b + 11) := s.R 2 13 rfl
  have R131_1 : gR h (b + 131) 1 = some (b + 132) := s.R 131 1 rfl
  have R131_10 : gR h (b + 131) 10 = some (b + 137) := s.R 131 10 rfl
  have R131_11 : gR h (b + 131) 11 = some (b + 138) := s.R 131 11 rfl
  have cr := c_realm
  obtain ⟨⟨hnt, hno⟩, ro, F1, F9, F0, F15, F16, F17, F18, F19, F14, F7, F8, RT, RO⟩ := cr
  have RT : ∀ t, t < ntOf h b → gI h (b + 3) t = gI h (b + 135) t ∧ gI h (b + 4) t = gI h (b + 136) t ∧ gI h (b + 5) t = gI h (b + 132) (7 + t) ∧ gI h (b + 6) t = gI h (b + 132) (19 + t) ∧ gI h (b + 7) t = gI h (b + 132) (31 + t) - 1 := RT
  have RO : ∀ o, o < noOf h b → gI h (b + 8) o = gI h (b + 132) (67 + o) ∧ gI h (b + 9) o = gI h (b + 137) o ∧ gI h (b + 10) o = gI h (b + 138) o ∧ gI h (b + 11) o = gI h (b + 132) (73 + o) := RO
  have hN6 : gI h (b + 131) 6 = nI (ntOf h b) := c_stat.1
  have hN7 : gI h (b + 131) 7 = nI (noOf h b) := c_stat.2.1
  have gate : (∃ k, k < 4 ∧ v1 = nI k ∧ (∀ h, f_Tc_within v1 3 h = some (1, h)) ∧ ∀ a h, f_Mo_isGate a v1 h = some (1, h)) ∨ ((∀ h, f_Tc_within v1 3 h = some (0, h)) ∧ ∀ a h, f_Mo_isGate a v1 h = some (0, h)) := by
    rcases in_cases v1 3 3 rfl (by omega) with ⟨k, hk, rfl, u, i⟩ | ⟨u, i⟩
    · refine Or.inl ⟨k, by omega, rfl, u, fun a h => ?_⟩
      have e0 : ¬ nI k < 0 := nI_pos (by omega)
      have e1 : ¬ (4 : Int32) ≤ nI k := fun z => by
        have this : 4 ≤ k := (L_len (n := 4) (by omega) (by decide)).mp z
        omega
      unfold f_Mo_isGate
      rw [if_neg e0, if_neg e1, rtZ_1]
    · refine Or.inr ⟨u, fun a h => ?_⟩
      unfold f_Mo_isGate
      by_cases e0 : v1 < 0
      · rw [if_pos e0, rtZ_0]
      · rw [if_neg e0]
        by_cases e1 : (4 : Int32) ≤ v1
        · rw [if_pos e1, rtZ_0]
        · exfalso
          obtain ⟨k, hk, rfl⟩ := nI_of e0
          have hk4 : ¬ 4 ≤ k := fun z => e1 ((L_len (n := 4) (by omega) (by decide)).mpr z)
          have e3 : ¬ (3 : Int32) < nI k := fun z => by
            have this : 3 < k := (L_ltn (n := 3) (by omega) (by decide)).mp z
            omega
          have := u h
          unfold f_Tc_within at this
          rw [if_neg e0, if_neg e3, rtZ_1] at this
          have := congrArg (fun o => o.map Prod.fst) this
          exact absurd this (by simp)
  rcases gate with ⟨ga, hga, rfl, u1, i1⟩ | ⟨u1, i1⟩
  case inr => exact both_ref I0 (r := -1) (by simp [f_Tc_officer, u1, ↓ob_eq, ob_so, ldI, ldR, ldO, stI, stZ, stR, isO, wrA_n, rdA_n, wrA_l, rdA_l, gK_sI, gR_sI, gX_sI, gN_sI, gK_cp, gR_cp, gX_cp, gN_cp, rtZ_0, rtZ_1, if_true, reduceIte, and_self, true_and, and_true]) (by simp [f_Mo_officer, i1, ↓ob_eq, ob_so, ldI, ldR, ldO, stI, stZ, stR, isO, wrA_n, rdA_n, wrA_l, rdA_l, gK_sI, gR_sI, gX_sI, gN_sI, gK_cp, gR_cp, gX_cp, gN_cp, rtZ_0, rtZ_1, if_true, reduceIte, and_self, true_and, and_true, K131])
  rcases in_cases v2 9 9 rfl (by omega) with ⟨no, hno2, rfl, u2, i2⟩ | ⟨u2, i2⟩
  case inr => exact both_ref I0 (r := -1) (by simp [f_Tc_officer, u1, u2, ↓ob_eq, ob_so, ldI, ldR, ldO, stI, stZ, stR, isO, wrA_n, rdA_n, wrA_l, rdA_l, gK_sI, gR_sI, gX_sI, gN_sI, gK_cp, gR_cp, gX_cp, gN_cp, rtZ_0, rtZ_1, if_true, reduceIte, and_self, true_and, and_true]) (by simp [f_Mo_officer, i1, i2, ↓ob_eq, ob_so, ldI, ldR, ldO, stI, stZ, stR, isO, wrA_n, rdA_n, wrA_l, rdA_l, gK_sI, gR_sI, gX_sI, gN_sI, gK_cp, gR_cp, gX_cp, gN_cp, rtZ_0, rtZ_1, if_true, reduceIte, and_self, true_and, and_true, K131])
  rcases in_cases v3 9 9 rfl (by omega) with ⟨so, hso, rfl, u3, i3⟩ | ⟨u3, i3⟩
  case inr => exact both_ref I0 (r := -1) (by simp [f_Tc_officer, u1, u2, u3, ↓ob_eq, ob_so, ldI, ldR, ldO, stI, stZ, stR, isO, wrA_n, rdA_n, wrA_l, rdA_l, gK_sI, gR_sI, gX_sI, gN_sI, gK_cp, gR_cp, gX_cp, gN_cp, rtZ_0, rtZ_1, if_true, reduceIte, and_self, true_and, and_true]) (by simp [f_Mo_officer, i1, i2, i3, ↓ob_eq, ob_so, ldI, ldR, ldO, stI, stZ, stR, isO, wrA_n, rdA_n, wrA_l, rdA_l, gK_sI, gR_sI, gX_sI, gN_sI, gK_cp, gR_cp, gX_cp, gN_cp, rtZ_0, rtZ_1, if_true, reduceIte, and_self, true_and, and_true, K131])
  obtain ⟨n, hnd⟩ : ∃ n, n = ntOf h b := ⟨_, rfl⟩
  obtain ⟨m, hmd⟩ : ∃ m, m = noOf h b := ⟨_, rfl⟩
  have c_stat' := c_stat
  obtain ⟨s1, s2, s3⟩ := c_stat'
  rw [← hnd] at hnt ro F1 F7 F8 RT hN6 s1 s3
  rw [← hmd] at hno ro F9 RO hN7 s2 s3
  by_cases hm : m < 6
  · have e1 : nI m < 6 := (nI_ltL (n := 6) (by omega) (by decide)).mpr hm
    have e2 : ¬ nI m = 6 := fun e => by
      have this : m = 6 := (nI_eqL (n := 6) (by omega) (by decide)).mp e
      omega
    have e3 : ¬ nI m = -1 := nI_m1 (by omega)
    have a67 : 67 + m < 79 := by omega
    have a73 : 73 + m < 79 := by omega
    obtain ⟨h1, hh1⟩ : ∃ h1, h1 = sI (sI (sI (sI (sI (sI h (b + 8) m (nI ga)) (b + 9) m (nI no)) (b + 10) m (nI so)) (b + 11) m 0) (b + 2) 9 (nI (m + 1))) (b + 40) 2 0 := ⟨_, rfl⟩
    obtain ⟨h2, hh2⟩ : ∃ h2, h2 = sI (sI (sI (sI (sI (sI (sI h1 (b + 131) 0 0) (b + 132) (67 + m) (nI ga)) (b + 132) (73 + m) 0) (b + 137) m (nI no)) (b + 138) m (nI so)) (b + 131) 7 (nI (m + 1))) (b + 131) 3 0 := ⟨_, rfl⟩
    have t1 : Sn [(8, 0, 6), (9, 0, 6), (10, 0, 6), (11, 0, 6), (2, 9, 10), (40, 2, 3)] b h h1 := by
      rw [hh1]
      exact (((((Sn.rf.put 8 m _ (inL_in (lo := 0) (hi := 6) (by decide) (by omega) hm)).put 9 m _ (inL_in (lo := 0) (hi := 6) (by decide) (by omega) hm)).put 10 m _ (inL_in (lo := 0) (hi := 6) (by decide) (by omega) hm)).put 11 m _ (inL_in (lo := 0) (hi := 6) (by decide) (by omega) hm)).put 2 9 _ (by decide)).put 40 2 _ (by decide)
    have t2 : Sn [(131, 0, 1), (132, 0, 79), (137, 0, 6), (138, 0, 6), (131, 7, 8), (131, 3, 4)] b h1 h2 := by
      rw [hh2]
      exact ((((((Sn.rf.put 131 0 _ (by decide)).put 132 _ _ (inL_in (lo := 0) (hi := 79) (by decide) (by omega) a67)).put 132 _ _ (inL_in (lo := 0) (hi := 79) (by decide) (by omega) a73)).put 137 m _ (inL_in (lo := 0) (hi := 6) (by decide) (by omega) hm)).put 138 m _ (inL_in (lo := 0) (hi := 6) (by decide) (by omega) hm)).put 131 7 _ (by decide)).put 131 3 _ (by decide)
    have t := t1.app t2
    refine both_mk (r := nI m) (h1 := h1) (h2 := h2) ?_ t1 ?_ t2 ?_
    · rw [hh1]
      simp (disch := omega) [f_Tc_officer, f_Realm_addOfficer, f_Log_forget, u1, u2, u3, ↓ob_eq, ob_so, ldI, ldR, ldO, stI, stZ, stR, isO, wrA_n, rdA_n, wrA_l, rdA_l, gK_sI, gR_sI, gX_sI, gN_sI, gK_cp, gR_cp, gX_cp, gN_cp, rtZ_0, rtZ_1, if_true, reduceIte, and_self, true_and, and_true, K0, K1, K2, K8, K9, K10, K11, K40, R0_0, R0_1, R1_0, R2_10, R2_11, R2_12, R2_13, F9, e1, e3, hm, nI_addL, nI_pm1, gI_q, gI_n1, gI_n2]
    · have g7 : gI h1 (b + 131) 7 = nI m := by rw [t1.I (by decide)]; exact hN7
      have kk : gK h1 (b + 131) = (0, 9) ∧ gK h1 (b + 132) = (1, 79) ∧ gK h1 (b + 137) = (1, 6) ∧ gK h1 (b + 138) = (1, 6) := ⟨by rw [t1.1]; exact K131, by rw [t1.1]; exact K132, by rw [t1.1]; exact K137, by rw [t1.1]; exact K138⟩
      have rr : gR h1 (b + 131) 1 = some (b + 132) ∧ gR h1 (b + 131) 10 = some (b + 137) ∧ gR h1 (b + 131) 11 = some (b + 138) := ⟨by rw [t1.2.1]; exact R131_1, by rw [t1.2.1]; exact R131_10, by rw [t1.2.1]; exact R131_11⟩
      rw [hh2]
      simp (disch := omega) [f_Mo_officer, i1, i2, i3, ↓ob_eq, ob_so, ldI, ldR, ldO, stI, stZ, stR, isO, wrA_n, rdA_n, wrA_l, rdA_l, gK_sI, gR_sI, gX_sI, gN_sI, gK_cp, gR_cp, gX_cp, gN_cp, rtZ_0, rtZ_1, if_true, reduceIte, and_self, true_and, and_true, kk, rr, g7, e2, hm, a67, a73, L_addn, nI_addL, nI_pm1, gI_q, gI_n1, gI_n2]
    · have q6 : gI h2 (b + 131) 6 = nI n := by rw [hh2, hh1]; simp [gI_sI]; exact hN6
      have q7 : gI h2 (b + 131) 7 = nI (m + 1) := by rw [hh2]; simp [gI_sI]
      have en : ntOf h2 b = n := by unfold ntOf; rw [q6]; exact tn_nI (by omega)
      have em : noOf h2 b = m + 1 := by unfold noOf; rw [q7]; exact tn_nI (by omega)
      have z137 : ∀ j, gI h2 (b + 137) j = if j = m then nI no else gI h (b + 137) j := fun j => by rw [hh2, hh1]; simp [gI_sI]
      have z138 : ∀ j, gI h2 (b + 138) j = if j = m then nI so else gI h (b + 138) j := fun j => by rw [hh2, hh1]; simp [gI_sI]
      have z135 : ∀ j, gI h2 (b + 135) j = gI h (b + 135) j := fun j => by rw [hh2, hh1]; simp [gI_sI]
      have z136 : ∀ j, gI h2 (b + 136) j = gI h (b + 136) j := fun j => by rw [hh2, hh1]; simp [gI_sI]
      have z132 : ∀ j, gI h2 (b + 132) j = if j = 73 + m then 0 else if j = 67 + m then nI ga else gI h (b + 132) j := fun j => by rw [hh2, hh1]; simp [gI_sI]
      have w132 : ∀ j, j < 67 → gI h2 (b + 132) j = gI h (b + 132) j := fun j hj => by rw [z132, if_neg (by omega), if_neg (by omega)]
      have x67 : gI h2 (b + 132) (67 + m) = nI ga := by rw [z132, if_neg (by omega), if_pos rfl]
      have x73 : gI h2 (b + 132) (73 + m) = 0 := by rw [z132, if_pos rfl]
      have y67 : ∀ k, k < m → gI h2 (b + 132) (67 + k) = gI h (b + 132) (67 + k) ∧ gI h2 (b + 132) (73 + k) = gI h (b + 132) (73 + k) := fun k hk => by
        refine ⟨?_, ?_⟩ <;> rw [z132, if_neg (by omega), if_neg (by omega)]
      have n_stat : C_stat h2 b := by
        refine ⟨by rw [en]; exact q6, by rw [em]; exact q7, ?_⟩
        rw [en, em]
        obtain ⟨s4, s5, s6, s7⟩ := s3
        refine ⟨s4, by omega, fun k hk => ?_, fun o ho => ?_⟩
        · rw [z135, z136]; exact s6 k hk
        · rw [z137, z138]
          by_cases y : o = m
          · rw [if_pos y, if_pos y]; exact ⟨⟨no, hno2, rfl⟩, so, hso, rfl⟩
          · rw [if_neg y, if_neg y]; exact s7 o (by omega)
      have n_realm : C_realm h2 b := by
        unfold C_realm RealmAt RlR
        rw [en, em]
        obtain ⟨r1, r2, r3, r4, r5⟩ := ro
        refine ⟨⟨hnt, by omega⟩, ⟨?_, ?_, ?_, fun k hk => ?_, fun o ho => ?_⟩, ?_, ?_, ?_, ?_, ?_, ?_, ?_, ?_, ?_, ?_, ?_, fun k hk => ?_, fun o ho => ?_⟩
        · rw [w132 0 (by omega)]; exact r1
        · rw [w132 2 (by omega)]; exact r2
        · rw [w132 6 (by omega)]; exact r3
        · rw [w132 _ (by omega), w132 _ (by omega), w132 _ (by omega), w132 _ (by omega), w132 _ (by omega)]; exact r4 k hk
        · by_cases y : o = m
          · rw [y, x67, x73]; exact ⟨⟨ga, hga, rfl⟩, 0, by omega, rfl⟩
          · rw [(y67 o (by omega)).1, (y67 o (by omega)).2]; exact r5 o (by omega)
        · rw [← F1, hh2, hh1]; simp [gI_sI]
        · rw [hh2, hh1]; simp [gI_sI]
        · rw [w132 1 (by omega), ← F0, hh2, hh1]; simp [gI_sI]
        · rw [w132 3 (by omega), ← F15, hh2, hh1]; simp [gI_sI]
        · rw [w132 4 (by omega), ← F16, hh2, hh1]; simp [gI_sI]
        · rw [w132 5 (by omega), ← F17, hh2, hh1]; simp [gI_sI]
        · rw [w132 0 (by omega), ← F18, hh2, hh1]; simp [gI_sI]
        · rw [w132 2 (by omega), ← F19, hh2, hh1]; simp [gI_sI]
        · rw [w132 6 (by omega), ← F14, hh2, hh1]; simp [gI_sI]
        · rw [bs_cg (q := fun t => gI h (b + 132) (43 + t) == 1) (fun k hk => by rw [w132 _ (by omega)]), ← F7, hh2, hh1]; simp [gI_sI]
        · rw [bs_cg (q := fun t => gI h (b + 132) (55 + t) == 1) (fun k hk => by rw [w132 _ (by omega)]), ← F8, hh2, hh1]; simp [gI_sI]
        · have f3 : gI h2 (b + 3) k = gI h (b + 3) k := by rw [hh2, hh1]; simp [gI_sI]
          have f4 : gI h2 (b + 4) k = gI h (b + 4) k := by rw [hh2, hh1]; simp [gI_sI]
          have f5 : gI h2 (b + 5) k = gI h (b + 5) k := by rw [hh2, hh1]; simp [gI_sI]
          have f6 : gI h2 (b + 6) k = gI h (b + 6) k := by rw [hh2, hh1]; simp [gI_sI]
          have f7 : gI h2 (b + 7) k = gI h (b + 7) k := by rw [hh2, hh1]; simp [gI_sI]
          show gI h2 (b + 3) k = gI h2 (b + 135) k ∧ gI h2 (b + 4) k = gI h2 (b + 136) k ∧ gI h2 (b + 5) k = gI h2 (b + 132) (7 + k) ∧ gI h2 (b + 6) k = gI h2 (b + 132) (19 + k) ∧ gI h2 (b + 7) k = gI h2 (b + 132) (31 + k) - 1
          rw [f3, f4, f5, f6, f7, z135, z136, w132 _ (by omega), w132 _ (by omega), w132 _ (by omega)]
          exact RT k hk
        · show gI h2 (b + 8) o = gI h2 (b + 132) (67 + o) ∧ gI h2 (b + 9) o = gI h2 (b + 137) o ∧ gI h2 (b + 10) o = gI h2 (b + 138) o ∧ gI h2 (b + 11) o = gI h2 (b + 132) (73 + o)
          have f8 : gI h2 (b + 8) o = if o = m then nI ga else gI h (b + 8) o := by rw [hh2, hh1]; simp [gI_sI]
          have f9 : gI h2 (b + 9) o = if o = m then nI no else gI h (b + 9) o := by rw [hh2, hh1]; simp [gI_sI]
          have f10 : gI h2 (b + 10) o = if o = m then nI so else gI h (b + 10) o := by rw [hh2, hh1]; simp [gI_sI]
          have f11 : gI h2 (b + 11) o = if o = m then 0 else gI h (b + 11) o := by rw [hh2, hh1]; simp [gI_sI]
          rw [f8, f9, f10, f11, z137, z138]
          by_cases y : o = m
          · rw [y, x67, x73]; simp only [if_true]; simp
          · rw [(y67 o (by omega)).1, (y67 o (by omega)).2]; simp only [y, if_false]; exact RO o (by omega)
      have n_log : C_log h2 b := by
        refine C_log_0 (by omega) (by omega) ?_ ?_ ?_
        · rw [t.I (by decide)]; exact c_log.nx
        · rw [hh2, hh1]; simp [gI_sI]
        · rw [hh2, hh1]; simp [gI_sI]
      have n_kin : C_kin h2 b := by
        unfold C_kin at c_kin ⊢
        rw [en, t.I (o := 131) (j := 36) (by decide)]
        rw [← hnd] at c_kin
        exact KinR.cg (fun j hj => t.2.2.2.2 19 j (by simp [inL])) (fun j hj => t.2.2.2.2 20 j (by simp [inL])) (fun j hj => t.2.2.2.2 150 j (by simp [inL])) c_kin
      have n_shi : C_shi h2 b := by
        unfold C_shi at c_shi ⊢
        rw [en, em, t.I (o := 131) (j := 38) (by decide)]
        rw [← hnd, ← hmd] at c_shi
        exact ShiR.cg (fun j hj => t.2.2.2.2 21 j (by simp [inL])) (fun j hj => t.2.2.2.2 22 j (by simp [inL])) (fun j hj => t.2.2.2.2 151 j (by simp [inL])) (c_shi.up (Nat.le_refl _) (by omega))
      exact ⟨s.sn t, cd.cg t, n_stat, n_realm, c_book.cg t (by decide), c_law.cg t (by decide), n_kin, n_shi, c_roa.cg t (by decide), c_ord.cg t (by decide), c_han.cg t (by decide), c_wei.cg t (by decide), c_bag.cg t (by decide), c_pri.cg t (by decide), c_cnt.cg t (by decide), c_led.cg t (by decide), c_yea.cg t (by decide), n_log, c_rdr.cg t (by decide), c_msc.cg t (by decide), c_img.cg t (by decide)⟩
  · obtain rfl : m = 6 := by omega
    have e1 : ¬ nI 6 < 6 := by decide
    have e2 : (nI 6 = 6) = True := eq_true rfl
    have g7 : gI (sI h (b + 131) 0 0) (b + 131) 7 = nI 6 := by simp (disch := omega) only [gI_q, gI_n1, gI_n2]; exact hN7
    exact both_ref I0 (r := -1) (by simp [f_Tc_officer, f_Realm_addOfficer, u1, u2, u3, ↓ob_eq, ob_so, ldI, ldR, ldO, stI, stZ, stR, isO, wrA_n, rdA_n, wrA_l, rdA_l, gK_sI, gR_sI, gX_sI, gN_sI, gK_cp, gR_cp, gX_cp, gN_cp, rtZ_0, rtZ_1, if_true, reduceIte, and_self, true_and, and_true, K0, K1, K2, R0_0, R1_0, F9, e1]) (by simp [f_Mo_officer, i1, i2, i3, ↓ob_eq, ob_so, ldI, ldR, ldO, stI, stZ, stR, isO, wrA_n, rdA_n, wrA_l, rdA_l, gK_sI, gR_sI, gX_sI, gN_sI, gK_cp, gR_cp, gX_cp, gN_cp, rtZ_0, rtZ_1, if_true, reduceIte, and_self, true_and, and_true, K131, g7, e2])
