/-! ===== traveller, officer ===== -/
theorem KinR.up {nt : Nat} {F C : Nat → Int32} {many : Int32} {mk : Nat → Int32} (h : KinR nt F C many mk) : KinR (nt + 1) F C many mk := by
  obtain ⟨n, h1, h2, h3, h4, h5⟩ := h
  refine ⟨n, h1, h2, h3, fun l hl => ?_, h5⟩
  obtain ⟨x, y, a1, a2, a3⟩ := h4 l hl
  exact ⟨x, y, by omega, by omega, a3⟩
theorem ShiR.up {nt no nt' no' : Nat} {F C : Nat → Int32} {many : Int32} {md : Nat → Int32} (e1 : nt ≤ nt') (e2 : no ≤ no') (h : ShiR nt no F C many md) : ShiR nt' no' F C many md := by
  obtain ⟨n, h1, h2, h3, h4⟩ := h
  refine ⟨n, h1, h2, h3, fun l hl => ?_⟩
  obtain ⟨hr, w, who, a1, a2, a3, a4, a5⟩ := h4 l hl
  exact ⟨hr, w, who, a1, a2, fun q => by have := a3 q; omega, fun q => by have := a4 q; omega, a5⟩
theorem nI_pm1 {n : Nat} : nI (n + 1) - 1 = nI n := pk_sub (a := n + 1) (b := 1) (by omega)
theorem op_traveller (b : Nat) : B_traveller (Inv b) b (b + 131) := by
  intro h I v1 v2 v3
  have I0 := I
  obtain ⟨s, cd, c_stat, c_realm, c_book, c_law, c_kin, c_shi, c_roa, c_ord, c_han, c_wei, c_bag, c_pri, c_cnt, c_led, c_yea, c_log, c_rdr, c_msc, c_img⟩ := I
  have K0 : gK h b = (0, 8) := s.K 0 (by decide) rfl
  have K1 : gK h (b + 1) = (0, 1) := s.K 1 (by decide) rfl
  have K2 : gK h (b + 2) = (0, 5) := s.K 2 (by decide) rfl
  have K3 : gK h (b + 3) = (1, 12) := s.K 3 (by decide) rfl
  have K4 : gK h (b + 4) = (1, 12) := s.K 4 (by decide) rfl
  have K5 : gK h (b + 5) = (1, 12) := s.K 5 (by decide) rfl
  have K6 : gK h (b + 6) = (1, 12) := s.K 6 (by decide) rfl
  have K7 : gK h (b + 7) = (1, 12) := s.K 7 (by decide) rfl
  have K40 : gK h (b + 40) = (0, 3) := s.K 40 (by decide) rfl
  have K131 : gK h (b + 131) = (0, 9) := s.K 131 (by decide) rfl
  have K132 : gK h (b + 132) = (1, 79) := s.K 132 (by decide) rfl
  have K135 : gK h (b + 135) = (1, 12) := s.K 135 (by decide) rfl
  have K136 : gK h (b + 136) = (1, 12) := s.K 136 (by decide) rfl
  have R0_0 : gR h b 0 = some (b + 1) := s.R 0 0 rfl
  have R0_1 : gR h b 1 = some (b + 40) := s.R 0 1 rfl
  have R1_0 : gR h (b + 1) 0 = some (b + 2) := s.R 1 0 rfl
  have R2_2 : gR h (b + 2) 2 = some (b + 3) := s.R 2 2 rfl
  have R2_3 : gR h (b + 2) 3 = some (b + 4) := s.R 2 3 rfl
  have R2_4 : gR h (b + 2) 4 = some (b + 5) := s.R 2 4 rfl
  have R2_5 : gR h (b + 2) 5 = some (b + 6) := s.R 2 5 rfl
  have R2_6 : gR h (b + 2) 6 = some (b + 7) := s.R 2 6 rfl
  have R131_1 : gR h (b + 131) 1 = some (b + 132) := s.R 131 1 rfl
  have R131_8 : gR h (b + 131) 8 = some (b + 135) := s.R 131 8 rfl
  have R131_9 : gR h (b + 131) 9 = some (b + 136) := s.R 131 9 rfl
  have cr := c_realm
  obtain ⟨⟨hnt, hno⟩, ro, F1, F9, F0, F15, F16, F17, F18, F19, F14, F7, F8, RT, RO⟩ := cr
  have RT : ∀ t, t < ntOf h b → gI h (b + 3) t = gI h (b + 135) t ∧ gI h (b + 4) t = gI h (b + 136) t ∧ gI h (b + 5) t = gI h (b + 132) (7 + t) ∧ gI h (b + 6) t = gI h (b + 132) (19 + t) ∧ gI h (b + 7) t = gI h (b + 132) (31 + t) - 1 := RT
  have RO : ∀ o, o < noOf h b → gI h (b + 8) o = gI h (b + 132) (67 + o) ∧ gI h (b + 9) o = gI h (b + 137) o ∧ gI h (b + 10) o = gI h (b + 138) o ∧ gI h (b + 11) o = gI h (b + 132) (73 + o) := RO
  have hN6 : gI h (b + 131) 6 = nI (ntOf h b) := c_stat.1
  have hN7 : gI h (b + 131) 7 = nI (noOf h b) := c_stat.2.1
  rcases in_cases v1 5 5 rfl (by omega) with ⟨ca, hca, rfl, u1, i1⟩ | ⟨u1, i1⟩
  case inr => exact both_ref I0 (r := -1) (by simp [f_Tc_traveller, u1, ↓ob_eq, ob_so, ldI, ldR, ldO, stI, stZ, stR, isO, wrA_n, rdA_n, wrA_l, rdA_l, gK_sI, gR_sI, gX_sI, gN_sI, gK_cp, gR_cp, gX_cp, gN_cp, rtZ_0, rtZ_1, if_true, reduceIte, and_self, true_and, and_true]) (by simp [f_Mo_traveller, i1, ↓ob_eq, ob_so, ldI, ldR, ldO, stI, stZ, stR, isO, wrA_n, rdA_n, wrA_l, rdA_l, gK_sI, gR_sI, gX_sI, gN_sI, gK_cp, gR_cp, gX_cp, gN_cp, rtZ_0, rtZ_1, if_true, reduceIte, and_self, true_and, and_true, K131])
  rcases in_cases v2 9 9 rfl (by omega) with ⟨gr, hgr, rfl, u2, i2⟩ | ⟨u2, i2⟩
  case inr => exact both_ref I0 (r := -1) (by simp [f_Tc_traveller, u1, u2, ↓ob_eq, ob_so, ldI, ldR, ldO, stI, stZ, stR, isO, wrA_n, rdA_n, wrA_l, rdA_l, gK_sI, gR_sI, gX_sI, gN_sI, gK_cp, gR_cp, gX_cp, gN_cp, rtZ_0, rtZ_1, if_true, reduceIte, and_self, true_and, and_true]) (by simp [f_Mo_traveller, i1, i2, ↓ob_eq, ob_so, ldI, ldR, ldO, stI, stZ, stR, isO, wrA_n, rdA_n, wrA_l, rdA_l, gK_sI, gR_sI, gX_sI, gN_sI, gK_cp, gR_cp, gX_cp, gN_cp, rtZ_0, rtZ_1, if_true, reduceIte, and_self, true_and, and_true, K131])
  rcases in_cases v3 9999 9999 rfl (by omega) with ⟨co, hco, rfl, u3, i3⟩ | ⟨u3, i3⟩
  case inr => exact both_ref I0 (r := -1) (by simp [f_Tc_traveller, u1, u2, u3, ↓ob_eq, ob_so, ldI, ldR, ldO, stI, stZ, stR, isO, wrA_n, rdA_n, wrA_l, rdA_l, gK_sI, gR_sI, gX_sI, gN_sI, gK_cp, gR_cp, gX_cp, gN_cp, rtZ_0, rtZ_1, if_true, reduceIte, and_self, true_and, and_true]) (by simp [f_Mo_traveller, i1, i2, i3, ↓ob_eq, ob_so, ldI, ldR, ldO, stI, stZ, stR, isO, wrA_n, rdA_n, wrA_l, rdA_l, gK_sI, gR_sI, gX_sI, gN_sI, gK_cp, gR_cp, gX_cp, gN_cp, rtZ_0, rtZ_1, if_true, reduceIte, and_self, true_and, and_true, K131])
  obtain ⟨n, hnd⟩ : ∃ n, n = ntOf h b := ⟨_, rfl⟩
  obtain ⟨m, hmd⟩ : ∃ m, m = noOf h b := ⟨_, rfl⟩
  have c_stat' := c_stat
  obtain ⟨s1, s2, s3⟩ := c_stat'
  rw [← hnd] at hnt ro F1 F7 F8 RT hN6 s1 s3
  rw [← hmd] at hno ro F9 RO hN7 s2 s3
  by_cases hn : n < 12
  · have e1 : nI n < 12 := (nI_ltL (n := 12) (by omega) (by decide)).mpr hn
    have e2 : ¬ nI n = 12 := fun e => by
      have this : n = 12 := (nI_eqL (n := 12) (by omega) (by decide)).mp e
      omega
    have e3 : ¬ nI n = -1 := nI_m1 (by omega)
    have a7 : 7 + n < 79 := by omega
    have a19 : 19 + n < 79 := by omega
    have a31 : 31 + n < 79 := by omega
    have a43 : 43 + n < 79 := by omega
    have a55 : 55 + n < 79 := by omega
    obtain ⟨h1, hh1⟩ : ∃ h1, h1 = sI (sI (sI (sI (sI (sI (sI h (b + 3) n (nI ca)) (b + 4) n (nI gr)) (b + 5) n (nI co)) (b + 6) n 0) (b + 7) n (-1)) (b + 2) 1 (nI (n + 1))) (b + 40) 2 0 := ⟨_, rfl⟩
    obtain ⟨h2, hh2⟩ : ∃ h2, h2 = sI (sI (sI (sI (sI (sI (sI (sI (sI (sI h1 (b + 131) 0 0) (b + 135) n (nI ca)) (b + 136) n (nI gr)) (b + 132) (7 + n) (nI co)) (b + 132) (19 + n) 0) (b + 132) (31 + n) 0) (b + 132) (43 + n) 0) (b + 132) (55 + n) 0) (b + 131) 6 (nI (n + 1))) (b + 131) 3 0 := ⟨_, rfl⟩
    have t1 : Sn [(3, 0, 12), (4, 0, 12), (5, 0, 12), (6, 0, 12), (7, 0, 12), (2, 1, 2), (40, 2, 3)] b h h1 := by
      rw [hh1]
      exact ((((((Sn.rf.put 3 n _ (inL_in (lo := 0) (hi := 12) (by decide) (by omega) hn)).put 4 n _ (inL_in (lo := 0) (hi := 12) (by decide) (by omega) hn)).put 5 n _ (inL_in (lo := 0) (hi := 12) (by decide) (by omega) hn)).put 6 n _ (inL_in (lo := 0) (hi := 12) (by decide) (by omega) hn)).put 7 n _ (inL_in (lo := 0) (hi := 12) (by decide) (by omega) hn)).put 2 1 _ (by decide)).put 40 2 _ (by decide)
    have t2 : Sn [(131, 0, 1), (135, 0, 12), (136, 0, 12), (132, 0, 79), (131, 6, 7), (131, 3, 4)] b h1 h2 := by
      rw [hh2]
      exact (((((((((Sn.rf.put 131 0 _ (by decide)).put 135 n _ (inL_in (lo := 0) (hi := 12) (by decide) (by omega) hn)).put 136 n _ (inL_in (lo := 0) (hi := 12) (by decide) (by omega) hn)).put 132 _ _ (inL_in (lo := 0) (hi := 79) (by decide) (by omega) a7)).put 132 _ _ (inL_in (lo := 0) (hi := 79) (by decide) (by omega) a19)).put 132 _ _ (inL_in (lo := 0) (hi := 79) (by decide) (by omega) a31)).put 132 _ _ (inL_in (lo := 0) (hi := 79) (by decide) (by omega) a43)).put 132 _ _ (inL_in (lo := 0) (hi := 79) (by decide) (by omega) a55)).put 131 6 _ (by decide)).put 131 3 _ (by decide)
    have t := t1.app t2
    refine both_mk (r := nI n) (h1 := h1) (h2 := h2) ?_ t1 ?_ t2 ?_
    · rw [hh1]
      simp (disch := omega) [f_Tc_traveller, f_Realm_addTraveller, f_Log_forget, u1, u2, u3, ↓ob_eq, ob_so, ldI, ldR, ldO, stI, stZ, stR, isO, wrA_n, rdA_n, wrA_l, rdA_l, gK_sI, gR_sI, gX_sI, gN_sI, gK_cp, gR_cp, gX_cp, gN_cp, rtZ_0, rtZ_1, if_true, reduceIte, and_self, true_and, and_true, K0, K1, K2, K3, K4, K5, K6, K7, K40, R0_0, R0_1, R1_0, R2_2, R2_3, R2_4, R2_5, R2_6, F1, e1, e3, hn, nI_addL, nI_pm1, gI_q, gI_n1, gI_n2]
    · have g6 : gI h1 (b + 131) 6 = nI n := by rw [t1.I (by decide)]; exact hN6
      have kk : gK h1 (b + 131) = (0, 9) ∧ gK h1 (b + 132) = (1, 79) ∧ gK h1 (b + 135) = (1, 12) ∧ gK h1 (b + 136) = (1, 12) := ⟨by rw [t1.1]; exact K131, by rw [t1.1]; exact K132, by rw [t1.1]; exact K135, by rw [t1.1]; exact K136⟩
      have rr : gR h1 (b + 131) 1 = some (b + 132) ∧ gR h1 (b + 131) 8 = some (b + 135) ∧ gR h1 (b + 131) 9 = some (b + 136) := ⟨by rw [t1.2.1]; exact R131_1, by rw [t1.2.1]; exact R131_8, by rw [t1.2.1]; exact R131_9⟩
      rw [hh2]
      simp (disch := omega) [f_Mo_traveller, i1, i2, i3, ↓ob_eq, ob_so, ldI, ldR, ldO, stI, stZ, stR, isO, wrA_n, rdA_n, wrA_l, rdA_l, gK_sI, gR_sI, gX_sI, gN_sI, gK_cp, gR_cp, gX_cp, gN_cp, rtZ_0, rtZ_1, if_true, reduceIte, and_self, true_and, and_true, kk, rr, g6, e2, hn, a7, a19, a31, a43, a55, L_addn, nI_addL, gI_q, gI_n1, gI_n2]
    · -- what is in the new heap
      have q6 : gI h2 (b + 131) 6 = nI (n + 1) := by rw [hh2]; simp [gI_sI]
      have q7 : gI h2 (b + 131) 7 = nI m := by rw [hh2, hh1]; simp [gI_sI]; exact hN7
      have en : ntOf h2 b = n + 1 := by unfold ntOf; rw [q6]; exact tn_nI (by omega)
      have em : noOf h2 b = m := by unfold noOf; rw [q7]; exact tn_nI (by omega)
      have z135 : ∀ j, gI h2 (b + 135) j = if j = n then nI ca else gI h (b + 135) j := fun j => by rw [hh2, hh1]; simp [gI_sI]
      have z136 : ∀ j, gI h2 (b + 136) j = if j = n then nI gr else gI h (b + 136) j := fun j => by rw [hh2, hh1]; simp [gI_sI]
      have z137 : ∀ j, gI h2 (b + 137) j = gI h (b + 137) j := fun j => by rw [hh2, hh1]; simp [gI_sI]
      have z138 : ∀ j, gI h2 (b + 138) j = gI h (b + 138) j := fun j => by rw [hh2, hh1]; simp [gI_sI]
      have z132 : ∀ j, gI h2 (b + 132) j = if j = 55 + n then 0 else if j = 43 + n then 0 else if j = 31 + n then 0 else if j = 19 + n then 0 else if j = 7 + n then nI co else gI h (b + 132) j := fun j => by rw [hh2, hh1]; simp [gI_sI]
      have w132 : ∀ j, (j < 7 ∨ 67 ≤ j) → gI h2 (b + 132) j = gI h (b + 132) j := fun j hj => by
        rw [z132, if_neg (by omega), if_neg (by omega), if_neg (by omega), if_neg (by omega), if_neg (by omega)]
      have x7 : gI h2 (b + 132) (7 + n) = nI co := by rw [z132, if_neg (by omega), if_neg (by omega), if_neg (by omega), if_neg (by omega), if_pos rfl]
      have x19 : gI h2 (b + 132) (19 + n) = 0 := by rw [z132, if_neg (by omega), if_neg (by omega), if_neg (by omega), if_pos rfl]
      have x31 : gI h2 (b + 132) (31 + n) = 0 := by rw [z132, if_neg (by omega), if_neg (by omega), if_pos rfl]
      have x43 : gI h2 (b + 132) (43 + n) = 0 := by rw [z132, if_neg (by omega), if_pos rfl]
      have x55 : gI h2 (b + 132) (55 + n) = 0 := by rw [z132, if_pos rfl]
      have y7 : ∀ k, k < n → gI h2 (b + 132) (7 + k) = gI h (b + 132) (7 + k) ∧ gI h2 (b + 132) (19 + k) = gI h (b + 132) (19 + k) ∧ gI h2 (b + 132) (31 + k) = gI h (b + 132) (31 + k) ∧ gI h2 (b + 132) (43 + k) = gI h (b + 132) (43 + k) ∧ gI h2 (b + 132) (55 + k) = gI h (b + 132) (55 + k) := fun k hk => by
        refine ⟨?_, ?_, ?_, ?_, ?_⟩ <;> rw [z132, if_neg (by omega), if_neg (by omega), if_neg (by omega), if_neg (by omega), if_neg (by omega)]
      have n_stat : C_stat h2 b := by
        refine ⟨by rw [en]; exact q6, by rw [em]; exact q7, ?_⟩
        rw [en, em]
        obtain ⟨s4, s5, s6, s7⟩ := s3
        refine ⟨by omega, s5, fun k hk => ?_, fun o ho => ?_⟩
        · rw [z135, z136]
          by_cases y : k = n
          · rw [if_pos y, if_pos y]; exact ⟨⟨ca, hca, rfl⟩, gr, hgr, rfl⟩
          · rw [if_neg y, if_neg y]; exact s6 k (by omega)
        · rw [z137, z138]; exact s7 o ho
      have n_realm : C_realm h2 b := by
        unfold C_realm RealmAt RlR
        rw [en, em]
        obtain ⟨r1, r2, r3, r4, r5⟩ := ro
        refine ⟨⟨by omega, hno⟩, ⟨?_, ?_, ?_, fun k hk => ?_, fun o ho => ?_⟩, ?_, ?_, ?_, ?_, ?_, ?_, ?_, ?_, ?_, ?_, ?_, fun k hk => ?_, fun o ho => ?_⟩
        · rw [w132 0 (by omega)]; exact r1
        · rw [w132 2 (by omega)]; exact r2
        · rw [w132 6 (by omega)]; exact r3
        · by_cases y : k = n
          · rw [y, x7, x19, x31, x43, x55]
            exact ⟨⟨co, hco, rfl⟩, ⟨0, by omega, rfl⟩, ⟨0, by omega, rfl⟩, Or.inl rfl, Or.inl rfl⟩
          · obtain ⟨y1, y2, y3, y4, y5⟩ := y7 k (by omega)
            rw [y1, y2, y3, y4, y5]; exact r4 k (by omega)
        · rw [w132 _ (by omega), w132 _ (by omega)]; exact r5 o ho
        · rw [hh2, hh1]; simp [gI_sI]
        · rw [hh2, hh1]; simp [gI_sI]; exact F9
        · rw [w132 1 (by omega), ← F0, hh2, hh1]; simp [gI_sI]
        · rw [w132 3 (by omega), ← F15, hh2, hh1]; simp [gI_sI]
        · rw [w132 4 (by omega), ← F16, hh2, hh1]; simp [gI_sI]
        · rw [w132 5 (by omega), ← F17, hh2, hh1]; simp [gI_sI]
        · rw [w132 0 (by omega), ← F18, hh2, hh1]; simp [gI_sI]
        · rw [w132 2 (by omega), ← F19, hh2, hh1]; simp [gI_sI]
        · rw [w132 6 (by omega), ← F14, hh2, hh1]; simp [gI_sI]
        · rw [bs_no _ n (by rw [x43]; decide), bs_cg (fun k hk => by rw [(y7 k hk).2.2.2.1]), ← F7, hh2, hh1]; simp [gI_sI]
        · rw [bs_no _ n (by rw [x55]; decide), bs_cg (fun k hk => by rw [(y7 k hk).2.2.2.2]), ← F8, hh2, hh1]; simp [gI_sI]
        · have f3 : gI h2 (b + 3) k = if k = n then nI ca else gI h (b + 3) k := by rw [hh2, hh1]; simp [gI_sI]
          have f4 : gI h2 (b + 4) k = if k = n then nI gr else gI h (b + 4) k := by rw [hh2, hh1]; simp [gI_sI]
          have f5 : gI h2 (b + 5) k = if k = n then nI co else gI h (b + 5) k := by rw [hh2, hh1]; simp [gI_sI]
          have f6 : gI h2 (b + 6) k = if k = n then 0 else gI h (b + 6) k := by rw [hh2, hh1]; simp [gI_sI]
          have f7 : gI h2 (b + 7) k = if k = n then -1 else gI h (b + 7) k := by rw [hh2, hh1]; simp [gI_sI]
          show gI h2 (b + 3) k = gI h2 (b + 135) k ∧ gI h2 (b + 4) k = gI h2 (b + 136) k ∧ gI h2 (b + 5) k = gI h2 (b + 132) (7 + k) ∧ gI h2 (b + 6) k = gI h2 (b + 132) (19 + k) ∧ gI h2 (b + 7) k = gI h2 (b + 132) (31 + k) - 1
          rw [f3, f4, f5, f6, f7, z135, z136]
          by_cases y : k = n
          · rw [y, x7, x19, x31]; simp only [if_true]; decide
          · obtain ⟨y1, y2, y3, y4, y5⟩ := y7 k (by omega)
            rw [y1, y2, y3]; simp only [y, if_false]; exact RT k (by omega)
        · show gI h2 (b + 8) o = gI h2 (b + 132) (67 + o) ∧ gI h2 (b + 9) o = gI h2 (b + 137) o ∧ gI h2 (b + 10) o = gI h2 (b + 138) o ∧ gI h2 (b + 11) o = gI h2 (b + 132) (73 + o)
          have f8 : gI h2 (b + 8) o = gI h (b + 8) o := by rw [hh2, hh1]; simp [gI_sI]
          have f9 : gI h2 (b + 9) o = gI h (b + 9) o := by rw [hh2, hh1]; simp [gI_sI]
          have f10 : gI h2 (b + 10) o = gI h (b + 10) o := by rw [hh2, hh1]; simp [gI_sI]
          have f11 : gI h2 (b + 11) o = gI h (b + 11) o := by rw [hh2, hh1]; simp [gI_sI]
          rw [f8, f9, f10, f11, z137, z138, w132 _ (by omega), w132 _ (by omega)]
          exact RO o ho
      have n_log : C_log h2 b := by
        refine C_log_0 (by omega) (by omega) ?_ ?_ ?_
        · rw [t.I (by decide)]; exact c_log.nx
        · rw [hh2, hh1]; simp [gI_sI]
        · rw [hh2, hh1]; simp [gI_sI]
      have n_kin : C_kin h2 b := by
        unfold C_kin at c_kin ⊢
        rw [en, t.I (o := 131) (j := 36) (by decide)]
        rw [← hnd] at c_kin
        exact KinR.cg (fun j hj => t.2.2.2.2 19 j (by simp [inL])) (fun j hj => t.2.2.2.2 20 j (by simp [inL])) (fun j hj => t.2.2.2.2 150 j (by simp [inL])) c_kin.up
      have n_shi : C_shi h2 b := by
        unfold C_shi at c_shi ⊢
        rw [en, em, t.I (o := 131) (j := 38) (by decide)]
        rw [← hnd, ← hmd] at c_shi
        exact ShiR.cg (fun j hj => t.2.2.2.2 21 j (by simp [inL])) (fun j hj => t.2.2.2.2 22 j (by simp [inL])) (fun j hj => t.2.2.2.2 151 j (by simp [inL])) (c_shi.up (by omega) (Nat.le_refl _))
      exact ⟨s.sn t, cd.cg t, n_stat, n_realm, c_book.cg t (by decide), c_law.cg t (by decide), n_kin, n_shi, c_roa.cg t (by decide), c_ord.cg t (by decide), c_han.cg t (by decide), c_wei.cg t (by decide), c_bag.cg t (by decide), c_pri.cg t (by decide), c_cnt.cg t (by decide), c_led.cg t (by decide), c_yea.cg t (by decide), n_log, c_rdr.cg t (by decide), c_msc.cg t (by decide), c_img.cg t (by decide)⟩
  · obtain rfl : n = 12 := by omega
    have e1 : ¬ nI 12 < 12 := by decide
    have e2 : (nI 12 = 12) = True := eq_true rfl
    have g6 : gI (sI h (b + 131) 0 0) (b + 131) 6 = nI 12 := by simp (disch := omega) only [gI_q, gI_n1, gI_n2]; exact hN6
    exact both_ref I0 (r := -1) (by simp [f_Tc_traveller, f_Realm_addTraveller, u1, u2, u3, ↓ob_eq, ob_so, ldI, ldR, ldO, stI, stZ, stR, isO, wrA_n, rdA_n, wrA_l, rdA_l, gK_sI, gR_sI, gX_sI, gN_sI, gK_cp, gR_cp, gX_cp, gN_cp, rtZ_0, rtZ_1, if_true, reduceIte, and_self, true_and, and_true, K0, K1, K2, R0_0, R1_0, F1, e1]) (by simp [f_Mo_traveller, i1, i2, i3, ↓ob_eq, ob_so, ldI, ldR, ldO, stI, stZ, stR, isO, wrA_n, rdA_n, wrA_l, rdA_l, gK_sI, gR_sI, gX_sI, gN_sI, gK_cp, gR_cp, gX_cp, gN_cp, rtZ_0, rtZ_1, if_true, reduceIte, and_self, true_and, and_true, K131, g6, e2])
