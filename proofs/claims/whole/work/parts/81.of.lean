theorem op_of (b : Nat) : B_of (Inv b) b (b + 131) := by
  intro h I v1 v2
  have I0 := I
  obtain ⟨s, cd, c_stat, c_realm, c_book, c_law, c_kin, c_shi, c_roa, c_ord, c_han, c_wei, c_bag, c_pri, c_cnt, c_led, c_yea, c_log, c_rdr, c_msc, c_img⟩ := I
  have K0 : gK h b = (0, 8) := s.K 0 (by decide) rfl
  have K1 : gK h (b + 1) = (0, 1) := s.K 1 (by decide) rfl
  have K2 : gK h (b + 2) = (0, 5) := s.K 2 (by decide) rfl
  have K3 : gK h (b + 3) = (1, 12) := s.K 3 (by decide) rfl
  have K4 : gK h (b + 4) = (1, 12) := s.K 4 (by decide) rfl
  have K5 : gK h (b + 5) = (1, 12) := s.K 5 (by decide) rfl
  have K6 : gK h (b + 6) = (1, 12) := s.K 6 (by decide) rfl
  have K7 : gK h (b + 7) = (1, 12) := s.K 7 (by decide) rfl
  have K131 : gK h (b + 131) = (0, 9) := s.K 131 (by decide) rfl
  have K132 : gK h (b + 132) = (1, 79) := s.K 132 (by decide) rfl
  have K135 : gK h (b + 135) = (1, 12) := s.K 135 (by decide) rfl
  have K136 : gK h (b + 136) = (1, 12) := s.K 136 (by decide) rfl
  have K150 : gK h (b + 150) = (1, 24) := s.K 150 (by decide) rfl
  have R0_0 : gR h b 0 = some (b + 1) := s.R 0 0 rfl
  have R1_0 : gR h (b + 1) 0 = some (b + 2) := s.R 1 0 rfl
  have R2_2 : gR h (b + 2) 2 = some (b + 3) := s.R 2 2 rfl
  have R2_3 : gR h (b + 2) 3 = some (b + 4) := s.R 2 3 rfl
  have R2_4 : gR h (b + 2) 4 = some (b + 5) := s.R 2 4 rfl
  have R2_5 : gR h (b + 2) 5 = some (b + 6) := s.R 2 5 rfl
  have R2_6 : gR h (b + 2) 6 = some (b + 7) := s.R 2 6 rfl
  have R131_1 : gR h (b + 131) 1 = some (b + 132) := s.R 131 1 rfl
  have R131_8 : gR h (b + 131) 8 = some (b + 135) := s.R 131 8 rfl
  have R131_9 : gR h (b + 131) 9 = some (b + 136) := s.R 131 9 rfl
  have R131_37 : gR h (b + 131) 37 = some (b + 150) := s.R 131 37 rfl
  have rl : Rl h h b 2 (gI h (b + 132)) := c_realm.2.2
  have cr := c_realm
  obtain ⟨⟨hnt, hno⟩, ro, F1, F9, F0, F15, F16, F17, F18, F19, F14, F7, F8, RT, RO⟩ := cr
  have RT : ∀ t, t < ntOf h b → gI h (b + 3) t = gI h (b + 135) t ∧ gI h (b + 4) t = gI h (b + 136) t ∧ gI h (b + 5) t = gI h (b + 132) (7 + t) ∧ gI h (b + 6) t = gI h (b + 132) (19 + t) ∧ gI h (b + 7) t = gI h (b + 132) (31 + t) - 1 := RT
  have RO : ∀ o, o < noOf h b → gI h (b + 8) o = gI h (b + 132) (67 + o) ∧ gI h (b + 9) o = gI h (b + 137) o ∧ gI h (b + 10) o = gI h (b + 138) o ∧ gI h (b + 11) o = gI h (b + 132) (73 + o) := RO
  have hN6 : gI h (b + 131) 6 = nI (ntOf h b) := c_stat.1
  have hN7 : gI h (b + 131) 7 = nI (noOf h b) := c_stat.2.1
  obtain ⟨g, hg⟩ : ∃ g, g = sI h (b + 131) 0 0 := ⟨_, rfl⟩
  have g6 : gI g (b + 131) 6 = nI (ntOf h b) := by rw [hg]; simp (disch := omega) only [gI_q, gI_n1, gI_n2]; exact hN6
  have g7 : gI g (b + 131) 7 = nI (noOf h b) := by rw [hg]; simp (disch := omega) only [gI_q, gI_n1, gI_n2]; exact hN7
  have Kg : gK g (b + 131) = (0, 9) := by rw [hg]; exact K131
  rcases tra_cases v1 (ntOf h b) hnt with ⟨t, ht, rfl, u1, i1⟩ | ⟨u1, i1⟩
  case inr =>
    have u := u1 (b + 2) h K2 F1
    have i := i1 (b + 131) g Kg g6
    refine both_ref I0 (r := -2) (by simp [f_Tc_of, ↓ob_eq, ob_so, ldI, ldR, ldO, stI, stZ, stR, isO, wrA_n, rdA_n, wrA_l, rdA_l, gK_sI, gR_sI, gX_sI, gN_sI, gK_cp, gR_cp, gX_cp, gN_cp, rtZ_0, rtZ_1, if_true, reduceIte, and_self, true_and, and_true, K0, K1, K2, R0_0, R1_0, u]) ?_
    rw [← hg]
    simp [f_Mo_of, ↓ob_eq, ob_so, ldI, ldR, ldO, stI, stZ, stR, isO, wrA_n, rdA_n, wrA_l, rdA_l, gK_sI, gR_sI, gX_sI, gN_sI, gK_cp, gR_cp, gX_cp, gN_cp, rtZ_0, rtZ_1, if_true, reduceIte, and_self, true_and, and_true, K131, ← hg, Kg, i]
  have u := u1 (b + 2) h K2 F1
  have i := i1 (b + 131) g Kg g6
  have t12 : t < 12 := by omega
  have e10 : ¬ (1 : Int32) = 0 := by decide
  -- a call of the law
  have law : ∀ w o, w ≤ 2 → (∀ o', o = some o' → o' < noOf h b) → ∃ h1, Sn [(17, 0, 10), (18, 0, 32)] b h h1 ∧ f_Land_tells (b + 1) (b + 2) (nI w) (nI t) (oc o) h = some (tlv h b (gI h (b + 132)) w t o, h1) ∧ Sn DYN b h (sI h1 (b + 131) 0 0) ∧ Rw (sI h1 (b + 131) 0 0) b (gI h (b + 132)) ∧ gK (sI h1 (b + 131) 0 0) (b + 131) = (0, 9) ∧ gI (sI h1 (b + 131) 0 0) (b + 131) 6 = nI (ntOf h b) ∧ gI (sI h1 (b + 131) 0 0) (b + 131) 7 = nI (noOf h b) ∧ gK h1 (b + 131) = (0, 9) := fun w o hw ho => by
    obtain ⟨h1, t1, e1⟩ := land_tells (w := w) I0 (Sn.rf (L := DYN)) (Or.inl rfl) rl ht ho hw
    refine ⟨h1, t1, e1, (t1.up (M := DYN) (by decide)).put 131 0 0 (by decide), fun j hj => ?_, by show gK h1 (b + 131) = (0, 9); rw [t1.1]; exact K131, ?_, ?_, by rw [t1.1]; exact K131⟩
    · rw [gI_n1 (by omega)]; exact t1.2.2.2.2 132 j (by simp [inL])
    · rw [gI_n2 (by omega), t1.I (by decide)]; exact hN6
    · rw [gI_n2 (by omega), t1.I (by decide)]; exact hN7
  by_cases q20 : v2 < 20
  · by_cases q10 : v2 < 10
    · have m1 : ∀ x a hh, f_Mo_isIn a v2 10 x hh = some (0, hh) := fun x a hh => by unfold f_Mo_isIn; rw [if_pos q10, rtZ_0]
      have m2 : ∀ x a hh, f_Mo_isIn a v2 20 x hh = some (0, hh) := fun x a hh => by unfold f_Mo_isIn; rw [if_pos q20, rtZ_0]
      obtain ⟨r1, r2, r3, r4, r5⟩ := RT t ht
      have row : ∀ j, gI g (b + 132) j = gI h (b + 132) j := fun j => by rw [hg]; simp (disch := omega) only [gI_q, gI_n1, gI_n2]
      have kg : gK g (b + 132) = (1, 79) ∧ gK g (b + 135) = (1, 12) ∧ gK g (b + 136) = (1, 12) ∧ gK g (b + 150) = (1, 24) := ⟨by rw [hg]; exact K132, by rw [hg]; exact K135, by rw [hg]; exact K136, by rw [hg]; exact K150⟩
      have rg : gR g (b + 131) 1 = some (b + 132) ∧ gR g (b + 131) 8 = some (b + 135) ∧ gR g (b + 131) 9 = some (b + 136) ∧ gR g (b + 131) 37 = some (b + 150) := ⟨by rw [hg]; exact R131_1, by rw [hg]; exact R131_8, by rw [hg]; exact R131_9, by rw [hg]; exact R131_37⟩
      have g135 : gI g (b + 135) t = gI h (b + 135) t := by rw [hg]; simp (disch := omega) only [gI_q, gI_n1, gI_n2]
      have g136 : gI g (b + 136) t = gI h (b + 136) t := by rw [hg]; simp (disch := omega) only [gI_q, gI_n1, gI_n2]
      have g150 : gI g (b + 150) t = gI h (b + 150) t := by rw [hg]; simp (disch := omega) only [gI_q, gI_n1, gI_n2]
      have a7 : 7 + t < 79 := by omega
      have a19 : 19 + t < 79 := by omega
      have a31 : 31 + t < 79 := by omega
      have a43 : 43 + t < 79 := by omega
      have a55 : 55 + t < 79 := by omega
      have t24 : t < 24 := by omega
      have bit : ∀ (F : Int32) (base : Nat), F = nI (bs (ntOf h b) (fun t => gI h (b + 132) (base + t) == 1)) → (gI h (b + 132) (base + t) = 0 ∨ gI h (b + 132) (base + t) = 1) → jshr F (nI t) &&& 1 = gI h (b + 132) (base + t) := fun F base hF h01 => by
        have hlt := bs4096 (fun t => gI h (b + 132) (base + t) == 1) hnt
        rw [hF, jbit (by omega) (by omega), bs_bit, decide_eq_true ht]
        rcases h01 with z | z <;> rw [z] <;> rfl
      by_cases h0 : v2 = 0
      · refine both_ref I0 (r := gI h (b + 3) t) (by simp (disch := omega) [f_Tc_of, ↓ob_eq, ob_so, ldI, ldR, ldO, stI, stZ, stR, isO, wrA_n, rdA_n, wrA_l, rdA_l, gK_sI, gR_sI, gX_sI, gN_sI, gK_cp, gR_cp, gX_cp, gN_cp, rtZ_0, rtZ_1, if_true, reduceIte, and_self, true_and, and_true, K0, K1, K2, K3, R0_0, R1_0, R2_2, u, t12, q20, q10, h0]) ?_
        rw [← hg]
        simp (disch := omega) [f_Mo_of, ↓ob_eq, ob_so, ldI, ldR, ldO, stI, stZ, stR, isO, wrA_n, rdA_n, wrA_l, rdA_l, gK_sI, gR_sI, gX_sI, gN_sI, gK_cp, gR_cp, gX_cp, gN_cp, rtZ_0, rtZ_1, if_true, reduceIte, and_self, true_and, and_true, K131, ← hg, Kg, i, g7, m1, m2, h0, kg, rg, t12, g135, r1]
        first | done | (subst h0; simp (disch := omega) [f_Mo_isIn, ↓ob_eq, ob_so, ldI, ldR, ldO, stI, stZ, stR, isO, wrA_n, rdA_n, wrA_l, rdA_l, gK_sI, gR_sI, gX_sI, gN_sI, gK_cp, gR_cp, gX_cp, gN_cp, rtZ_0, rtZ_1, if_true, reduceIte, and_self, true_and, and_true, Kg, kg, rg, t12, g135, r1])
      by_cases h1 : v2 = 1
      · refine both_ref I0 (r := gI h (b + 4) t) (by simp (disch := omega) [f_Tc_of, ↓ob_eq, ob_so, ldI, ldR, ldO, stI, stZ, stR, isO, wrA_n, rdA_n, wrA_l, rdA_l, gK_sI, gR_sI, gX_sI, gN_sI, gK_cp, gR_cp, gX_cp, gN_cp, rtZ_0, rtZ_1, if_true, reduceIte, and_self, true_and, and_true, K0, K1, K2, K4, R0_0, R1_0, R2_3, u, t12, q20, q10, h1]) ?_
        rw [← hg]
        subst h1
        simp (disch := omega) [f_Mo_of, ↓ob_eq, ob_so, ldI, ldR, ldO, stI, stZ, stR, isO, wrA_n, rdA_n, wrA_l, rdA_l, gK_sI, gR_sI, gX_sI, gN_sI, gK_cp, gR_cp, gX_cp, gN_cp, rtZ_0, rtZ_1, if_true, reduceIte, and_self, true_and, and_true, K131, ← hg, Kg, i, g7, m1, m2, kg, rg, t12, g136, r2]
      by_cases h2 : v2 = 2
      · refine both_ref I0 (r := gI h (b + 5) t) (by simp (disch := omega) [f_Tc_of, ↓ob_eq, ob_so, ldI, ldR, ldO, stI, stZ, stR, isO, wrA_n, rdA_n, wrA_l, rdA_l, gK_sI, gR_sI, gX_sI, gN_sI, gK_cp, gR_cp, gX_cp, gN_cp, rtZ_0, rtZ_1, if_true, reduceIte, and_self, true_and, and_true, K0, K1, K2, K5, R0_0, R1_0, R2_4, u, t12, q20, q10, h2]) ?_
        rw [← hg]
        subst h2
        simp (disch := omega) [f_Mo_of, ↓ob_eq, ob_so, ldI, ldR, ldO, stI, stZ, stR, isO, wrA_n, rdA_n, wrA_l, rdA_l, gK_sI, gR_sI, gX_sI, gN_sI, gK_cp, gR_cp, gX_cp, gN_cp, rtZ_0, rtZ_1, if_true, reduceIte, and_self, true_and, and_true, K131, ← hg, Kg, i, g7, m1, m2, kg, rg, a7, L_addn, row, r3]
      by_cases h3 : v2 = 3
      · refine both_ref I0 (r := gI h (b + 6) t) (by simp (disch := omega) [f_Tc_of, ↓ob_eq, ob_so, ldI, ldR, ldO, stI, stZ, stR, isO, wrA_n, rdA_n, wrA_l, rdA_l, gK_sI, gR_sI, gX_sI, gN_sI, gK_cp, gR_cp, gX_cp, gN_cp, rtZ_0, rtZ_1, if_true, reduceIte, and_self, true_and, and_true, K0, K1, K2, K6, R0_0, R1_0, R2_5, u, t12, q20, q10, h3]) ?_
        rw [← hg]
        subst h3
        simp (disch := omega) [f_Mo_of, ↓ob_eq, ob_so, ldI, ldR, ldO, stI, stZ, stR, isO, wrA_n, rdA_n, wrA_l, rdA_l, gK_sI, gR_sI, gX_sI, gN_sI, gK_cp, gR_cp, gX_cp, gN_cp, rtZ_0, rtZ_1, if_true, reduceIte, and_self, true_and, and_true, K131, ← hg, Kg, i, g7, m1, m2, kg, rg, a19, L_addn, row, r4]
      by_cases h4 : v2 = 4
      · refine both_ref I0 (r := gI h (b + 7) t) (by simp (disch := omega) [f_Tc_of, ↓ob_eq, ob_so, ldI, ldR, ldO, stI, stZ, stR, isO, wrA_n, rdA_n, wrA_l, rdA_l, gK_sI, gR_sI, gX_sI, gN_sI, gK_cp, gR_cp, gX_cp, gN_cp, rtZ_0, rtZ_1, if_true, reduceIte, and_self, true_and, and_true, K0, K1, K2, K7, R0_0, R1_0, R2_6, u, t12, q20, q10, h4]) ?_
        rw [← hg]
        subst h4
        simp (disch := omega) [f_Mo_of, ↓ob_eq, ob_so, ldI, ldR, ldO, stI, stZ, stR, isO, wrA_n, rdA_n, wrA_l, rdA_l, gK_sI, gR_sI, gX_sI, gN_sI, gK_cp, gR_cp, gX_cp, gN_cp, rtZ_0, rtZ_1, if_true, reduceIte, and_self, true_and, and_true, K131, ← hg, Kg, i, g7, m1, m2, kg, rg, a31, L_addn, row, r5]
      by_cases h5 : v2 = 5
      · have bb := bit _ 43 F7 (ro.2.2.2.1 t ht).2.2.2.1
        refine both_ref I0 (r := gI h (b + 132) (43 + t)) (by simp (disch := omega) [f_Tc_of, ↓ob_eq, ob_so, ldI, ldR, ldO, stI, stZ, stR, isO, wrA_n, rdA_n, wrA_l, rdA_l, gK_sI, gR_sI, gX_sI, gN_sI, gK_cp, gR_cp, gX_cp, gN_cp, rtZ_0, rtZ_1, if_true, reduceIte, and_self, true_and, and_true, K0, K1, K2, R0_0, R1_0, u, q20, q10, h5, bb]) ?_
        rw [← hg]
        subst h5
        simp (disch := omega) [f_Mo_of, ↓ob_eq, ob_so, ldI, ldR, ldO, stI, stZ, stR, isO, wrA_n, rdA_n, wrA_l, rdA_l, gK_sI, gR_sI, gX_sI, gN_sI, gK_cp, gR_cp, gX_cp, gN_cp, rtZ_0, rtZ_1, if_true, reduceIte, and_self, true_and, and_true, K131, ← hg, Kg, i, g7, m1, m2, kg, rg, a43, L_addn, row]
      by_cases h6 : v2 = 6
      · have bb := bit _ 55 F8 (ro.2.2.2.1 t ht).2.2.2.2
        refine both_ref I0 (r := gI h (b + 132) (55 + t)) (by simp (disch := omega) [f_Tc_of, ↓ob_eq, ob_so, ldI, ldR, ldO, stI, stZ, stR, isO, wrA_n, rdA_n, wrA_l, rdA_l, gK_sI, gR_sI, gX_sI, gN_sI, gK_cp, gR_cp, gX_cp, gN_cp, rtZ_0, rtZ_1, if_true, reduceIte, and_self, true_and, and_true, K0, K1, K2, R0_0, R1_0, u, q20, q10, h6, bb]) ?_
        rw [← hg]
        subst h6
        simp (disch := omega) [f_Mo_of, ↓ob_eq, ob_so, ldI, ldR, ldO, stI, stZ, stR, isO, wrA_n, rdA_n, wrA_l, rdA_l, gK_sI, gR_sI, gX_sI, gN_sI, gK_cp, gR_cp, gX_cp, gN_cp, rtZ_0, rtZ_1, if_true, reduceIte, and_self, true_and, and_true, K131, ← hg, Kg, i, g7, m1, m2, kg, rg, a55, L_addn, row]
      by_cases h7 : v2 = 7
      · have kk := cl_kin I0 (Sn.rf (L := DYN)) t12
        have kn := kn_eq I0 t12
        refine both_ref I0 (r := nI (knO h b t)) (by simp (disch := omega) [f_Tc_of, ↓ob_eq, ob_so, ldI, ldR, ldO, stI, stZ, stR, isO, wrA_n, rdA_n, wrA_l, rdA_l, gK_sI, gR_sI, gX_sI, gN_sI, gK_cp, gR_cp, gX_cp, gN_cp, rtZ_0, rtZ_1, if_true, reduceIte, and_self, true_and, and_true, K0, K1, K2, R0_0, R1_0, u, q20, q10, h7, kk]) ?_
        rw [← hg]
        subst h7
        simp (disch := omega) [f_Mo_of, ↓ob_eq, ob_so, ldI, ldR, ldO, stI, stZ, stR, isO, wrA_n, rdA_n, wrA_l, rdA_l, gK_sI, gR_sI, gX_sI, gN_sI, gK_cp, gR_cp, gX_cp, gN_cp, rtZ_0, rtZ_1, if_true, reduceIte, and_self, true_and, and_true, K131, ← hg, Kg, i, g7, m1, m2, kg, rg, t24, g150, kn.2]
      by_cases h8 : v2 = 8
      · obtain ⟨h1', t1, e1, td, rw', kz, g6', g7', kz1⟩ := law 0 none (by omega) (fun o' z => by cases z)
        have e1 : f_Land_tells (b + 1) (b + 2) 0 (nI t) (-1) h = some (tlv h b (gI h (b + 132)) 0 t none, h1') := e1
        obtain ⟨h2', t2, e2⟩ := (mo_wt I0 td rw' ht).1
        have i' := i1 (b + 131) (sI h1' (b + 131) 0 0) kz g6'
        have t0 : Sn [(131, 0, 1)] b h1' (sI h1' (b + 131) 0 0) := Sn.rf.put 131 0 0 (by decide)
        refine both_ro (r := tlv h b (gI h (b + 132)) 0 t none) I0 ?_ t1 ?_ (t0.app t2) (by decide)
        · subst h8
          simp (disch := omega) [f_Tc_of, ↓ob_eq, ob_so, ldI, ldR, ldO, stI, stZ, stR, isO, wrA_n, rdA_n, wrA_l, rdA_l, gK_sI, gR_sI, gX_sI, gN_sI, gK_cp, gR_cp, gX_cp, gN_cp, rtZ_0, rtZ_1, if_true, reduceIte, and_self, true_and, and_true, K0, K1, K2, R0_0, R1_0, u, e1]
        · subst h8
          simp (disch := omega) [f_Mo_of, ↓ob_eq, ob_so, ldI, ldR, ldO, stI, stZ, stR, isO, wrA_n, rdA_n, wrA_l, rdA_l, gK_sI, gR_sI, gX_sI, gN_sI, gK_cp, gR_cp, gX_cp, gN_cp, rtZ_0, rtZ_1, if_true, reduceIte, and_self, true_and, and_true, kz1, kz, i', g7', m1, m2, e2]
      · refine both_ref I0 (r := -2) (by simp (disch := omega) [f_Tc_of, ↓ob_eq, ob_so, ldI, ldR, ldO, stI, stZ, stR, isO, wrA_n, rdA_n, wrA_l, rdA_l, gK_sI, gR_sI, gX_sI, gN_sI, gK_cp, gR_cp, gX_cp, gN_cp, rtZ_0, rtZ_1, if_true, reduceIte, and_self, true_and, and_true, K0, K1, K2, R0_0, R1_0, u, q20, q10, h0, h1, h2, h3, h4, h5, h6, h7, h8]) ?_
        rw [← hg]
        simp (disch := omega) [f_Mo_of, ↓ob_eq, ob_so, ldI, ldR, ldO, stI, stZ, stR, isO, wrA_n, rdA_n, wrA_l, rdA_l, gK_sI, gR_sI, gX_sI, gN_sI, gK_cp, gR_cp, gX_cp, gN_cp, rtZ_0, rtZ_1, if_true, reduceIte, and_self, true_and, and_true, K131, ← hg, Kg, i, g7, m1, m2, h0, h1, h2, h3, h4, h5, h6, h7, h8]
    · -- the rate
      have h0' : ¬ v2 < 0 := by
        rw [fa_lt] at q10 ⊢
        have z1 : (10 : Int32).toInt = 10 := rfl
        have z0 : (0 : Int32).toInt = 0 := rfl
        omega
      obtain ⟨k, hk, rfl⟩ := nI_of h0'
      have k10 : 10 ≤ k := Nat.le_of_not_lt (fun z => q10 ((nI_ltL (n := 10) (by omega) (by decide)).mpr z))
      have k20 : k < 20 := (nI_ltL (n := 20) (by omega) (by decide)).mp q20
      have sb : nI k - 10 = nI (k - 10) := pk_sub (a := k) (b := 10) k10
      have m2 : ∀ x a hh, f_Mo_isIn a (nI k) 20 x hh = some (0, hh) := fun x a hh => by unfold f_Mo_isIn; rw [if_pos q20, rtZ_0]
      rcases off_cases (nI (k - 10)) (noOf h b) hno with ⟨o, ho, eo, uo, io⟩ | ⟨uo, io⟩
      · have hko : k - 10 = o := (nI_eq (by omega) (by omega)).mp eo
        have uu := uo (b + 2) h K2 F9
        have m1 : ∀ a hh, f_Mo_isIn a (nI k) 10 (9 + nI (noOf h b)) hh = some (1, hh) := fun a hh => by
          have z : ¬ (9 + nI (noOf h b)) < nI k := fun z => by
            rw [L_addn] at z
            have := (nI_lt' (by omega) (by omega)).mp z
            have this : 9 + noOf h b < k := this
            omega
          unfold f_Mo_isIn; rw [if_neg q10, if_neg z, rtZ_1]
        obtain ⟨h1', t1, e1, td, rw', kz, g6', g7', kz1⟩ := law 1 (some o) (by omega) (fun o' z => by cases z; exact ho)
        have e1 : f_Land_tells (b + 1) (b + 2) 1 (nI t) (nI o) h = some (tlv h b (gI h (b + 132)) 1 t (some o), h1') := e1
        obtain ⟨h2', t2, e2⟩ := ((mo_wt I0 td rw' ht).2 o ho).1
        have i' := i1 (b + 131) (sI h1' (b + 131) 0 0) kz g6'
        have t0 : Sn [(131, 0, 1)] b h1' (sI h1' (b + 131) 0 0) := Sn.rf.put 131 0 0 (by decide)
        rw [hko] at sb uu
        refine both_ro (r := tlv h b (gI h (b + 132)) 1 t (some o)) I0 ?_ t1 ?_ (t0.app t2) (by decide)
        · simp only [f_Tc_of, ↓ob_eq, ob_so, ldI, ldR, ldO, stI, stZ, stR, isO, wrA_n, rdA_n, wrA_l, rdA_l, gK_sI, gR_sI, gX_sI, gN_sI, gK_cp, gR_cp, gX_cp, gN_cp, rtZ_0, rtZ_1, if_true, reduceIte, and_self, true_and, and_true, K0, K1, K2, R0_0, R1_0, u, q20, q10, sb, uu, e1, e10, if_false]
        · simp only [f_Mo_of, ↓ob_eq, ob_so, ldI, ldR, ldO, stI, stZ, stR, isO, wrA_n, rdA_n, wrA_l, rdA_l, gK_sI, gR_sI, gX_sI, gN_sI, gK_cp, gR_cp, gX_cp, gN_cp, rtZ_0, rtZ_1, if_true, reduceIte, and_self, true_and, and_true, kz1, kz, i', g7', m1, e2, sb, e10, if_false]
      · have uu := uo (b + 2) h K2 F9
        have nk : ¬ k - 10 < noOf h b := fun z => by
          have := uo (b + 2) h K2 F9
          have e0 : ¬ nI (k - 10) < 0 := nI_pos (by omega)
          have e1 : ¬ noOf h b ≤ k - 10 := by omega
          have e2 : f_Realm_isOfficer (b + 2) (nI (k - 10)) h = some (1, h) := by
            simp (disch := omega) [f_Realm_isOfficer, ↓ob_eq, ob_so, ldI, ldR, ldO, stI, stZ, stR, isO, wrA_n, rdA_n, wrA_l, rdA_l, gK_sI, gR_sI, gX_sI, gN_sI, gK_cp, gR_cp, gX_cp, gN_cp, rtZ_0, rtZ_1, if_true, reduceIte, and_self, true_and, and_true, K2, F9, e0, e1, nI_le']
          rw [e2] at this
          have := congrArg (fun o => o.map Prod.fst) this
          exact absurd this (by simp)
        have m1 : ∀ a hh, f_Mo_isIn a (nI k) 10 (9 + nI (noOf h b)) hh = some (0, hh) := fun a hh => by
          have z : (9 + nI (noOf h b)) < nI k := by
            rw [L_addn]
            exact (nI_lt' (by omega) (by omega)).mpr (by show 9 + noOf h b < k; omega)
          unfold f_Mo_isIn; rw [if_neg q10, if_pos z, rtZ_0]
        have nz : ∀ c : Nat, c < 10 → ¬ nI k = nI c := fun c hc z => by
          have := (nI_eq (by omega) (by omega)).mp z
          omega
        have z0 : ¬ nI k = 0 := nz 0 (by omega)
        have z1 : ¬ nI k = 1 := nz 1 (by omega)
        have z2 : ¬ nI k = 2 := nz 2 (by omega)
        have z3 : ¬ nI k = 3 := nz 3 (by omega)
        have z4 : ¬ nI k = 4 := nz 4 (by omega)
        have z5 : ¬ nI k = 5 := nz 5 (by omega)
        have z6 : ¬ nI k = 6 := nz 6 (by omega)
        have z7 : ¬ nI k = 7 := nz 7 (by omega)
        have z8 : ¬ nI k = 8 := nz 8 (by omega)
        refine both_ref I0 (r := -2) (by simp only [f_Tc_of, ↓ob_eq, ob_so, ldI, ldR, ldO, stI, stZ, stR, isO, wrA_n, rdA_n, wrA_l, rdA_l, gK_sI, gR_sI, gX_sI, gN_sI, gK_cp, gR_cp, gX_cp, gN_cp, rtZ_0, rtZ_1, if_true, reduceIte, and_self, true_and, and_true, K0, K1, K2, R0_0, R1_0, u, q20, q10, sb, uu, e10, if_false]) ?_
        rw [← hg]
        simp only [f_Mo_of, ↓ob_eq, ob_so, ldI, ldR, ldO, stI, stZ, stR, isO, wrA_n, rdA_n, wrA_l, rdA_l, gK_sI, gR_sI, gX_sI, gN_sI, gK_cp, gR_cp, gX_cp, gN_cp, rtZ_0, rtZ_1, if_true, reduceIte, and_self, true_and, and_true, K131, ← hg, Kg, i, g7, m1, m2, z0, z1, z2, z3, z4, z5, z6, z7, z8, e10, if_false]
  · -- how likely it is found
    have h0' : ¬ v2 < 0 := by
      rw [fa_lt] at q20 ⊢
      have z1 : (20 : Int32).toInt = 20 := rfl
      have z0 : (0 : Int32).toInt = 0 := rfl
      omega
    obtain ⟨k, hk, rfl⟩ := nI_of h0'
    have k20 : 20 ≤ k := Nat.le_of_not_lt (fun z => q20 ((nI_ltL (n := 20) (by omega) (by decide)).mpr z))
    have q10 : ¬ nI k < 10 := fun z => by
      have this : k < 10 := (nI_ltL (n := 10) (by omega) (by decide)).mp z
      omega
    have sb : nI k - 20 = nI (k - 20) := pk_sub (a := k) (b := 20) k20
    have m1 : ∀ a hh, f_Mo_isIn a (nI k) 10 (9 + nI (noOf h b)) hh = some (0, hh) := fun a hh => by
      have z : (9 + nI (noOf h b)) < nI k := by
        rw [L_addn]
        exact (nI_lt' (by omega) (by omega)).mpr (by show 9 + noOf h b < k; omega)
      unfold f_Mo_isIn; rw [if_neg q10, if_pos z, rtZ_0]
    by_cases nk : k - 20 < noOf h b
    · obtain ⟨o, hko⟩ : ∃ o, o = k - 20 := ⟨_, rfl⟩
      rw [← hko] at nk sb
      have e0 : ¬ nI o < 0 := nI_pos (by omega)
      have e1' : ¬ noOf h b ≤ o := by omega
      have uu : f_Realm_isOfficer (b + 2) (nI o) h = some (1, h) := by
        simp (disch := omega) [f_Realm_isOfficer, ↓ob_eq, ob_so, ldI, ldR, ldO, stI, stZ, stR, isO, wrA_n, rdA_n, wrA_l, rdA_l, gK_sI, gR_sI, gX_sI, gN_sI, gK_cp, gR_cp, gX_cp, gN_cp, rtZ_0, rtZ_1, if_true, reduceIte, and_self, true_and, and_true, K2, F9, e0, e1', nI_le']
      have m2 : ∀ a hh, f_Mo_isIn a (nI k) 20 (19 + nI (noOf h b)) hh = some (1, hh) := fun a hh => by
        have z : ¬ (19 + nI (noOf h b)) < nI k := fun z => by
          rw [L_addn] at z
          have := (nI_lt' (by omega) (by omega)).mp z
          have this : 19 + noOf h b < k := this
          omega
        unfold f_Mo_isIn; rw [if_neg q20, if_neg z, rtZ_1]
      obtain ⟨h1', t1, e1, td, rw', kz, g6', g7', kz1⟩ := law 2 (some o) (by omega) (fun o' z => by cases z; exact nk)
      have e1 : f_Land_tells (b + 1) (b + 2) 2 (nI t) (nI o) h = some (tlv h b (gI h (b + 132)) 2 t (some o), h1') := e1
      obtain ⟨h2', t2, e2⟩ := ((mo_wt I0 td rw' ht).2 o nk).2
      have i' := i1 (b + 131) (sI h1' (b + 131) 0 0) kz g6'
      have t0 : Sn [(131, 0, 1)] b h1' (sI h1' (b + 131) 0 0) := Sn.rf.put 131 0 0 (by decide)
      refine both_ro (r := tlv h b (gI h (b + 132)) 2 t (some o)) I0 ?_ t1 ?_ (t0.app t2) (by decide)
      · simp only [f_Tc_of, ↓ob_eq, ob_so, ldI, ldR, ldO, stI, stZ, stR, isO, wrA_n, rdA_n, wrA_l, rdA_l, gK_sI, gR_sI, gX_sI, gN_sI, gK_cp, gR_cp, gX_cp, gN_cp, rtZ_0, rtZ_1, if_true, reduceIte, and_self, true_and, and_true, K0, K1, K2, R0_0, R1_0, u, q20, sb, uu, e1, e10, if_false]
      · simp only [f_Mo_of, ↓ob_eq, ob_so, ldI, ldR, ldO, stI, stZ, stR, isO, wrA_n, rdA_n, wrA_l, rdA_l, gK_sI, gR_sI, gX_sI, gN_sI, gK_cp, gR_cp, gX_cp, gN_cp, rtZ_0, rtZ_1, if_true, reduceIte, and_self, true_and, and_true, kz1, kz, i', g7', m1, m2, e2, sb, e10, if_false]
    · have e1' : noOf h b ≤ k - 20 := by omega
      have e0 : ¬ nI (k - 20) < 0 := nI_pos (by omega)
      have uu : f_Realm_isOfficer (b + 2) (nI (k - 20)) h = some (0, h) := by
        simp (disch := omega) [f_Realm_isOfficer, ↓ob_eq, ob_so, ldI, ldR, ldO, stI, stZ, stR, isO, wrA_n, rdA_n, wrA_l, rdA_l, gK_sI, gR_sI, gX_sI, gN_sI, gK_cp, gR_cp, gX_cp, gN_cp, rtZ_0, rtZ_1, if_true, reduceIte, and_self, true_and, and_true, K2, F9, e0, e1', nI_le']
      have m2 : ∀ a hh, f_Mo_isIn a (nI k) 20 (19 + nI (noOf h b)) hh = some (0, hh) := fun a hh => by
        have z : (19 + nI (noOf h b)) < nI k := by
          rw [L_addn]
          exact (nI_lt' (by omega) (by omega)).mpr (by show 19 + noOf h b < k; omega)
        unfold f_Mo_isIn; rw [if_neg q20, if_pos z, rtZ_0]
      have nz : ∀ c : Nat, c < 10 → ¬ nI k = nI c := fun c hc z => by
        have := (nI_eq (by omega) (by omega)).mp z
        omega
      have z0 : ¬ nI k = 0 := nz 0 (by omega)
      have z1 : ¬ nI k = 1 := nz 1 (by omega)
      have z2 : ¬ nI k = 2 := nz 2 (by omega)
      have z3 : ¬ nI k = 3 := nz 3 (by omega)
      have z4 : ¬ nI k = 4 := nz 4 (by omega)
      have z5 : ¬ nI k = 5 := nz 5 (by omega)
      have z6 : ¬ nI k = 6 := nz 6 (by omega)
      have z7 : ¬ nI k = 7 := nz 7 (by omega)
      have z8 : ¬ nI k = 8 := nz 8 (by omega)
      refine both_ref I0 (r := -2) (by simp only [f_Tc_of, ↓ob_eq, ob_so, ldI, ldR, ldO, stI, stZ, stR, isO, wrA_n, rdA_n, wrA_l, rdA_l, gK_sI, gR_sI, gX_sI, gN_sI, gK_cp, gR_cp, gX_cp, gN_cp, rtZ_0, rtZ_1, if_true, reduceIte, and_self, true_and, and_true, K0, K1, K2, R0_0, R1_0, u, q20, sb, uu, e10, if_false]) ?_
      rw [← hg]
      simp only [f_Mo_of, ↓ob_eq, ob_so, ldI, ldR, ldO, stI, stZ, stR, isO, wrA_n, rdA_n, wrA_l, rdA_l, gK_sI, gR_sI, gX_sI, gN_sI, gK_cp, gR_cp, gX_cp, gN_cp, rtZ_0, rtZ_1, if_true, reduceIte, and_self, true_and, and_true, K131, ← hg, Kg, i, g7, m1, m2, z0, z1, z2, z3, z4, z5, z6, z7, z8, e10, if_false]
