theorem op_weigh (b : Nat) : B_weigh (Inv b) b (b + 131) := by
  intro h I v1 v2
  have I0 := I
  obtain ⟨s, cd, c_stat, c_realm, c_book, c_law, c_kin, c_shi, c_roa, c_ord, c_han, c_wei, c_bag, c_pri, c_cnt, c_led, c_yea, c_log, c_rdr, c_msc, c_img⟩ := I
  have K0 : gK h b = (0, 8) := s.K 0 (by decide) rfl
  have K1 : gK h (b + 1) = (0, 1) := s.K 1 (by decide) rfl
  have K2 : gK h (b + 2) = (0, 5) := s.K 2 (by decide) rfl
  have K40 : gK h (b + 40) = (0, 3) := s.K 40 (by decide) rfl
  have K131 : gK h (b + 131) = (0, 9) := s.K 131 (by decide) rfl
  have K132 : gK h (b + 132) = (1, 79) := s.K 132 (by decide) rfl
  have R0_0 : gR h b 0 = some (b + 1) := s.R 0 0 rfl
  have R0_1 : gR h b 1 = some (b + 40) := s.R 0 1 rfl
  have R1_0 : gR h (b + 1) 0 = some (b + 2) := s.R 1 0 rfl
  have R131_1 : gR h (b + 131) 1 = some (b + 132) := s.R 131 1 rfl
  have rl : Rl h h b 2 (gI h (b + 132)) := c_realm.2.2
  have rk : RowB 20000 (ntOf h b) (noOf h b) (gI h (b + 132)) := c_realm.2.1
  have c_realm' := c_realm
  obtain ⟨⟨hnt, hno⟩, _, F1, F9, _⟩ := c_realm'
  have hN6 : gI h (b + 131) 6 = nI (ntOf h b) := c_stat.1
  have hN7 : gI h (b + 131) 7 = nI (noOf h b) := c_stat.2.1
  have F1 : gI h (b + 2) 1 = nI (ntOf h b) := F1
  have F9 : gI h (b + 2) 9 = nI (noOf h b) := F9
  have e10 : ¬ (1 : Int32) = 0 := by decide
  have e01 : ¬ (0 : Int32) = 1 := by decide
  obtain ⟨n, nx, G, lc, lm, rog⟩ := c_log.get
  have k9 : gK (sI h (b + 131) 0 0) (b + 131) = (0, 9) := K131
  have g6 : gI (sI h (b + 131) 0 0) (b + 131) 6 = nI (ntOf h b) := by simp (disch := omega) only [gI_q, gI_n1, gI_n2]; exact hN6
  have g7 : gI (sI h (b + 131) 0 0) (b + 131) 7 = nI (noOf h b) := by simp (disch := omega) only [gI_q, gI_n1, gI_n2]; exact hN7
  rcases tra_cases v1 (ntOf h b) hnt with ⟨w, ht, rfl, u1, i1⟩ | ⟨u1, i1⟩
  case inr =>
    have u := u1 (b + 2) h K2 F1
    have i := i1 _ _ k9 g6
    have iz : f_Realm_isInside (b + 2) v1 h = some (0, h) := by simp only [f_Realm_isInside, ↓ob_eq, ob_so, ldI, ldR, ldO, stI, stZ, stR, isO, wrA_n, rdA_n, wrA_l, rdA_l, gK_sI, gR_sI, gX_sI, gN_sI, gK_cp, gR_cp, gX_cp, gN_cp, rtZ_0, rtZ_1, if_true, reduceIte, and_self, true_and, and_true, K2, u]
    exact both_ref I0 (r := -1) (by simp only [f_Tc_weigh, ↓ob_eq, ob_so, ldI, ldR, ldO, stI, stZ, stR, isO, wrA_n, rdA_n, wrA_l, rdA_l, gK_sI, gR_sI, gX_sI, gN_sI, gK_cp, gR_cp, gX_cp, gN_cp, rtZ_0, rtZ_1, if_true, reduceIte, and_self, true_and, and_true, K0, K1, K2, R0_0, R1_0, iz]) (by simp only [f_Mo_weigh, ↓ob_eq, ob_so, ldI, ldR, ldO, stI, stZ, stR, isO, wrA_n, rdA_n, wrA_l, rdA_l, gK_sI, gR_sI, gX_sI, gN_sI, gK_cp, gR_cp, gX_cp, gN_cp, rtZ_0, rtZ_1, if_true, reduceIte, and_self, true_and, and_true, K131, k9, i])
  have i := i1 _ _ k9 g6
  have ins := rl_inside (i := w) K2 F1 rl.2.2.2.2.2.2.2.2.2.1 hnt ht
  rcases off_cases v2 (noOf h b) hno with ⟨o, ho, rfl, u2, i2⟩ | ⟨u2, i2⟩
  case inr =>
    have u := u2 (b + 2) h K2 F9
    have i' := i2 _ _ k9 g7
    refine both_ref I0 (r := -1) ?_ (by simp only [f_Mo_weigh, ↓ob_eq, ob_so, ldI, ldR, ldO, stI, stZ, stR, isO, wrA_n, rdA_n, wrA_l, rdA_l, gK_sI, gR_sI, gX_sI, gN_sI, gK_cp, gR_cp, gX_cp, gN_cp, rtZ_0, rtZ_1, if_true, reduceIte, and_self, true_and, and_true, K131, k9, i, i', e10, if_false])
    cases q : (gI h (b + 132) (43 + w) == 1)
    · rw [q] at ins
      have ins : f_Realm_isInside (b + 2) (nI w) h = some (1, h) := ins
      simp only [f_Tc_weigh, ↓ob_eq, ob_so, ldI, ldR, ldO, stI, stZ, stR, isO, wrA_n, rdA_n, wrA_l, rdA_l, gK_sI, gR_sI, gX_sI, gN_sI, gK_cp, gR_cp, gX_cp, gN_cp, rtZ_0, rtZ_1, if_true, reduceIte, and_self, true_and, and_true, K0, K1, K2, R0_0, R1_0, ins, u, e10, if_false]
    · rw [q] at ins
      have ins : f_Realm_isInside (b + 2) (nI w) h = some (0, h) := ins
      simp only [f_Tc_weigh, ↓ob_eq, ob_so, ldI, ldR, ldO, stI, stZ, stR, isO, wrA_n, rdA_n, wrA_l, rdA_l, gK_sI, gR_sI, gX_sI, gN_sI, gK_cp, gR_cp, gX_cp, gN_cp, rtZ_0, rtZ_1, if_true, reduceIte, and_self, true_and, and_true, K0, K1, K2, R0_0, R1_0, ins]
  have u := u2 (b + 2) h K2 F9
  have a43 : 43 + w < 79 := by omega
  rcases (rk.2.2.2.1 w ht).2.2.2.1 with hin | hin
  case inr =>
    -- out already
    have q : (gI h (b + 132) (43 + w) == 1) = true := by rw [hin]; rfl
    rw [q] at ins
    have ins : f_Realm_isInside (b + 2) (nI w) h = some (0, h) := ins
    have i' := i2 _ _ k9 g7
    have k2 : gK (sI h (b + 131) 0 0) (b + 132) = (1, 79) := K132
    have r2 : gR (sI h (b + 131) 0 0) (b + 131) 1 = some (b + 132) := R131_1
    have gv : gI (sI h (b + 131) 0 0) (b + 132) (43 + w) = 1 := by simp (disch := omega) only [gI_q, gI_n1, gI_n2]; exact hin
    refine both_ref I0 (r := -1) ?_ ?_
    · simp only [f_Tc_weigh, ↓ob_eq, ob_so, ldI, ldR, ldO, stI, stZ, stR, isO, wrA_n, rdA_n, wrA_l, rdA_l, gK_sI, gR_sI, gX_sI, gN_sI, gK_cp, gR_cp, gX_cp, gN_cp, rtZ_0, rtZ_1, if_true, reduceIte, and_self, true_and, and_true, K0, K1, K2, R0_0, R1_0, ins]
    · simp (disch := omega) only [f_Mo_weigh, i, i', ↓ob_eq, ob_so, ldR, stI, isO, rdA_n, K131, k9, k2, r2, a43, gv, L_addn, e10, if_false, if_true, reduceIte, and_self, true_and]
  have q : (gI h (b + 132) (43 + w) == 1) = false := by rw [hin]; rfl
  rw [q] at ins
  have ins : f_Realm_isInside (b + 2) (nI w) h = some (1, h) := ins
  obtain ⟨h1, nx1, t1, lc1, e1⟩ := cl_keep I0 (Sn.rf (L := DYN)) lc rl
  have d1 : Sn DYN b h h1 := t1.up (by decide)
  have rl1 : Rl h h1 b 2 (gI h (b + 132)) := rl.sn I0 t1 (by decide)
  have bk1 : Bk h1 (b + 12) (gI h (b + 139)) := fun j hj => by
    rw [t1.I (disj_ok (M := U_book) (by decide) (inL_in (lo := 0) (hi := 600) (by decide) (by omega) hj))]
    exact c_book j hj
  obtain ⟨h2, t2, rl2, bk2, e2⟩ := cl_weigh (th := false) I0 d1 (Or.inl rfl) rl1 rk ht ho hin bk1
  have e2 : f_Land_weighOne (b + 1) (b + 2) (nI w) (nI o) 0 h1 = some (pay h b (gI h (b + 132)) w o false, h2) := e2
  have d2 : Sn DYN b h h2 := d1.tr (t2.up (by decide))
  have lc2 := lc1.sn I0 t2 (by decide)
  have tA := t1.app t2
  have tB : Sn [(131, 0, 1)] b h2 (sI h2 (b + 131) 0 0) := Sn.rf.put 131 0 0 (by decide)
  have d3 : Sn DYN b h (sI h2 (b + 131) 0 0) := d2.tr (tB.up (by decide))
  have rw3 : Rw (sI h2 (b + 131) 0 0) b (gI h (b + 132)) := fun j hj => by
    rw [gI_n1 (by omega), tA.I (disj_ok (M := [(132, 0, 79)]) (by decide) (inL_in (lo := 0) (hi := 79) (by decide) (by omega) hj))]
  have lm3 : LogM (sI h2 (b + 131) 0 0) b n G := (lm.sn lc.1 tA (by decide)).sn lc.1 tB (by decide)
  obtain ⟨h4, t4, lm4, e4⟩ := mo_keeps I0 d3 lc.1 lm3 rw3
  have d4 : Sn DYN b h h4 := d3.tr (t4.up (by decide))
  have rw4 : Rw h4 b (gI h (b + 132)) := rw3.sn t4 (by decide)
  have bk4 : Bk h4 (b + 139) (gI h (b + 139)) := fun j hj => by
    rw [(tA.app (tB.app t4)).I (disj_ok (M := [(139, 0, 600)]) (by decide) (inL_in (lo := 0) (hi := 600) (by decide) (by omega) hj))]
  have fl4 : gI h4 (b + 131) 5 = if (false : Bool) then 1 else 0 := by
    rw [(tA.app (tB.app t4)).I (o := 131) (j := 5) (by decide)]
    exact c_msc.1
  obtain ⟨h5, t5, rw5, bk5, e5⟩ := mo_weighs (th := false) I0 d4 rw4 rk ht ho bk4 fl4
  have d5 : Sn DYN b h h5 := d4.tr (t5.up (by decide))
  have tC := tB.app (t4.app t5)
  have t := tA.app tC
  have lc5 : LogC h h5 b (up6 n) nx1 (cG (gI h (b + 132)) G) := lc2.sn I0 tC (by decide)
  have lm5 := lm4.sn lc1.1 t5 (by decide)
  have n_log := C_log.mk' I0 d5 lc5 lm5 (cG_ok lc.1 rk rog)
  have n_realm := C_realm.mk' I0 d5 (rl2.sn I0 tC (by decide)) rw5 (wgR_RowB I0 ht ho rk)
  have n_book : C_book h5 b := fun j hj => by rw [bk2.sn tC (by decide) j hj, bk5 j hj]
  refine both_mk (r := pay h b (gI h (b + 132)) w o false) ?_ tA ?_ tC ⟨s.sn t, cd.cg t, c_stat.cg t (by decide), n_realm, n_book, c_law.cg t (by decide), c_kin.cg t (by decide), c_shi.cg t (by decide), c_roa.cg t (by decide), c_ord.cg t (by decide), c_han.cg t (by decide), c_wei.cg t (by decide), c_bag.cg t (by decide), c_pri.cg t (by decide), c_cnt.cg t (by decide), c_led.cg t (by decide), c_yea.cg t (by decide), n_log, c_rdr.cg t (by decide), c_msc.cg t (by decide), c_img.cg t (by decide)⟩
  · have kz : gK h1 b = (0, 8) ∧ gK h1 (b + 1) = (0, 1) ∧ gK h1 (b + 2) = (0, 5) := ⟨by rw [t1.1]; exact K0, by rw [t1.1]; exact K1, by rw [t1.1]; exact K2⟩
    have rz : gR h1 b 0 = some (b + 1) ∧ gR h1 (b + 1) 0 = some (b + 2) := ⟨by rw [t1.2.1]; exact R0_0, by rw [t1.2.1]; exact R1_0⟩
    simp only [f_Tc_weigh, ↓ob_eq, ob_so, ldI, ldR, ldO, stI, stZ, stR, isO, wrA_n, rdA_n, wrA_l, rdA_l, gK_sI, gR_sI, gX_sI, gN_sI, gK_cp, gR_cp, gX_cp, gN_cp, rtZ_0, rtZ_1, if_true, reduceIte, and_self, true_and, and_true, K0, K1, K2, K40, R0_0, R0_1, R1_0, ins, u, e1, e2, kz, rz, e10, if_false]
  · have k2 : gK h2 (b + 131) = (0, 9) := by rw [d2.1]; exact K131
    have k3 : gK (sI h2 (b + 131) 0 0) (b + 131) = (0, 9) ∧ gK (sI h2 (b + 131) 0 0) (b + 132) = (1, 79) := ⟨by rw [d3.1]; exact K131, by rw [d3.1]; exact K132⟩
    have p3 : gR (sI h2 (b + 131) 0 0) (b + 131) 1 = some (b + 132) := by rw [d3.2.1]; exact R131_1
    have k4 : gK h4 (b + 131) = (0, 9) := by rw [d4.1]; exact K131
    have g6' : gI (sI h2 (b + 131) 0 0) (b + 131) 6 = nI (ntOf h b) := by rw [d3.I (by decide)]; exact hN6
    have g7' : gI (sI h2 (b + 131) 0 0) (b + 131) 7 = nI (noOf h b) := by rw [d3.I (by decide)]; exact hN7
    have ia := i1 _ _ k3.1 g6'
    have ib := i2 _ _ k3.1 g7'
    have gv : gI (sI h2 (b + 131) 0 0) (b + 132) (43 + w) = 0 := by rw [rw3 _ a43]; exact hin
    simp (disch := omega) only [f_Mo_weigh, ia, ib, ↓ob_eq, ob_so, ldR, stI, isO, rdA_n, k2, k3, p3, k4, a43, gv, e4, e5, L_addn, e10, e01, if_false, if_true, reduceIte, and_self, true_and]
