/-! ===== hours ===== -/
theorem RowB.mono {hb hc nt no : Nat} {g : Nat → Int32} (c : RowB hb nt no g) (h : hb ≤ hc) : RowB hc nt no g := by
  obtain ⟨⟨x, x1, x2⟩, c2⟩ := c
  exact ⟨⟨x, by omega, x2⟩, c2⟩
theorem tele (a c d : Nat) : nI a - nI c + (nI d - nI a) = nI d - nI c := by
  rw [iI_nat, iI_nat, iI_nat, iI_sub, iI_sub, iI_sub, iI_add]
  congr 1
  omega
def LW : SL := LGC ++ WC 2
def LM : SL := [(131, 0, 1), (131, 3, 4), (133, 0, 474)] ++ MW
/-- hour after hour: the row, the book, how many are kept, what is kept -/
def hsS (h : PH) (b : Nat) (_ : Nat) (s : (Nat → Int32) × (Nat → Int32) × Nat × (Nat → Nat → Int32)) : (Nat → Int32) × (Nat → Int32) × Nat × (Nat → Nat → Int32) := (hrR h b false s.1 s.2.1, hrB h b false s.1 s.2.1, up6 s.2.2.1, cG s.1 s.2.2.2)
theorem up6_le (n : Nat) : up6 n ≤ 6 := Nat.min_le_left _ _
/-- the row after an hour is as it may be -/
theorem cl_hour_rb {h : PH} {b hb : Nat} {g B : Nat → Int32} {th : Bool} (I : Inv b h) (rb : RowB hb (ntOf h b) (noOf h b) g) : True ∧ True ∧ True ∧ RowB (hb + 1) (ntOf h b) (noOf h b) (hrR h b th g B) ∧ True := by
  have I0 := I
  obtain ⟨s, cd, c_stat, c_realm, c_book, c_law, c_kin, c_shi, c_roa, c_ord, c_han, c_wei, c_bag, c_pri, c_cnt, c_led, c_yea, c_log, c_rdr, c_msc, c_img⟩ := I
  obtain ⟨⟨hnt, hno⟩, _⟩ := c_realm
  have r1 : RowB hb (ntOf h b) (noOf h b) (h1R h b g) := fo_inv (st := shS h b) (fun _ g => RowB hb (ntOf h b) (noOf h b) g) (nsO h b) (fun i g hi q => shS_RowB I0 hi q) _ 0 g (by omega) rb
  have r2 : RowB hb (ntOf h b) (noOf h b) (h2R h b th g B).1 := fo_inv (st := ofS h b th) (fun _ s => RowB hb (ntOf h b) (noOf h b) s.1) (noOf h b) (fun o s ho q => by
    rcases who_ok (nt := ntOf h b) (g := s.1) (wd := s.2.2.1) (o := o) with w | ⟨t, ht, w, hin⟩
    · rw [ofS_no w]; exact q
    · rw [ofS_yes (by omega) w]; exact wgR_RowB I0 ht ho q) _ 0 _ (by omega) r1
  have r3 : RowB hb (ntOf h b) (noOf h b) (h3R h b th g B) := fo_inv (st := wpS h b) (fun _ g => RowB hb (ntOf h b) (noOf h b) g) (ntOf h b) (fun t g ht q => wpS_RowB I0 ht q) _ 0 _ (by omega) r2
  have r4 : RowB hb (ntOf h b) (noOf h b) (h4R h b th g B) := fo_inv (st := rsS _) (fun _ g => RowB hb (ntOf h b) (noOf h b) g) (noOf h b) (fun o g ho q => rsS_RowB hnt hno ho q) _ 0 _ (by omega) r3
  obtain ⟨x, x1, x2⟩ := r4.1
  exact ⟨trivial, trivial, trivial, r4.hour ⟨x + 1, by omega, by rw [x2, nI_addL]⟩, trivial⟩
theorem op_hours (b : Nat) : B_hours (Inv b) b (b + 131) := by
  intro h I v
  have I0 := I
  obtain ⟨s, cd, c_stat, c_realm, c_book, c_law, c_kin, c_shi, c_roa, c_ord, c_han, c_wei, c_bag, c_pri, c_cnt, c_led, c_yea, c_log, c_rdr, c_msc, c_img⟩ := I
  have K0 : gK h b = (0, 8) := s.K 0 (by decide) rfl
  have K1 : gK h (b + 1) = (0, 1) := s.K 1 (by decide) rfl
  have K2 : gK h (b + 2) = (0, 5) := s.K 2 (by decide) rfl
  have K40 : gK h (b + 40) = (0, 3) := s.K 40 (by decide) rfl
  have K131 : gK h (b + 131) = (0, 9) := s.K 131 (by decide) rfl
  have K132 : gK h (b + 132) = (1, 79) := s.K 132 (by decide) rfl
  have R0_0 : gR h b 0 = some (b + 1) := s.R 0 0 rfl
  have R0_1 : gR h b 1 = some (b + 40) := s.R 0 1 rfl
  have R1_0 : gR h (b + 1) 0 = some (b + 2) := s.R 1 0 rfl
  have R131_1 : gR h (b + 131) 1 = some (b + 132) := s.R 131 1 rfl
  have rl : Rl h h b 2 (gI h (b + 132)) := c_realm.2.2
  have rk : RowOK (ntOf h b) (noOf h b) (gI h (b + 132)) := c_realm.2.1
  have c_realm' := c_realm
  obtain ⟨⟨hnt, hno⟩, _⟩ := c_realm'
  obtain ⟨H, H1, H2⟩ := rk.1
  have rH : RowB H (ntOf h b) (noOf h b) (gI h (b + 132)) := ⟨⟨H, Nat.le_refl _, H2⟩, rk.2⟩
  have f18 : gI h (b + 2) 18 = nI H := by
    have : gI h (b + 2) 18 = gI h (b + 132) 0 := rl.2.2.2.2.2.2.1
    rw [this]; exact H2
  have f7 : gI h (b + 2) 7 = nI (oS h b (gI h (b + 132))) := rl.2.2.2.2.2.2.2.2.2.1
  have bo := bitd (n := oS h b (gI h (b + 132))) (bs4096 _ hnt) h
  obtain ⟨n, nx, G, lc, lm, rog⟩ := c_log.get
  have e10 : ¬ (1 : Int32) = 0 := by decide
  have k9 : gK (sI h (b + 131) 0 0) (b + 131) = (0, 9) := K131
  have kr : gK (sI h (b + 131) 0 0) (b + 132) = (1, 79) := K132
  have pr : gR (sI h (b + 131) 0 0) (b + 131) 1 = some (b + 132) := R131_1
  have r0 : rdA (sI h (b + 131) 0 0) (b + 132) 0 = some (nI H) := rd_at (k := 0) kr (by decide) (by decide) (by rw [gI_n1 (by omega)]; exact H2)
  -- refused
  have ref0 : ∀ x : Int32, (f_Mo_isIn (b + 131) v 1 60 (sI h (b + 131) 0 0) = some (0, sI h (b + 131) 0 0)) → (v < 1 ∨ (¬ v < 1 ∧ 60 < v)) → Both (Inv b) h (fun h => f_Tc_hours b v h) (fun h => f_Mo_hours (b + 131) v h) := fun _ i z => by
    refine both_ref I0 (r := -1) ?_ (by simp only [f_Mo_hours, ↓ob_eq, ob_so, ldI, ldR, ldO, stI, stZ, stR, isO, wrA_n, rdA_n, wrA_l, rdA_l, gK_sI, gR_sI, gX_sI, gN_sI, gK_cp, gR_cp, gX_cp, gN_cp, rtZ_0, rtZ_1, if_true, reduceIte, and_self, true_and, and_true, K131, i])
    rcases z with z | ⟨z1, z2⟩
    · simp only [f_Tc_hours, ↓ob_eq, ob_so, ldI, ldR, ldO, stI, stZ, stR, isO, wrA_n, rdA_n, wrA_l, rdA_l, gK_sI, gR_sI, gX_sI, gN_sI, gK_cp, gR_cp, gX_cp, gN_cp, rtZ_0, rtZ_1, if_true, reduceIte, and_self, true_and, and_true, K0, K1, R0_0, R1_0, z]
    · simp only [f_Tc_hours, ↓ob_eq, ob_so, ldI, ldR, ldO, stI, stZ, stR, isO, wrA_n, rdA_n, wrA_l, rdA_l, gK_sI, gR_sI, gX_sI, gN_sI, gK_cp, gR_cp, gX_cp, gN_cp, rtZ_0, rtZ_1, if_true, reduceIte, and_self, true_and, and_true, K0, K1, R0_0, R1_0, z1, z2, if_false]
  by_cases z1 : v < 1
  · exact ref0 0 (by unfold f_Mo_isIn; rw [if_pos z1, rtZ_0]) (Or.inl z1)
  by_cases z2 : (60 : Int32) < v
  · exact ref0 0 (by unfold f_Mo_isIn; rw [if_neg z1, if_pos z2, rtZ_0]) (Or.inr ⟨z1, z2⟩)
  have ii : ∀ hx, f_Mo_isIn (b + 131) v 1 60 hx = some (1, hx) := fun hx => by unfold f_Mo_isIn; rw [if_neg z1, if_neg z2, rtZ_1]
  have h0 : ¬ v < 0 := fun z => z1 (by
    rw [fa_lt] at z ⊢
    have e0 : (0 : Int32).toInt = 0 := rfl
    have e1 : (1 : Int32).toInt = 1 := rfl
    omega)
  obtain ⟨k, hk, rfl⟩ := nI_of h0
  have k60 : ¬ 60 < k := fun z => z2 ((L_ltn (n := 60) (by omega) (by decide)).mpr z)
  have k1 : ¬ k < 1 := fun z => z1 ((nI_ltL (n := 1) (by omega) (by decide)).mpr z)
  by_cases z3 : nI (H + k) ≤ 9999
  case neg =>
    exact both_ref I0 (r := -1) (by simp only [f_Tc_hours, ↓ob_eq, ob_so, ldI, ldR, ldO, stI, stZ, stR, isO, wrA_n, rdA_n, wrA_l, rdA_l, gK_sI, gR_sI, gX_sI, gN_sI, gK_cp, gR_cp, gX_cp, gN_cp, rtZ_0, rtZ_1, if_true, reduceIte, and_self, true_and, and_true, K0, K1, K2, R0_0, R1_0, z1, z2, f18, nI_add, z3, if_false]) (by simp only [f_Mo_hours, r0, ↓ob_eq, ob_so, ldR, stI, isO, reduceIte, if_true, K131, k9, pr, ii, nI_add, z3, e10, if_false])
  have hk9 : H + k ≤ 9999 := (nI_leL (n := 9999) (by omega) (by decide)).mp z3
  -- the class
  obtain ⟨h1, ⟨t1, rl1, rb1, bk1, ⟨nx1, lc1⟩, rog1⟩, e1⟩ := lpe (fun N i hx (s : (Nat → Int32) × (Nat → Int32) × Nat × (Nat → Nat → Int32)) => f_Tc_hours_44 N b (nI k) (b + 2) (nI (pcd (oS h b (gI h (b + 132))))) (nI i) hx) (hsS h b) (fun i s hx => Sn LW b h hx ∧ Rl h hx b 2 s.1 ∧ RowB (H + i) (ntOf h b) (noOf h b) s.1 ∧ Bk hx (b + 12) s.2.1 ∧ (∃ nx, LogC h hx b s.2.2.1 nx s.2.2.2) ∧ ∀ j, j < s.2.2.1 → RowOK (ntOf h b) (noOf h b) (s.2.2.2 j)) k (fun s hx => some (nI (pcd (oS h b s.1)) - nI (pcd (oS h b (gI h (b + 132)))), hx))
    (fun N i hx st hi q => by
      obtain ⟨q1, q2, q3, q4, ⟨nxx, q5⟩, q6⟩ := q
      obtain ⟨g, B, m, Gx⟩ := st
      dsimp only at q2 q3 q4 q5 q6 ⊢
      have dx : Sn DYN b h hx := q1.up (by decide)
      obtain ⟨hy, nxy, ty, lcy, ey⟩ := cl_keep I0 dx q5 q2
      have dy : Sn DYN b h hy := dx.tr (ty.up (by decide))
      have rly := q2.sn I0 ty (by decide)
      have bky : Bk hy (b + 12) B := q4.sn ty (by decide)
      obtain ⟨hz, tz, rlz, rbz, bkz, ez⟩ := cl_hour (th := false) I0 dy (Or.inl rfl) rly q3 bky
      have ez : f_Land_passHour (b + 1) (b + 2) 0 hy = some hz := ez
      have e2 : ¬ k ≤ i := by omega
      have kk : gK hx b = (0, 8) ∧ gK hx (b + 40) = (0, 3) ∧ gK hy b = (0, 8) ∧ gK hy (b + 1) = (0, 1) := ⟨by rw [dx.1]; exact K0, by rw [dx.1]; exact K40, by rw [dy.1]; exact K0, by rw [dy.1]; exact K1⟩
      have rr : gR hx b 1 = some (b + 40) ∧ gR hy b 0 = some (b + 1) := ⟨by rw [dx.2.1]; exact R0_1, by rw [dy.2.1]; exact R0_0⟩
      refine ⟨hz, ⟨(q1.tr (ty.up (by decide))).tr (tz.up (by decide)), rlz, rbz, bkz, ⟨nxy, lcy.sn I0 tz (by decide)⟩, cG_ok q5.1 (q3.mono (by omega)) q6⟩, ?_⟩
      rw [f_Tc_hours_44]
      simp (disch := omega) only [↓ob_eq, ob_so, ldI, ldR, ldO, stI, stZ, stR, isO, wrA_n, rdA_n, wrA_l, rdA_l, gK_sI, gR_sI, gX_sI, gN_sI, gK_cp, gR_cp, gX_cp, gN_cp, rtZ_0, rtZ_1, if_true, reduceIte, and_self, true_and, and_true, kk, rr, e2, ey, ez, nI_le', nI_addL, if_false])
    (fun N hx st q => by
      obtain ⟨q1, q2, q3, q4, q5, q6⟩ := q
      have dx : Sn DYN b h hx := q1.up (by decide)
      have kk : gK hx (b + 2) = (0, 5) := by rw [dx.1]; exact K2
      have fx : gI hx (b + 2) 7 = nI (oS h b st.1) := q2.2.2.2.2.2.2.2.2.2.1
      have bx := bitd (n := oS h b st.1) (bs4096 _ hnt) hx
      rw [f_Tc_hours_44]
      simp (disch := omega) only [↓ob_eq, ob_so, ldI, ldR, ldO, stI, stZ, stR, isO, wrA_n, rdA_n, wrA_l, rdA_l, gK_sI, gR_sI, gX_sI, gN_sI, gK_cp, gR_cp, gX_cp, gN_cp, rtZ_0, rtZ_1, if_true, reduceIte, and_self, true_and, and_true, kk, fx, bx, nI_le', Nat.le_refl])
    k 0 h (gI h (b + 132), gI h (b + 139), n, G) FU (by omega) ⟨Sn.rf, rl, rH, c_book, ⟨nx, lc⟩, rog⟩ (by rw [FU_eq]; omega)
  rw [nI_0] at e1
  have d1 : Sn DYN b h h1 := t1.up (by decide)
  -- the reference
  have d2 : Sn DYN b h (sI h1 (b + 131) 0 0) := d1.put 131 0 0 (by decide)
  have tB : Sn LM b h1 (sI h1 (b + 131) 0 0) := Sn.rf.put 131 0 0 (by decide)
  have rw2 : Rw (sI h1 (b + 131) 0 0) b (gI h (b + 132)) := fun j hj => by
    rw [gI_n1 (by omega), t1.I (disj_ok (M := [(132, 0, 79)]) (by decide) (inL_in (lo := 0) (hi := 79) (by decide) (by omega) hj))]
  have bk2 : Bk (sI h1 (b + 131) 0 0) (b + 139) (gI h (b + 139)) := fun j hj => by
    rw [gI_n1 (by omega), t1.I (disj_ok (M := [(139, 0, 600)]) (by decide) (inL_in (lo := 0) (hi := 600) (by decide) (by omega) hj))]
  have lm2 : LogM (sI h1 (b + 131) 0 0) b n G := (lm.sn lc.1 t1 (by decide)).sn lc.1 (Sn.rf.put (L := [(131, 0, 1)]) 131 0 0 (by decide)) (by decide)
  obtain ⟨h3, ⟨t3, rw3, rb3, bk3, lm3, _⟩, e3⟩ := lpe (fun N i hx (s : (Nat → Int32) × (Nat → Int32) × Nat × (Nat → Nat → Int32)) => f_Mo_hours_36 N (b + 131) (nI k) (nI (pcd (oS h b s.1)) - nI (pcd (oS h b (gI h (b + 132))))) (nI i) hx) (hsS h b) (fun i s hx => Sn LM b h1 hx ∧ Rw hx b s.1 ∧ RowB (H + i) (ntOf h b) (noOf h b) s.1 ∧ Bk hx (b + 139) s.2.1 ∧ LogM hx b s.2.2.1 s.2.2.2 ∧ s.2.2.1 ≤ 6) k (fun s hx => some (nI (pcd (oS h b s.1)) - nI (pcd (oS h b (gI h (b + 132)))), hx))
    (fun N i hx st hi q => by
      obtain ⟨q1, q2, q3, q4, q5, q6⟩ := q
      obtain ⟨g, B, m, Gx⟩ := st
      dsimp only at q2 q3 q4 q5 q6 ⊢
      have dx : Sn DYN b h hx := d1.tr (q1.up (by decide))
      obtain ⟨hy, ty, lmy, ey⟩ := mo_keeps I0 dx q6 q5 q2
      have dy : Sn DYN b h hy := dx.tr (ty.up (by decide))
      have fly : gI hy (b + 131) 5 = if (false : Bool) then 1 else 0 := by
        rw [ty.I (by decide), q1.I (by decide), t1.I (by decide)]
        exact c_msc.1
      obtain ⟨hz, tz, rwz, bkz, ez⟩ := mo_hour (th := false) I0 dy (q2.sn ty (by decide)) q3 (q4.sn ty (by decide)) fly
      obtain ⟨_, _, _, rbz, _⟩ := cl_hour_rb (th := false) (B := B) I0 q3
      have e2 : ¬ k ≤ i := by omega
      have kk : gK hx (b + 131) = (0, 9) ∧ gK hy (b + 131) = (0, 9) := ⟨by rw [dx.1]; exact K131, by rw [dy.1]; exact K131⟩
      rw [oS_1 I0, ← oS_h I0] at ez
      refine ⟨hz, ⟨(q1.tr (ty.up (by decide))).tr (tz.up (by decide)), rwz, rbz, bkz, lmy.sn (up6_le m) tz (by decide), up6_le m⟩, ?_⟩
      rw [f_Mo_hours_36]
      simp (disch := omega) only [↓ob_eq, ob_so, ldI, ldR, ldO, stI, stZ, stR, isO, wrA_n, rdA_n, wrA_l, rdA_l, gK_sI, gR_sI, gX_sI, gN_sI, gK_cp, gR_cp, gX_cp, gN_cp, rtZ_0, rtZ_1, if_true, reduceIte, and_self, true_and, and_true, kk, e2, ey, ez, tele, nI_le', nI_addL, if_false]
      rfl)
    (fun N hx st q => by
      rw [f_Mo_hours_36, if_pos ((nI_le' (by omega) (by omega)).mpr (Nat.le_refl _))])
    k 0 (sI h1 (b + 131) 0 0) (gI h (b + 132), gI h (b + 139), n, G) FU (by omega) ⟨tB, rw2, rH, bk2, lm2, lc.1⟩ (by rw [FU_eq]; omega)
  have z0 : nI (pcd (oS h b (gI h (b + 132)))) - nI (pcd (oS h b (gI h (b + 132)))) = 0 := Int32.sub_self _
  rw [nI_0, z0] at e3
  have d3 : Sn DYN b h h3 := d1.tr (t3.up (by decide))
  have t := t1.app t3
  have n_log := C_log.mk' I0 d3 (lc1.sn I0 t3 (by decide)) lm3 rog1
  have n_realm := C_realm.mk' I0 d3 (rl1.sn I0 t3 (by decide)) rw3 (rb1.mono (by omega))
  have n_book : C_book h3 b := fun j hj => by rw [bk1.sn t3 (by decide) j hj, bk3 j hj]
  refine both_mk (r := nI (pcd (oS h b (fo (hsS h b) 0 k (gI h (b + 132), gI h (b + 139), n, G)).1)) - nI (pcd (oS h b (gI h (b + 132))))) ?_ t1 ?_ t3 ⟨s.sn t, cd.cg t, c_stat.cg t (by decide), n_realm, n_book, c_law.cg t (by decide), c_kin.cg t (by decide), c_shi.cg t (by decide), c_roa.cg t (by decide), c_ord.cg t (by decide), c_han.cg t (by decide), c_wei.cg t (by decide), c_bag.cg t (by decide), c_pri.cg t (by decide), c_cnt.cg t (by decide), c_led.cg t (by decide), c_yea.cg t (by decide), n_log, c_rdr.cg t (by decide), c_msc.cg t (by decide), c_img.cg t (by decide)⟩
  · have z3' : nI H + nI k ≤ 9999 := by rw [nI_add]; exact z3
    simp only [f_Tc_hours, ↓ob_eq, ob_so, ldI, ldR, ldO, stI, stZ, stR, isO, wrA_n, rdA_n, wrA_l, rdA_l, gK_sI, gR_sI, gX_sI, gN_sI, gK_cp, gR_cp, gX_cp, gN_cp, rtZ_0, rtZ_1, if_true, reduceIte, and_self, true_and, and_true, K0, K1, K2, R0_0, R1_0, z1, z2, f18, z3', f7, bo, e1, if_false]
  · have k2 : gK h1 (b + 131) = (0, 9) := by rw [d1.1]; exact K131
    have k3 : gK (sI h1 (b + 131) 0 0) (b + 131) = (0, 9) ∧ gK (sI h1 (b + 131) 0 0) (b + 132) = (1, 79) := ⟨by rw [d2.1]; exact K131, by rw [d2.1]; exact K132⟩
    have p3 : gR (sI h1 (b + 131) 0 0) (b + 131) 1 = some (b + 132) := by rw [d2.2.1]; exact R131_1
    have r1 : rdA (sI h1 (b + 131) 0 0) (b + 132) 0 = some (nI H) := rd_at (k := 0) k3.2 (by decide) (by decide) (by rw [rw2 0 (by omega)]; exact H2)
    have z3' : nI H + nI k ≤ 9999 := by rw [nI_add]; exact z3
    simp only [f_Mo_hours, r1, ↓ob_eq, ob_so, ldR, stI, isO, reduceIte, if_true, k2, k3, p3, ii, z3', e3, e10, if_false]
