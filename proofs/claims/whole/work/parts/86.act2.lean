theorem LogC.sn {L : SL} {h hh h2 : PH} {b n nx : Nat} {G : Nat → Nat → Int32} (I : Inv b h) (lc : LogC h hh b n nx G) (t : Sn L b hh h2) (hd : ∀ p ∈ L, p.1 < 40 ∨ 102 ≤ p.1) : LogC h h2 b n nx G := by
  obtain ⟨n6, x6, l2, l1, ll⟩ := lc
  have no : ∀ j, inL L 40 j = false := fun j => by
    cases q : inL L 40 j
    · rfl
    · exfalso
      unfold inL at q
      rw [List.any_eq_true] at q
      obtain ⟨p, hp, e⟩ := q
      simp only [Bool.and_eq_true, beq_iff_eq, decide_eq_true_eq] at e
      have := hd p hp
      omega
  refine ⟨n6, x6, by rw [t.2.2.2.2 40 2 (no 2)]; exact l2, by rw [t.2.2.2.2 40 1 (no 1)]; exact l1, fun i hi => (ll i hi).sn I t (fun p hp => ?_)⟩
  have := hd p hp
  have e : logAt nx i = 42 + 10 * ((nx + 5 - i) % 6) := rfl
  have h6 : (nx + 5 - i) % 6 < 6 := Nat.mod_lt _ (by omega)
  omega
theorem LogM.sn {L : SL} {hh h2 : PH} {b n : Nat} {G : Nat → Nat → Int32} (n6 : n ≤ 6) (lm : LogM hh b n G) (t : Sn L b hh h2) (hd : disj L [(131, 3, 4), (133, 0, 474)] = true) : LogM h2 b n G := by
  refine ⟨by rw [t.I (disj_ok hd (inL_in (lo := 3) (hi := 4) (by decide) (by omega) (by omega)))]; exact lm.1, fun i hi j hj => ?_⟩
  rw [t.I (disj_ok hd (inL_in (lo := 0) (hi := 474) (by decide) (by omega) (by omega)))]
  exact lm.2 i hi j hj
theorem cG_ok {n nt no : Nat} {g : Nat → Int32} {G : Nat → Nat → Int32} (n6 : n ≤ 6) (rg : RowOK nt no g) (ro : ∀ i, i < n → RowOK nt no (G i)) : ∀ i, i < up6 n → RowOK nt no (cG g G i) := fun i hi => by
  rw [up6_eq n6] at hi
  cases i with
  | zero => exact rg
  | succ i =>
    refine ro i ?_
    split at hi <;> omega
theorem gate_cases (x : Int32) : (∃ k, k < 4 ∧ x = nI k ∧ (∀ h, f_Tc_within x 3 h = some (1, h)) ∧ ∀ a h, f_Mo_isGate a x h = some (1, h)) ∨ ((∀ h, f_Tc_within x 3 h = some (0, h)) ∧ ∀ a h, f_Mo_isGate a x h = some (0, h)) := by
  rcases in_cases x 3 3 rfl (by omega) with ⟨k, hk, rfl, u, i⟩ | ⟨u, i⟩
  · refine Or.inl ⟨k, by omega, rfl, u, fun a h => ?_⟩
    have e0 : ¬ nI k < 0 := nI_pos (by omega)
    have e1 : ¬ (4 : Int32) ≤ nI k := fun z => by
      have this : 4 ≤ k := (L_len (n := 4) (by omega) (by decide)).mp z
      omega
    unfold f_Mo_isGate
    rw [if_neg e0, if_neg e1, rtZ_1]
  · refine Or.inr ⟨u, fun a h => ?_⟩
    unfold f_Mo_isGate
    by_cases e0 : x < 0
    · rw [if_pos e0, rtZ_0]
    · rw [if_neg e0]
      by_cases e1 : (4 : Int32) ≤ x
      · rw [if_pos e1, rtZ_0]
      · exfalso
        obtain ⟨k, hk, rfl⟩ := nI_of e0
        have hk4 : ¬ 4 ≤ k := fun z => e1 ((L_len (n := 4) (by omega) (by decide)).mpr z)
        have e3 : ¬ (3 : Int32) < nI k := fun z => by
          have this : 3 < k := (L_ltn (n := 3) (by omega) (by decide)).mp z
          omega
        have := u h
        unfold f_Tc_within at this
        rw [if_neg e0, if_neg e3, rtZ_1] at this
        have := congrArg (fun o => o.map Prod.fst) this
        exact absurd this (by simp)
theorem op_act (b : Nat) : B_act (Inv b) b (b + 131) := by
  intro h I v1 v2 v3
  have I0 := I
  obtain ⟨s, cd, c_stat, c_realm, c_book, c_law, c_kin, c_shi, c_roa, c_ord, c_han, c_wei, c_bag, c_pri, c_cnt, c_led, c_yea, c_log, c_rdr, c_msc, c_img⟩ := I
  have K0 : gK h b = (0, 8) := s.K 0 (by decide) rfl
  have K1 : gK h (b + 1) = (0, 1) := s.K 1 (by decide) rfl
  have K2 : gK h (b + 2) = (0, 5) := s.K 2 (by decide) rfl
  have K40 : gK h (b + 40) = (0, 3) := s.K 40 (by decide) rfl
  have K131 : gK h (b + 131) = (0, 9) := s.K 131 (by decide) rfl
  have K132 : gK h (b + 132) = (1, 79) := s.K 132 (by decide) rfl
  have R0_0 : gR h b 0 = some (b + 1) := s.R 0 0 rfl
  have R0_1 : gR h b 1 = some (b + 40) := s.R 0 1 rfl
  have R1_0 : gR h (b + 1) 0 = some (b + 2) := s.R 1 0 rfl
  have R131_1 : gR h (b + 131) 1 = some (b + 132) := s.R 131 1 rfl
  have rl : Rl h h b 2 (gI h (b + 132)) := c_realm.2.2
  have rk : RowB 20000 (ntOf h b) (noOf h b) (gI h (b + 132)) := c_realm.2.1
  have c_realm' := c_realm
  obtain ⟨⟨hnt, hno⟩, _, F1, F9, _⟩ := c_realm'
  have hN6 : gI h (b + 131) 6 = nI (ntOf h b) := c_stat.1
  have hN7 : gI h (b + 131) 7 = nI (noOf h b) := c_stat.2.1
  have F1 : gI h (b + 2) 1 = nI (ntOf h b) := F1
  have F9 : gI h (b + 2) 9 = nI (noOf h b) := F9
  have e10 : ¬ (1 : Int32) = 0 := by decide
  obtain ⟨n, nx, G, lc, lm, rog⟩ := c_log.get
  -- one that may be done, or not
  have fin : ∀ k who (v : Int32), VA (ntOf h b) (noOf h b) k who v → (∀ hx, Sn DYN b h hx → f_Mo_act (b + 131) (nI k) (nI who) v hx = f_Mo_act_74 (b + 131) (nI k) (nI who) v (sI hx (b + 131) 0 0)) → Both (Inv b) h (fun h => f_Tc_act b (nI k) (nI who) v h) (fun h => f_Mo_act (b + 131) (nI k) (nI who) v h) := fun k who v va pre => by
    have cd1 := cl_canDo I0 (Sn.rf (L := DYN)) (Or.inl rfl) rl rk va
    cases q : canA (gI h (b + 132)) k who
    · rw [q] at cd1
      have cd1 : f_Realm_canDo (b + 2) (nI k) (nI who) v h = some (0, h) := cd1
      have t0 : Sn DYN b h (sI h (b + 131) 0 0) := Sn.rf.put 131 0 0 (by decide)
      have rw0 : Rw (sI h (b + 131) 0 0) b (gI h (b + 132)) := fun j hj => gI_n1 (by omega)
      have ca := mo_canAct I0 t0 rw0 rk va
      rw [q] at ca
      have ca : f_Mo_canAct (b + 131) (nI k) (nI who) (sI h (b + 131) 0 0) = some (0, sI h (b + 131) 0 0) := ca
      have k0 : gK (sI h (b + 131) 0 0) (b + 131) = (0, 9) := K131
      refine both_ref I0 (r := 0) ?_ ?_
      · simp only [f_Tc_act, ↓ob_eq, ob_so, ldI, ldR, ldO, stI, stZ, stR, isO, wrA_n, rdA_n, wrA_l, rdA_l, gK_sI, gR_sI, gX_sI, gN_sI, gK_cp, gR_cp, gX_cp, gN_cp, rtZ_0, rtZ_1, if_true, reduceIte, and_self, true_and, and_true, K0, K1, K2, R0_0, R1_0, cd1]
      · rw [pre h Sn.rf]
        simp only [f_Mo_act_74, ↓ob_eq, ob_so, ldI, ldR, ldO, stI, stZ, stR, isO, wrA_n, rdA_n, wrA_l, rdA_l, gK_sI, gR_sI, gX_sI, gN_sI, gK_cp, gR_cp, gX_cp, gN_cp, rtZ_0, rtZ_1, if_true, reduceIte, and_self, true_and, and_true, K131, ca]
    · rw [q] at cd1
      have cd1 : f_Realm_canDo (b + 2) (nI k) (nI who) v h = some (1, h) := cd1
      obtain ⟨h1, nx1, t1, lc1, e1⟩ := cl_keep I0 (Sn.rf (L := DYN)) lc rl
      have d1 : Sn DYN b h h1 := t1.up (by decide)
      have rl1 : Rl h h1 b 2 (gI h (b + 132)) := rl.sn I0 t1 (by decide)
      obtain ⟨h2, t2, rl2, e2⟩ := cl_perform I0 d1 (Or.inl rfl) rl1 rk va
      rw [if_pos q] at rl2
      have d2 : Sn DYN b h h2 := d1.tr (t2.up (by decide))
      have lc2 := lc1.sn I0 t2 (by decide)
      have tA := t1.app t2
      have tB : Sn [(131, 0, 1)] b h2 (sI h2 (b + 131) 0 0) := Sn.rf.put 131 0 0 (by decide)
      have d3 : Sn DYN b h (sI h2 (b + 131) 0 0) := d2.tr (tB.up (by decide))
      have rw3 : Rw (sI h2 (b + 131) 0 0) b (gI h (b + 132)) := fun j hj => by
        rw [gI_n1 (by omega), tA.I (disj_ok (M := [(132, 0, 79)]) (by decide) (inL_in (lo := 0) (hi := 79) (by decide) (by omega) hj))]
      have ca := mo_canAct I0 d3 rw3 rk va
      rw [q] at ca
      have ca : f_Mo_canAct (b + 131) (nI k) (nI who) (sI h2 (b + 131) 0 0) = some (1, sI h2 (b + 131) 0 0) := ca
      have lm3 : LogM (sI h2 (b + 131) 0 0) b n G := (lm.sn lc.1 tA (by decide)).sn lc.1 tB (by decide)
      obtain ⟨h4, t4, lm4, e4⟩ := mo_keeps I0 d3 lc.1 lm3 rw3
      have d4 : Sn DYN b h h4 := d3.tr (t4.up (by decide))
      have rw4 : Rw h4 b (gI h (b + 132)) := rw3.sn t4 (by decide)
      obtain ⟨h5, t5, rw5, e5⟩ := mo_acts I0 d4 rw4 rk va q
      have d5 : Sn DYN b h h5 := d4.tr (t5.up (by decide))
      have tC := tB.app (t4.app t5)
      have t := tA.app tC
      have lc5 : LogC h h5 b (up6 n) nx1 (cG (gI h (b + 132)) G) := lc2.sn I0 tC (by decide)
      have lm5 := lm4.sn lc1.1 t5 (by decide)
      have n_log := C_log.mk' I0 d5 lc5 lm5 (cG_ok lc.1 rk rog)
      have n_realm := C_realm.mk' I0 d5 (rl2.sn I0 tC (by decide)) rw5 (act_RowB hnt hno rk va)
      refine both_mk (r := 1) ?_ tA ?_ tC ⟨s.sn t, cd.cg t, c_stat.cg t (by decide), n_realm, c_book.cg t (by decide), c_law.cg t (by decide), c_kin.cg t (by decide), c_shi.cg t (by decide), c_roa.cg t (by decide), c_ord.cg t (by decide), c_han.cg t (by decide), c_wei.cg t (by decide), c_bag.cg t (by decide), c_pri.cg t (by decide), c_cnt.cg t (by decide), c_led.cg t (by decide), c_yea.cg t (by decide), n_log, c_rdr.cg t (by decide), c_msc.cg t (by decide), c_img.cg t (by decide)⟩
      · have kz : gK h1 b = (0, 8) ∧ gK h1 (b + 1) = (0, 1) ∧ gK h1 (b + 2) = (0, 5) := ⟨by rw [t1.1]; exact K0, by rw [t1.1]; exact K1, by rw [t1.1]; exact K2⟩
        have rz : gR h1 b 0 = some (b + 1) ∧ gR h1 (b + 1) 0 = some (b + 2) := ⟨by rw [t1.2.1]; exact R0_0, by rw [t1.2.1]; exact R1_0⟩
        simp only [f_Tc_act, ↓ob_eq, ob_so, ldI, ldR, ldO, stI, stZ, stR, isO, wrA_n, rdA_n, wrA_l, rdA_l, gK_sI, gR_sI, gX_sI, gN_sI, gK_cp, gR_cp, gX_cp, gN_cp, rtZ_0, rtZ_1, if_true, reduceIte, and_self, true_and, and_true, K0, K1, K2, K40, R0_0, R0_1, R1_0, cd1, e1, e2, kz, rz, e10, if_false]
      · have k2 : gK h2 (b + 131) = (0, 9) := by rw [d2.1]; exact K131
        have k4 : gK h4 (b + 131) = (0, 9) := by rw [d4.1]; exact K131
        rw [pre h2 d2]
        simp only [f_Mo_act_74, ↓ob_eq, ob_so, ldI, ldR, ldO, stI, stZ, stR, isO, wrA_n, rdA_n, wrA_l, rdA_l, gK_sI, gR_sI, gX_sI, gN_sI, gK_cp, gR_cp, gX_cp, gN_cp, rtZ_0, rtZ_1, if_true, reduceIte, and_self, true_and, and_true, k2, k4, ca, e4, e5, e10, if_false]
  rcases in_cases v1 5 5 rfl (by omega) with ⟨k, hk, rfl, u1, i1⟩ | ⟨u1, i1⟩
  case inr =>
    have nz : ∀ c : Nat, c ≤ 5 → ¬ v1 = nI c := fun c hc z => by
      have := u1 h
      rw [z] at this
      have e0 : ¬ nI c < 0 := nI_pos (by omega)
      have e5 : ¬ (5 : Int32) < nI c := fun z => by
        have this : 5 < c := (L_ltn (n := 5) (by omega) (by decide)).mp z
        omega
      unfold f_Tc_within at this
      rw [if_neg e0, if_neg e5, rtZ_1] at this
      have := congrArg (fun o => o.map Prod.fst) this
      exact absurd this (by simp)
    have z0 : ¬ v1 = 0 := nz 0 (by omega)
    have z1 : ¬ v1 = 1 := nz 1 (by omega)
    have z2 : ¬ v1 = 2 := nz 2 (by omega)
    have z3 : ¬ v1 = 3 := nz 3 (by omega)
    have z4 : ¬ v1 = 4 := nz 4 (by omega)
    have z5 : ¬ v1 = 5 := nz 5 (by omega)
    exact both_ref I0 (r := 0) (by simp only [f_Tc_act, f_Realm_canDo, ↓ob_eq, ob_so, ldI, ldR, ldO, stI, stZ, stR, isO, wrA_n, rdA_n, wrA_l, rdA_l, gK_sI, gR_sI, gX_sI, gN_sI, gK_cp, gR_cp, gX_cp, gN_cp, rtZ_0, rtZ_1, if_true, reduceIte, and_self, true_and, and_true, K0, K1, K2, R0_0, R1_0, z0, z1, z2, z3, z4, z5, if_false]) (by simp only [f_Mo_act, i1, ↓ob_eq, ob_so, ldI, ldR, ldO, stI, stZ, stR, isO, wrA_n, rdA_n, wrA_l, rdA_l, gK_sI, gR_sI, gX_sI, gN_sI, gK_cp, gR_cp, gX_cp, gN_cp, rtZ_0, rtZ_1, if_true, reduceIte, and_self, true_and, and_true, K131])
  have kx : ∀ hx, Sn DYN b h hx → gK hx (b + 131) = (0, 9) ∧ gK (sI hx (b + 131) 0 0) (b + 131) = (0, 9) ∧ gI (sI hx (b + 131) 0 0) (b + 131) 6 = nI (ntOf h b) ∧ gI (sI hx (b + 131) 0 0) (b + 131) 7 = nI (noOf h b) := fun hx tx => by
    refine ⟨by rw [tx.1]; exact K131, by show gK hx (b + 131) = (0, 9); rw [tx.1]; exact K131, ?_, ?_⟩
    · rw [gI_n2 (by omega), tx.I (by decide)]; exact hN6
    · rw [gI_n2 (by omega), tx.I (by decide)]; exact hN7
  have g3 : ∀ c : Nat, c ≤ 2 → ¬ (3 : Int32) ≤ nI c := fun c hc z => by
    have this : 3 ≤ c := (L_len (n := 3) (by omega) (by decide)).mp z
    omega
  by_cases hk3 : k < 3
  · -- of a traveller
    have n3 : ¬ nI k = 3 := fun z => by
      have this : k = 3 := (nI_eqL (n := 3) (by omega) (by decide)).mp z
      omega
    rcases tra_cases v2 (ntOf h b) hnt with ⟨t, ht, rfl, u2, i2⟩ | ⟨u2, i2⟩
    case inr =>
      have iI' : f_Realm_isInside (b + 2) v2 h = some (0, h) := by
        have := u2 (b + 2) h K2 F1
        simp only [f_Realm_isInside, ↓ob_eq, ob_so, ldI, ldR, ldO, stI, stZ, stR, isO, wrA_n, rdA_n, wrA_l, rdA_l, gK_sI, gR_sI, gX_sI, gN_sI, gK_cp, gR_cp, gX_cp, gN_cp, rtZ_0, rtZ_1, if_true, reduceIte, and_self, true_and, and_true, K2, this]
      have cz : f_Realm_canDo (b + 2) (nI k) v2 v3 h = some (0, h) := by
        have : k = 0 ∨ k = 1 ∨ k = 2 := by omega
        rcases this with rfl | rfl | rfl
        · have z0 : (nI 0 = 0) = True := eq_true nI_0
          simp only [f_Realm_canDo, ↓ob_eq, ob_so, ldI, ldR, ldO, stI, stZ, stR, isO, wrA_n, rdA_n, wrA_l, rdA_l, gK_sI, gR_sI, gX_sI, gN_sI, gK_cp, gR_cp, gX_cp, gN_cp, rtZ_0, rtZ_1, if_true, reduceIte, and_self, true_and, and_true, K2, iI', z0]
        · have z0 : ¬ nI 1 = 0 := by decide
          have z1 : (nI 1 = 1) = True := eq_true rfl
          simp only [f_Realm_canDo, ↓ob_eq, ob_so, ldI, ldR, ldO, stI, stZ, stR, isO, wrA_n, rdA_n, wrA_l, rdA_l, gK_sI, gR_sI, gX_sI, gN_sI, gK_cp, gR_cp, gX_cp, gN_cp, rtZ_0, rtZ_1, if_true, reduceIte, and_self, true_and, and_true, K2, iI', z0, z1, if_false]
        · have z0 : ¬ nI 2 = 0 := by decide
          have z1 : ¬ nI 2 = 1 := by decide
          have z2 : (nI 2 = 2) = True := eq_true rfl
          simp only [f_Realm_canDo, ↓ob_eq, ob_so, ldI, ldR, ldO, stI, stZ, stR, isO, wrA_n, rdA_n, wrA_l, rdA_l, gK_sI, gR_sI, gX_sI, gN_sI, gK_cp, gR_cp, gX_cp, gN_cp, rtZ_0, rtZ_1, if_true, reduceIte, and_self, true_and, and_true, K2, iI', z0, z1, z2, if_false]
      obtain ⟨k1, k2, k3, k4⟩ := kx h Sn.rf
      have i' := i2 (b + 131) _ k2 k3
      exact both_ref I0 (r := 0) (by simp only [f_Tc_act, ↓ob_eq, ob_so, ldI, ldR, ldO, stI, stZ, stR, isO, wrA_n, rdA_n, wrA_l, rdA_l, gK_sI, gR_sI, gX_sI, gN_sI, gK_cp, gR_cp, gX_cp, gN_cp, rtZ_0, rtZ_1, if_true, reduceIte, and_self, true_and, and_true, K0, K1, K2, R0_0, R1_0, cz]) (by simp only [f_Mo_act, i1, ↓ob_eq, ob_so, ldI, ldR, ldO, stI, stZ, stR, isO, wrA_n, rdA_n, wrA_l, rdA_l, gK_sI, gR_sI, gX_sI, gN_sI, gK_cp, gR_cp, gX_cp, gN_cp, rtZ_0, rtZ_1, if_true, reduceIte, and_self, true_and, and_true, K131, k2, i', g3 k (by omega), e10, if_false])
    by_cases hk0 : k = 0
    · subst hk0
      have z0 : (nI 0 = 0) = True := eq_true nI_0
      rcases gate_cases v3 with ⟨y, hy, rfl, u3, i3⟩ | ⟨u3, i3⟩
      · refine fin 0 t (nI y) ⟨by omega, fun _ => ht, fun z => absurd z (by omega), fun z => absurd z (by omega), fun _ => ⟨y, hy, rfl⟩⟩ (fun hx tx => ?_)
        obtain ⟨k1, k2, k3, k4⟩ := kx hx tx
        have i' := i2 (b + 131) _ k2 k3
        simp only [f_Mo_act, f_Mo_act_57, f_Mo_act_66, i1, i3, ↓ob_eq, ob_so, ldI, ldR, ldO, stI, stZ, stR, isO, wrA_n, rdA_n, wrA_l, rdA_l, gK_sI, gR_sI, gX_sI, gN_sI, gK_cp, gR_cp, gX_cp, gN_cp, rtZ_0, rtZ_1, if_true, reduceIte, and_self, true_and, and_true, k1, k2, i', z0, g3 0 (by omega), e10, if_false]
      · have cz : f_Realm_canDo (b + 2) (nI 0) (nI t) v3 h = some (0, h) := by
          have z := rl_inside (i := t) K2 F1 rl.2.2.2.2.2.2.2.2.2.1 hnt ht
          cases q : (gI h (b + 132) (43 + t) == 1)
          · rw [q] at z
            have z : f_Realm_isInside (b + 2) (nI t) h = some (1, h) := z
            simp only [f_Realm_canDo, ↓ob_eq, ob_so, ldI, ldR, ldO, stI, stZ, stR, isO, wrA_n, rdA_n, wrA_l, rdA_l, gK_sI, gR_sI, gX_sI, gN_sI, gK_cp, gR_cp, gX_cp, gN_cp, rtZ_0, rtZ_1, if_true, reduceIte, and_self, true_and, and_true, K2, z, z0, u3, e10, if_false]
          · rw [q] at z
            have z : f_Realm_isInside (b + 2) (nI t) h = some (0, h) := z
            simp only [f_Realm_canDo, ↓ob_eq, ob_so, ldI, ldR, ldO, stI, stZ, stR, isO, wrA_n, rdA_n, wrA_l, rdA_l, gK_sI, gR_sI, gX_sI, gN_sI, gK_cp, gR_cp, gX_cp, gN_cp, rtZ_0, rtZ_1, if_true, reduceIte, and_self, true_and, and_true, K2, z, z0]
        obtain ⟨k1, k2, k3, k4⟩ := kx h Sn.rf
        have i' := i2 (b + 131) _ k2 k3
        exact both_ref I0 (r := 0) (by simp only [f_Tc_act, ↓ob_eq, ob_so, ldI, ldR, ldO, stI, stZ, stR, isO, wrA_n, rdA_n, wrA_l, rdA_l, gK_sI, gR_sI, gX_sI, gN_sI, gK_cp, gR_cp, gX_cp, gN_cp, rtZ_0, rtZ_1, if_true, reduceIte, and_self, true_and, and_true, K0, K1, K2, R0_0, R1_0, cz]) (by simp only [f_Mo_act, f_Mo_act_57, f_Mo_act_66, i1, i3, ↓ob_eq, ob_so, ldI, ldR, ldO, stI, stZ, stR, isO, wrA_n, rdA_n, wrA_l, rdA_l, gK_sI, gR_sI, gX_sI, gN_sI, gK_cp, gR_cp, gX_cp, gN_cp, rtZ_0, rtZ_1, if_true, reduceIte, and_self, true_and, and_true, K131, k2, i', z0, g3 0 (by omega), e10, if_false])
    · have z0 : ¬ nI k = 0 := fun z => hk0 ((nI_eqL (n := 0) (by omega) (by decide)).mp z)
      refine fin k t v3 ⟨by omega, fun _ => ht, fun z => absurd z (by omega), fun z => absurd z (by omega), fun z => absurd z (by omega)⟩ (fun hx tx => ?_)
      obtain ⟨k1, k2, k3, k4⟩ := kx hx tx
      have i' := i2 (b + 131) _ k2 k3
      simp only [f_Mo_act, f_Mo_act_57, i1, ↓ob_eq, ob_so, ldI, ldR, ldO, stI, stZ, stR, isO, wrA_n, rdA_n, wrA_l, rdA_l, gK_sI, gR_sI, gX_sI, gN_sI, gK_cp, gR_cp, gX_cp, gN_cp, rtZ_0, rtZ_1, if_true, reduceIte, and_self, true_and, and_true, k1, k2, i', z0, n3, g3 k (by omega), e10, if_false]
  · by_cases hk4 : k = 3
    · subst hk4
      have z0 : ¬ nI 3 = 0 := by decide
      have z1 : ¬ nI 3 = 1 := by decide
      have z2 : ¬ nI 3 = 2 := by decide
      have z3 : (nI 3 = 3) = True := eq_true rfl
      have g33 : (3 : Int32) ≤ nI 3 := by decide
      rcases off_cases v2 (noOf h b) hno with ⟨t, ht, rfl, u2, i2⟩ | ⟨u2, i2⟩
      case inr =>
        have u := u2 (b + 2) h K2 F9
        have cz : f_Realm_canDo (b + 2) (nI 3) v2 v3 h = some (0, h) := by
          simp only [f_Realm_canDo, ↓ob_eq, ob_so, ldI, ldR, ldO, stI, stZ, stR, isO, wrA_n, rdA_n, wrA_l, rdA_l, gK_sI, gR_sI, gX_sI, gN_sI, gK_cp, gR_cp, gX_cp, gN_cp, rtZ_0, rtZ_1, if_true, reduceIte, and_self, true_and, and_true, K2, u, z0, z1, z2, z3, if_false]
        obtain ⟨k1, k2, k3, k4⟩ := kx h Sn.rf
        have i' := i2 (b + 131) _ k2 k4
        exact both_ref I0 (r := 0) (by simp only [f_Tc_act, ↓ob_eq, ob_so, ldI, ldR, ldO, stI, stZ, stR, isO, wrA_n, rdA_n, wrA_l, rdA_l, gK_sI, gR_sI, gX_sI, gN_sI, gK_cp, gR_cp, gX_cp, gN_cp, rtZ_0, rtZ_1, if_true, reduceIte, and_self, true_and, and_true, K0, K1, K2, R0_0, R1_0, cz]) (by simp only [f_Mo_act, i1, ↓ob_eq, ob_so, ldI, ldR, ldO, stI, stZ, stR, isO, wrA_n, rdA_n, wrA_l, rdA_l, gK_sI, gR_sI, gX_sI, gN_sI, gK_cp, gR_cp, gX_cp, gN_cp, rtZ_0, rtZ_1, if_true, reduceIte, and_self, true_and, and_true, K131, k2, i', g33, z3, e10, if_false])
      rcases gate_cases v3 with ⟨y, hy, rfl, u3, i3⟩ | ⟨u3, i3⟩
      · refine fin 3 t (nI y) ⟨by omega, fun z => absurd z (by omega), fun _ => ht, fun z => absurd z (by omega), fun _ => ⟨y, hy, rfl⟩⟩ (fun hx tx => ?_)
        obtain ⟨k1, k2, k3, k4⟩ := kx hx tx
        have i' := i2 (b + 131) _ k2 k4
        simp only [f_Mo_act, f_Mo_act_57, f_Mo_act_66, i1, i3, ↓ob_eq, ob_so, ldI, ldR, ldO, stI, stZ, stR, isO, wrA_n, rdA_n, wrA_l, rdA_l, gK_sI, gR_sI, gX_sI, gN_sI, gK_cp, gR_cp, gX_cp, gN_cp, rtZ_0, rtZ_1, if_true, reduceIte, and_self, true_and, and_true, k1, k2, i', z0, z3, g33, e10, if_false]
      · have u := u2 (b + 2) h K2 F9
        have cz : f_Realm_canDo (b + 2) (nI 3) (nI t) v3 h = some (0, h) := by
          simp only [f_Realm_canDo, ↓ob_eq, ob_so, ldI, ldR, ldO, stI, stZ, stR, isO, wrA_n, rdA_n, wrA_l, rdA_l, gK_sI, gR_sI, gX_sI, gN_sI, gK_cp, gR_cp, gX_cp, gN_cp, rtZ_0, rtZ_1, if_true, reduceIte, and_self, true_and, and_true, K2, u, u3, z0, z1, z2, z3, e10, if_false]
        obtain ⟨k1, k2, k3, k4⟩ := kx h Sn.rf
        have i' := i2 (b + 131) _ k2 k4
        exact both_ref I0 (r := 0) (by simp only [f_Tc_act, ↓ob_eq, ob_so, ldI, ldR, ldO, stI, stZ, stR, isO, wrA_n, rdA_n, wrA_l, rdA_l, gK_sI, gR_sI, gX_sI, gN_sI, gK_cp, gR_cp, gX_cp, gN_cp, rtZ_0, rtZ_1, if_true, reduceIte, and_self, true_and, and_true, K0, K1, K2, R0_0, R1_0, cz]) (by simp only [f_Mo_act, f_Mo_act_57, f_Mo_act_66, i1, i3, ↓ob_eq, ob_so, ldI, ldR, ldO, stI, stZ, stR, isO, wrA_n, rdA_n, wrA_l, rdA_l, gK_sI, gR_sI, gX_sI, gN_sI, gK_cp, gR_cp, gX_cp, gN_cp, rtZ_0, rtZ_1, if_true, reduceIte, and_self, true_and, and_true, K131, k2, i', g33, z0, z3, e10, if_false])
    · have k45 : k = 4 ∨ k = 5 := by omega
      have g34 : (3 : Int32) ≤ nI k := (L_len (n := 3) (by omega) (by decide)).mpr (by show 3 ≤ k; omega)
      have nz : ∀ c : Nat, c ≤ 3 → ¬ nI k = nI c := fun c hc z => by
        have := (nI_eq (by omega) (by omega)).mp z
        omega
      have z0 : ¬ nI k = 0 := nz 0 (by omega)
      have z1 : ¬ nI k = 1 := nz 1 (by omega)
      have z2 : ¬ nI k = 2 := nz 2 (by omega)
      have z3 : ¬ nI k = 3 := nz 3 (by omega)
      rcases gate_cases v2 with ⟨y, hy, rfl, u2, i2⟩ | ⟨u2, i2⟩
      · refine fin k y v3 ⟨by omega, fun z => absurd z (by omega), fun z => absurd z (by omega), fun _ => hy, fun z => absurd z (by omega)⟩ (fun hx tx => ?_)
        obtain ⟨k1, k2, k3, k4⟩ := kx hx tx
        simp only [f_Mo_act, f_Mo_act_57, i1, i2, ↓ob_eq, ob_so, ldI, ldR, ldO, stI, stZ, stR, isO, wrA_n, rdA_n, wrA_l, rdA_l, gK_sI, gR_sI, gX_sI, gN_sI, gK_cp, gR_cp, gX_cp, gN_cp, rtZ_0, rtZ_1, if_true, reduceIte, and_self, true_and, and_true, k1, k2, z0, z3, g34, e10, if_false]
      · have cz : f_Realm_canDo (b + 2) (nI k) v2 v3 h = some (0, h) := by
          rcases k45 with rfl | rfl
          · have z4 : (nI 4 = 4) = True := eq_true rfl
            simp only [f_Realm_canDo, ↓ob_eq, ob_so, ldI, ldR, ldO, stI, stZ, stR, isO, wrA_n, rdA_n, wrA_l, rdA_l, gK_sI, gR_sI, gX_sI, gN_sI, gK_cp, gR_cp, gX_cp, gN_cp, rtZ_0, rtZ_1, if_true, reduceIte, and_self, true_and, and_true, u2, z0, z1, z2, z3, z4, if_false]
          · have z4 : ¬ nI 5 = 4 := by decide
            have z5 : (nI 5 = 5) = True := eq_true rfl
            simp only [f_Realm_canDo, ↓ob_eq, ob_so, ldI, ldR, ldO, stI, stZ, stR, isO, wrA_n, rdA_n, wrA_l, rdA_l, gK_sI, gR_sI, gX_sI, gN_sI, gK_cp, gR_cp, gX_cp, gN_cp, rtZ_0, rtZ_1, if_true, reduceIte, and_self, true_and, and_true, u2, z0, z1, z2, z3, z4, z5, if_false]
        obtain ⟨k1, k2, k3, k4⟩ := kx h Sn.rf
        exact both_ref I0 (r := 0) (by simp only [f_Tc_act, ↓ob_eq, ob_so, ldI, ldR, ldO, stI, stZ, stR, isO, wrA_n, rdA_n, wrA_l, rdA_l, gK_sI, gR_sI, gX_sI, gN_sI, gK_cp, gR_cp, gX_cp, gN_cp, rtZ_0, rtZ_1, if_true, reduceIte, and_self, true_and, and_true, K0, K1, K2, R0_0, R1_0, cz]) (by simp only [f_Mo_act, i1, i2, ↓ob_eq, ob_so, ldI, ldR, ldO, stI, stZ, stR, isO, wrA_n, rdA_n, wrA_l, rdA_l, gK_sI, gR_sI, gX_sI, gN_sI, gK_cp, gR_cp, gX_cp, gN_cp, rtZ_0, rtZ_1, if_true, reduceIte, and_self, true_and, and_true, K131, k2, g34, z3, e10, if_false])
