/-! ===== goes ===== -/
theorem pcn_add : ∀ n k x, n < k → x < 2 ^ n → pcn k (x + 2 ^ n) = pcn k x + 1
  | 0, k, x, hk, hx => by
    obtain ⟨m, rfl⟩ : ∃ m, k = m + 1 := ⟨k - 1, by omega⟩
    obtain rfl : x = 0 := by
      have : 2 ^ 0 = 1 := rfl
      omega
    have z : ∀ m, pcn m 0 = 0 := fun m => by
      induction m with
      | zero => rfl
      | succ m ih => rw [pcn, Nat.zero_mod, Nat.zero_div, ih]
    rw [pcn, pcn]
    show 1 + pcn m 0 = 0 + pcn m 0 + 1
    omega
  | n + 1, k, x, hk, hx => by
    obtain ⟨m, rfl⟩ : ∃ m, k = m + 1 := ⟨k - 1, by omega⟩
    have e : 2 ^ (n + 1) = 2 * 2 ^ n := by rw [Nat.pow_succ, Nat.mul_comm]
    rw [e] at hx ⊢
    have e1 : (x + 2 * 2 ^ n) / 2 = x / 2 + 2 ^ n := by omega
    have e2 : (x + 2 * 2 ^ n) % 2 = x % 2 := by omega
    rw [pcn, pcn, e1, e2, pcn_add n m (x / 2) (by omega) (by omega)]
    omega
theorem pcd_bs (p : Nat → Bool) : ∀ n, n ≤ 12 → pcd (bs n p) = sg p (fun _ => 1) n
  | 0, _ => by
    rw [bs, sg]; rfl
  | n + 1, hn => by
    have ih := pcd_bs p n (by omega)
    rw [bs, sg]
    cases p n
    · rw [if_neg (by decide), if_neg (by decide)]; exact ih
    · rw [if_pos rfl, if_pos rfl, ← ih]
      exact pcn_add n 12 _ (by omega) (bs_lt p n)
theorem hrB_t {h : PH} {b : Nat} {g B : Nat → Int32} : hrB h b true g B = B := by
  unfold hrB h2R
  refine fo_inv (st := ofS h b true) (fun _ s => s.2.1 = B) (noOf h b) (fun o s ho q => ?_) _ 0 _ (by omega) rfl
  unfold ofS
  split
  · exact q
  · exact q
def LT : SL := shL 114 CPD ++ WC 114
def LG : SL := [(131, 0, 1), (131, 5, 6), (134, 0, 79)] ++ MW
theorem mo_thinks {h hx : PH} {b : Nat} {g : Nat → Int32} (I : Inv b h) (td : Sn DYN b h hx) (rw' : Rw hx b g) : ∃ h', Sn [(131, 5, 6), (134, 0, 79)] b hx h' ∧ (∀ j, j < 79 → gI h' (b + 134) j = g j) ∧ gI h' (b + 131) 5 = 1 ∧ f_Mo_thinks (b + 131) hx = some h' := by
  obtain ⟨s, cd, c_stat, c_realm, c_book, c_law, c_kin, c_shi, c_roa, c_ord, c_han, c_wei, c_bag, c_pri, c_cnt, c_led, c_yea, c_log, c_rdr, c_msc, c_img⟩ := I
  have K131 : gK h (b + 131) = (0, 9) := s.K 131 (by decide) rfl
  have K132 : gK h (b + 132) = (1, 79) := s.K 132 (by decide) rfl
  have K134 : gK h (b + 134) = (1, 79) := s.K 134 (by decide) rfl
  have R131_1 : gR h (b + 131) 1 = some (b + 132) := s.R 131 1 rfl
  have R131_4 : gR h (b + 131) 4 = some (b + 134) := s.R 131 4 rfl
  have key := lp (fun N (s : PH) k => f_Mo_thinks_2 N (b + 131) (nI k) s) (fun k s => sI s (b + 134) k (g k)) (fun k s => Sn [(131, 5, 6), (134, 0, 79)] b hx s ∧ ∀ j, j < k → gI s (b + 134) j = g j) 79 (fun s => some (sI s (b + 131) 5 1))
    (fun N k s hk q => by
      obtain ⟨q1, q2⟩ := q
      have dx : Sn DYN b h s := td.tr (q1.up (by decide))
      have kk : gK s (b + 131) = (0, 9) ∧ gK s (b + 132) = (1, 79) ∧ gK s (b + 134) = (1, 79) := ⟨by rw [dx.1]; exact K131, by rw [dx.1]; exact K132, by rw [dx.1]; exact K134⟩
      have rr : gR s (b + 131) 1 = some (b + 132) ∧ gR s (b + 131) 4 = some (b + 134) := ⟨by rw [dx.2.1]; exact R131_1, by rw [dx.2.1]; exact R131_4⟩
      have e2 : ¬ 79 ≤ k := by omega
      have rv : gI s (b + 132) k = g k := by rw [q1.2.2.2.2 132 k (by simp [inL])]; exact rw' k hk
      rw [f_Mo_thinks_2]
      simp (disch := omega) only [↓ob_eq, ob_so, ldI, ldR, ldO, stI, stZ, stR, isO, wrA_n, rdA_n, wrA_l, rdA_l, gK_sI, gR_sI, gX_sI, gN_sI, gK_cp, gR_cp, gX_cp, gN_cp, rtZ_0, rtZ_1, if_true, reduceIte, and_self, true_and, and_true, kk, rr, e2, hk, rv, L_len, nI_addL, if_false])
    (fun k s hk q => by
      obtain ⟨q1, q2⟩ := q
      refine ⟨q1.put 134 _ _ (inL_in (lo := 0) (hi := 79) (by decide) (by omega) hk), fun j hj => ?_⟩
      by_cases y : j = k
      · subst y; simp (disch := omega) only [gI_q, gI_n1, gI_n2]
      · simp (disch := omega) only [gI_q, gI_n1, gI_n2]; exact q2 j (by omega))
    (fun N s q => by
      obtain ⟨q1, q2⟩ := q
      have dx : Sn DYN b h s := td.tr (q1.up (by decide))
      have kk : gK s (b + 131) = (0, 9) := by rw [dx.1]; exact K131
      have e1 : (79 : Int32) ≤ nI 79 := by decide
      rw [f_Mo_thinks_2]
      simp [↓ob_eq, ob_so, ldI, ldR, ldO, stI, stZ, stR, isO, wrA_n, rdA_n, wrA_l, rdA_l, gK_sI, gR_sI, gX_sI, gN_sI, gK_cp, gR_cp, gX_cp, gN_cp, rtZ_0, rtZ_1, if_true, reduceIte, and_self, true_and, and_true, kk, e1])
    79 0 hx FU (by omega) ⟨Sn.rf, fun j hj => absurd hj (by omega)⟩ (by rw [FU_eq]; omega)
  obtain ⟨k1, q1, q2⟩ := key
  refine ⟨_, q1.put 131 5 1 (by decide), fun j hj => ?_, by simp (disch := omega) only [gI_q, gI_n1, gI_n2], k1⟩
  rw [gI_n1 (by omega)]; exact q2 j hj
theorem mo_ends {h hx : PH} {b : Nat} {g : Nat → Int32} (I : Inv b h) (td : Sn DYN b h hx) (rw' : ∀ j, j < 79 → gI hx (b + 134) j = g j) : ∃ h', Sn [(131, 5, 6), (132, 0, 79)] b hx h' ∧ Rw h' b g ∧ gI h' (b + 131) 5 = 0 ∧ f_Mo_endsThought (b + 131) hx = some h' := by
  obtain ⟨s, cd, c_stat, c_realm, c_book, c_law, c_kin, c_shi, c_roa, c_ord, c_han, c_wei, c_bag, c_pri, c_cnt, c_led, c_yea, c_log, c_rdr, c_msc, c_img⟩ := I
  have K131 : gK h (b + 131) = (0, 9) := s.K 131 (by decide) rfl
  have K132 : gK h (b + 132) = (1, 79) := s.K 132 (by decide) rfl
  have K134 : gK h (b + 134) = (1, 79) := s.K 134 (by decide) rfl
  have R131_1 : gR h (b + 131) 1 = some (b + 132) := s.R 131 1 rfl
  have R131_4 : gR h (b + 131) 4 = some (b + 134) := s.R 131 4 rfl
  have key := lp (fun N (s : PH) k => f_Mo_endsThought_2 N (b + 131) (nI k) s) (fun k s => sI s (b + 132) k (g k)) (fun k s => Sn [(131, 5, 6), (132, 0, 79)] b hx s ∧ ∀ j, j < k → gI s (b + 132) j = g j) 79 (fun s => some (sI s (b + 131) 5 0))
    (fun N k s hk q => by
      obtain ⟨q1, q2⟩ := q
      have dx : Sn DYN b h s := td.tr (q1.up (by decide))
      have kk : gK s (b + 131) = (0, 9) ∧ gK s (b + 132) = (1, 79) ∧ gK s (b + 134) = (1, 79) := ⟨by rw [dx.1]; exact K131, by rw [dx.1]; exact K132, by rw [dx.1]; exact K134⟩
      have rr : gR s (b + 131) 1 = some (b + 132) ∧ gR s (b + 131) 4 = some (b + 134) := ⟨by rw [dx.2.1]; exact R131_1, by rw [dx.2.1]; exact R131_4⟩
      have e2 : ¬ 79 ≤ k := by omega
      have rv : gI s (b + 134) k = g k := by rw [q1.2.2.2.2 134 k (by simp [inL])]; exact rw' k hk
      rw [f_Mo_endsThought_2]
      simp (disch := omega) only [↓ob_eq, ob_so, ldI, ldR, ldO, stI, stZ, stR, isO, wrA_n, rdA_n, wrA_l, rdA_l, gK_sI, gR_sI, gX_sI, gN_sI, gK_cp, gR_cp, gX_cp, gN_cp, rtZ_0, rtZ_1, if_true, reduceIte, and_self, true_and, and_true, kk, rr, e2, hk, rv, L_len, nI_addL, if_false])
    (fun k s hk q => by
      obtain ⟨q1, q2⟩ := q
      refine ⟨q1.put 132 _ _ (inL_in (lo := 0) (hi := 79) (by decide) (by omega) hk), fun j hj => ?_⟩
      by_cases y : j = k
      · subst y; simp (disch := omega) only [gI_q, gI_n1, gI_n2]
      · simp (disch := omega) only [gI_q, gI_n1, gI_n2]; exact q2 j (by omega))
    (fun N s q => by
      obtain ⟨q1, q2⟩ := q
      have dx : Sn DYN b h s := td.tr (q1.up (by decide))
      have kk : gK s (b + 131) = (0, 9) := by rw [dx.1]; exact K131
      have e1 : (79 : Int32) ≤ nI 79 := by decide
      rw [f_Mo_endsThought_2]
      simp [↓ob_eq, ob_so, ldI, ldR, ldO, stI, stZ, stR, isO, wrA_n, rdA_n, wrA_l, rdA_l, gK_sI, gR_sI, gX_sI, gN_sI, gK_cp, gR_cp, gX_cp, gN_cp, rtZ_0, rtZ_1, if_true, reduceIte, and_self, true_and, and_true, kk, e1])
    79 0 hx FU (by omega) ⟨Sn.rf, fun j hj => absurd hj (by omega)⟩ (by rw [FU_eq]; omega)
  obtain ⟨k1, q1, q2⟩ := key
  refine ⟨_, q1.put 131 5 0 (by decide), fun j hj => ?_, by simp (disch := omega) only [gI_q, gI_n1, gI_n2], k1⟩
  rw [gI_n1 (by omega)]; exact q2 j hj
def gsS (h : PH) (b : Nat) (B : Nat → Int32) (_ : Nat) (g : Nat → Int32) : Nat → Int32 := hrR h b true g B
def gAns (h : PH) (b w : Nat) (g : Nat → Int32) : Int32 := if w = 0 then g 3 else if w = 1 then nI (pcd (oS h b g)) else if w = 2 then g 4 else nI (pcd (bs (ntOf h b) (fun t => g (55 + t) == 1)))
theorem op_goes (b : Nat) : B_goes (Inv b) b (b + 131) := by
  intro h I v v2
  have I0 := I
  obtain ⟨s, cd, c_stat, c_realm, c_book, c_law, c_kin, c_shi, c_roa, c_ord, c_han, c_wei, c_bag, c_pri, c_cnt, c_led, c_yea, c_log, c_rdr, c_msc, c_img⟩ := I
  have K0 : gK h b = (0, 8) := s.K 0 (by decide) rfl
  have K1 : gK h (b + 1) = (0, 1) := s.K 1 (by decide) rfl
  have K2 : gK h (b + 2) = (0, 5) := s.K 2 (by decide) rfl
  have K114 : gK h (b + 114) = (0, 5) := s.K 114 (by decide) rfl
  have K131 : gK h (b + 131) = (0, 9) := s.K 131 (by decide) rfl
  have K132 : gK h (b + 132) = (1, 79) := s.K 132 (by decide) rfl
  have R0_0 : gR h b 0 = some (b + 1) := s.R 0 0 rfl
  have R0_3 : gR h b 3 = some (b + 114) := s.R 0 3 rfl
  have R1_0 : gR h (b + 1) 0 = some (b + 2) := s.R 1 0 rfl
  have R131_1 : gR h (b + 131) 1 = some (b + 132) := s.R 131 1 rfl
  have rl : Rl h h b 2 (gI h (b + 132)) := c_realm.2.2
  have rk : RowOK (ntOf h b) (noOf h b) (gI h (b + 132)) := c_realm.2.1
  have c_realm' := c_realm
  obtain ⟨⟨hnt, hno⟩, _⟩ := c_realm'
  obtain ⟨H, H1, H2⟩ := rk.1
  have rH : RowB H (ntOf h b) (noOf h b) (gI h (b + 132)) := ⟨⟨H, Nat.le_refl _, H2⟩, rk.2⟩
  have e10 : ¬ (1 : Int32) = 0 := by decide
  have k9 : gK (sI h (b + 131) 0 0) (b + 131) = (0, 9) := K131
  by_cases z1 : v < 1
  · have i : ∀ hx, f_Mo_isIn (b + 131) v 1 60 hx = some (0, hx) := fun hx => by unfold f_Mo_isIn; rw [if_pos z1, rtZ_0]
    exact both_ref I0 (r := -1) (by simp only [f_Tc_goes, z1, if_true]) (by simp only [f_Mo_goes, ↓ob_eq, ob_so, ldI, ldR, ldO, stI, stZ, stR, isO, wrA_n, rdA_n, wrA_l, rdA_l, gK_sI, gR_sI, gX_sI, gN_sI, gK_cp, gR_cp, gX_cp, gN_cp, rtZ_0, rtZ_1, if_true, reduceIte, and_self, true_and, and_true, K131, i])
  by_cases z2 : (60 : Int32) < v
  · have i : ∀ hx, f_Mo_isIn (b + 131) v 1 60 hx = some (0, hx) := fun hx => by unfold f_Mo_isIn; rw [if_neg z1, if_pos z2, rtZ_0]
    exact both_ref I0 (r := -1) (by simp only [f_Tc_goes, z1, z2, if_true, if_false]) (by simp only [f_Mo_goes, ↓ob_eq, ob_so, ldI, ldR, ldO, stI, stZ, stR, isO, wrA_n, rdA_n, wrA_l, rdA_l, gK_sI, gR_sI, gX_sI, gN_sI, gK_cp, gR_cp, gX_cp, gN_cp, rtZ_0, rtZ_1, if_true, reduceIte, and_self, true_and, and_true, K131, i])
  have ii : ∀ hx, f_Mo_isIn (b + 131) v 1 60 hx = some (1, hx) := fun hx => by unfold f_Mo_isIn; rw [if_neg z1, if_neg z2, rtZ_1]
  rcases in_cases v2 3 3 rfl (by omega) with ⟨w, hw, rfl, u2, i2⟩ | ⟨u2, i2⟩
  case inr => exact both_ref I0 (r := -1) (by simp only [f_Tc_goes, z1, z2, u2, ↓ob_eq, ob_so, ldI, ldR, ldO, stI, stZ, stR, isO, wrA_n, rdA_n, wrA_l, rdA_l, gK_sI, gR_sI, gX_sI, gN_sI, gK_cp, gR_cp, gX_cp, gN_cp, rtZ_0, rtZ_1, if_true, reduceIte, and_self, true_and, and_true, if_false]) (by simp only [f_Mo_goes, ↓ob_eq, ob_so, ldI, ldR, ldO, stI, stZ, stR, isO, wrA_n, rdA_n, wrA_l, rdA_l, gK_sI, gR_sI, gX_sI, gN_sI, gK_cp, gR_cp, gX_cp, gN_cp, rtZ_0, rtZ_1, if_true, reduceIte, and_self, true_and, and_true, K131, k9, ii, i2, e10, if_false])
  have h0 : ¬ v < 0 := fun z => z1 (by
    rw [fa_lt] at z ⊢
    have e0 : (0 : Int32).toInt = 0 := rfl
    have e1 : (1 : Int32).toInt = 1 := rfl
    omega)
  obtain ⟨k, hk, rfl⟩ := nI_of h0
  have k60 : ¬ 60 < k := fun z => z2 ((L_ltn (n := 60) (by omega) (by decide)).mpr z)
  have ws : w = 0 ∨ w = 1 ∨ w = 2 ∨ w = 3 := by omega
  obtain ⟨ha, ea, ca⟩ := copyFrom (hh := h) (b := b) (d := 114) (r := 2) (by omega) (RS_of s).2 (RS_of s).1
  have ta := ca.sn
  have rla : Rl h ha b 114 (gI h (b + 132)) := Cp.rl I0 rl ca
  have bka : Bk ha (b + 12) (gI h (b + 139)) := fun j hj => by
    rw [ta.I (disj_ok (M := U_book) (by decide) (inL_in (lo := 0) (hi := 600) (by decide) (by omega) hj))]
    exact c_book j hj
  -- the class
  obtain ⟨h1, ⟨t1, rl1, rb1, bk1⟩, e1⟩ := lpe (fun N i hx (_ : Nat → Int32) => f_Tc_goes_37 N b (nI k) (nI w) (nI i) hx) (gsS h b (gI h (b + 139))) (fun i g hx => Sn LT b h hx ∧ Rl h hx b 114 g ∧ RowB (H + i) (ntOf h b) (noOf h b) g ∧ Bk hx (b + 12) (gI h (b + 139))) k (fun g hx => some (gAns h b w g, hx))
    (fun N i hx g hi q => by
      obtain ⟨q1, q2, q3, q4⟩ := q
      have dx : Sn DYN b h hx := q1.up (by decide)
      obtain ⟨hz, tz, rlz, rbz, bkz, ez⟩ := cl_hour (th := true) I0 dx (Or.inr rfl) q2 q3 q4
      have ez : f_Land_passHour (b + 1) (b + 114) 1 hx = some hz := ez
      rw [hrB_t] at bkz
      have e2 : ¬ k ≤ i := by omega
      have kk : gK hx b = (0, 8) ∧ gK hx (b + 1) = (0, 1) := ⟨by rw [dx.1]; exact K0, by rw [dx.1]; exact K1⟩
      have rr : gR hx b 0 = some (b + 1) ∧ gR hx b 3 = some (b + 114) := ⟨by rw [dx.2.1]; exact R0_0, by rw [dx.2.1]; exact R0_3⟩
      refine ⟨hz, ⟨q1.tr (tz.up (by decide)), rlz, rbz, bkz⟩, ?_⟩
      rw [f_Tc_goes_37]
      simp (disch := omega) only [↓ob_eq, ob_so, ldI, ldR, ldO, stI, stZ, stR, isO, wrA_n, rdA_n, wrA_l, rdA_l, gK_sI, gR_sI, gX_sI, gN_sI, gK_cp, gR_cp, gX_cp, gN_cp, rtZ_0, rtZ_1, if_true, reduceIte, and_self, true_and, and_true, kk, rr, e2, ez, nI_le', nI_addL, if_false])
    (fun N hx g q => by
      obtain ⟨q1, q2, q3, q4⟩ := q
      have dx : Sn DYN b h hx := q1.up (by decide)
      have kk : gK hx b = (0, 8) ∧ gK hx (b + 114) = (0, 5) := ⟨by rw [dx.1]; exact K0, by rw [dx.1]; exact K114⟩
      have rr : gR hx b 3 = some (b + 114) := by rw [dx.2.1]; exact R0_3
      have f15 : gI hx (b + 114) 15 = g 3 := q2.2.2.2.1
      have f16 : gI hx (b + 114) 16 = g 4 := q2.2.2.2.2.1
      have f7 : gI hx (b + 114) 7 = nI (oS h b g) := q2.2.2.2.2.2.2.2.2.2.1
      have f8 : gI hx (b + 114) 8 = nI (bs (ntOf h b) (fun t => g (55 + t) == 1)) := q2.2.2.2.2.2.2.2.2.2.2.1
      have b7 := bitd (n := oS h b g) (bs4096 _ hnt) hx
      have b8 := bitd (n := bs (ntOf h b) (fun t => g (55 + t) == 1)) (bs4096 _ hnt) hx
      rw [f_Tc_goes_37]
      unfold gAns
      rcases ws with rfl | rfl | rfl | rfl
      · have z : (nI 0 = 0) = True := eq_true nI_0
        simp (disch := omega) only [↓ob_eq, ob_so, ldI, ldR, ldO, stI, stZ, stR, isO, wrA_n, rdA_n, wrA_l, rdA_l, gK_sI, gR_sI, gX_sI, gN_sI, gK_cp, gR_cp, gX_cp, gN_cp, rtZ_0, rtZ_1, if_true, reduceIte, and_self, true_and, and_true, kk, rr, f15, z, nI_le', Nat.le_refl]
      · have z0 : ¬ nI 1 = 0 := by decide
        have z : (nI 1 = 1) = True := eq_true rfl
        have y0 : ¬ (1 : Nat) = 0 := by decide
        simp (disch := omega) only [↓ob_eq, ob_so, ldI, ldR, ldO, stI, stZ, stR, isO, wrA_n, rdA_n, wrA_l, rdA_l, gK_sI, gR_sI, gX_sI, gN_sI, gK_cp, gR_cp, gX_cp, gN_cp, rtZ_0, rtZ_1, if_true, reduceIte, and_self, true_and, and_true, kk, rr, f7, b7, z0, z, y0, nI_le', Nat.le_refl, if_false]
      · have z0 : ¬ nI 2 = 0 := by decide
        have z1 : ¬ nI 2 = 1 := by decide
        have z : (nI 2 = 2) = True := eq_true rfl
        have y0 : ¬ (2 : Nat) = 0 := by decide
        have y1 : ¬ (2 : Nat) = 1 := by decide
        simp (disch := omega) only [↓ob_eq, ob_so, ldI, ldR, ldO, stI, stZ, stR, isO, wrA_n, rdA_n, wrA_l, rdA_l, gK_sI, gR_sI, gX_sI, gN_sI, gK_cp, gR_cp, gX_cp, gN_cp, rtZ_0, rtZ_1, if_true, reduceIte, and_self, true_and, and_true, kk, rr, f16, z0, z1, z, y0, y1, nI_le', Nat.le_refl, if_false]
      · have z0 : ¬ nI 3 = 0 := by decide
        have z1 : ¬ nI 3 = 1 := by decide
        have z2 : ¬ nI 3 = 2 := by decide
        have y0 : ¬ (3 : Nat) = 0 := by decide
        have y1 : ¬ (3 : Nat) = 1 := by decide
        have y2 : ¬ (3 : Nat) = 2 := by decide
        simp (disch := omega) only [↓ob_eq, ob_so, ldI, ldR, ldO, stI, stZ, stR, isO, wrA_n, rdA_n, wrA_l, rdA_l, gK_sI, gR_sI, gX_sI, gN_sI, gK_cp, gR_cp, gX_cp, gN_cp, rtZ_0, rtZ_1, if_true, reduceIte, and_self, true_and, and_true, kk, rr, f8, b8, z0, z1, z2, y0, y1, y2, nI_le', Nat.le_refl, if_false])
    k 0 ha (gI h (b + 132)) FU (by omega) ⟨ta.up (by decide), rla, rH, bka⟩ (by rw [FU_eq]; omega)
  rw [nI_0] at e1
  have d1 : Sn DYN b h h1 := t1.up (by decide)
  -- the reference
  have d2 : Sn DYN b h (sI h1 (b + 131) 0 0) := d1.put 131 0 0 (by decide)
  have tB : Sn LG b h1 (sI h1 (b + 131) 0 0) := Sn.rf.put 131 0 0 (by decide)
  have rw2 : Rw (sI h1 (b + 131) 0 0) b (gI h (b + 132)) := fun j hj => by
    rw [gI_n1 (by omega), t1.I (disj_ok (M := [(132, 0, 79)]) (by decide) (inL_in (lo := 0) (hi := 79) (by decide) (by omega) hj))]
  have bk2 : Bk (sI h1 (b + 131) 0 0) (b + 139) (gI h (b + 139)) := fun j hj => by
    rw [gI_n1 (by omega), t1.I (disj_ok (M := [(139, 0, 600)]) (by decide) (inL_in (lo := 0) (hi := 600) (by decide) (by omega) hj))]
  obtain ⟨h3, t3, wt3, fl3, e3⟩ := mo_thinks I0 d2 rw2
  have d3 : Sn DYN b h h3 := d2.tr (t3.up (by decide))
  have rw3 : Rw h3 b (gI h (b + 132)) := rw2.sn t3 (by decide)
  have bk3 : Bk h3 (b + 139) (gI h (b + 139)) := bk2.sn t3 (by decide)
  obtain ⟨h4, ⟨t4, rw4, rb4, bk4⟩, e4⟩ := lpe (fun N i hx (_ : Nat → Int32) => f_Mo_goes_34 N (b + 131) (nI k) (nI w) (nI i) hx) (gsS h b (gI h (b + 139))) (fun i g hx => Sn MW b h3 hx ∧ Rw hx b g ∧ RowB (H + i) (ntOf h b) (noOf h b) g ∧ Bk hx (b + 139) (gI h (b + 139))) k (fun _ hx => f_Mo_goes_55 FU (b + 131) (nI w) 0 0 hx)
    (fun N i hx g hi q => by
      obtain ⟨q1, q2, q3, q4⟩ := q
      have dx : Sn DYN b h hx := d3.tr (q1.up (by decide))
      have flx : gI hx (b + 131) 5 = if (true : Bool) then 1 else 0 := by rw [q1.I (by decide)]; exact fl3
      obtain ⟨hz, tz, rwz, bkz, ez⟩ := mo_hour (th := true) I0 dx q2 q3 q4 flx
      rw [hrB_t] at bkz
      obtain ⟨_, _, _, rbz, _⟩ := cl_hour_rb (th := true) (B := gI h (b + 139)) I0 q3
      have e2 : ¬ k ≤ i := by omega
      have kk : gK hx (b + 131) = (0, 9) := by rw [dx.1]; exact K131
      refine ⟨hz, ⟨q1.tr tz, rwz, rbz, bkz⟩, ?_⟩
      rw [f_Mo_goes_34]
      simp (disch := omega) only [↓ob_eq, ob_so, ldI, ldR, ldO, stI, stZ, stR, isO, wrA_n, rdA_n, wrA_l, rdA_l, gK_sI, gR_sI, gX_sI, gN_sI, gK_cp, gR_cp, gX_cp, gN_cp, rtZ_0, rtZ_1, if_true, reduceIte, and_self, true_and, and_true, kk, e2, ez, nI_le', nI_addL, if_false])
    (fun N hx g q => by
      rw [f_Mo_goes_34, if_pos ((nI_le' (by omega) (by omega)).mpr (Nat.le_refl _))])
    k 0 h3 (gI h (b + 132)) FU (by omega) ⟨Sn.rf, rw3, rH, bk3⟩ (by rw [FU_eq]; omega)
  rw [nI_0] at e4
  have d4 : Sn DYN b h h4 := d3.tr (t4.up (by decide))
  obtain ⟨gE, hgE⟩ : ∃ gE, gE = fo (gsS h b (gI h (b + 139))) 0 k (gI h (b + 132)) := ⟨_, rfl⟩
  rw [← hgE] at rw4 rb4 e1 rl1 rb1
  have wt4 : ∀ j, j < 79 → gI h4 (b + 134) j = gI h (b + 132) j := fun j hj => by
    rw [t4.I (disj_ok (M := [(134, 0, 79)]) (by decide) (inL_in (lo := 0) (hi := 79) (by decide) (by omega) hj))]
    exact wt3 j hj
  obtain ⟨h5, t5, rw5, fl5, e5⟩ := mo_ends I0 d4 wt4
  have d5 : Sn DYN b h h5 := d4.tr (t5.up (by decide))
  have fin55 : f_Mo_goes_55 FU (b + 131) (nI w) 0 0 h4 = some (gAns h b w gE, h5) := by
    have kk : gK h4 (b + 131) = (0, 9) ∧ gK h4 (b + 132) = (1, 79) := ⟨by rw [d4.1]; exact K131, by rw [d4.1]; exact K132⟩
    have p1 : gR h4 (b + 131) 1 = some (b + 132) := by rw [d4.2.1]; exact R131_1
    have n6 : gI h4 (b + 131) 6 = nI (ntOf h b) := by rw [d4.I (by decide)]; exact c_stat.1
    obtain ⟨c1, c2⟩ := mo_count I0 d4 rw4
    have r3 : rdA h4 (b + 132) 3 = some (gE 3) := rd_at (k := 3) kk.2 (by decide) (by decide) (rw4 3 (by omega))
    have r4 : rdA h4 (b + 132) 4 = some (gE 4) := rd_at (k := 4) kk.2 (by decide) (by decide) (rw4 4 (by omega))
    have key := lp0 (fun N (m : Nat) t => f_Mo_goes_55 N (b + 131) (nI w) (nI m) (nI t) h4) (fun t m => if (gE (55 + t) == 1) then m + 1 else m) (ntOf h b) (fun m => f_Mo_goes_55 1 (b + 131) (nI w) (nI m) (nI (ntOf h b)) h4) 0 FU (by rw [FU_eq]; omega)
      (fun N t m ht => by
        have e2 : ¬ ntOf h b ≤ t := by omega
        have a55 : 55 + t < 79 := by omega
        have g55 : gI h4 (b + 132) (55 + t) = gE (55 + t) := rw4 _ a55
        rw [f_Mo_goes_55]
        rcases (rb4.2.2.2.1 t ht).2.2.2.2 with y | y
        · rw [y] at g55 ⊢
          have z : ((0 : Int32) == 1) = false := rfl
          have zz : (if (false : Bool) = true then m + 1 else m) = m := rfl
          rw [z, zz]
          simp (disch := omega) only [↓ob_eq, ob_so, ldI, ldR, ldO, stI, stZ, stR, isO, wrA_n, rdA_n, wrA_l, rdA_l, gK_sI, gR_sI, gX_sI, gN_sI, gK_cp, gR_cp, gX_cp, gN_cp, rtZ_0, rtZ_1, if_true, reduceIte, and_self, true_and, and_true, kk, p1, n6, e2, a55, g55, L_addn, nI_le', nI_addL, Int32.add_zero, if_false]
        · rw [y] at g55 ⊢
          have z : ((1 : Int32) == 1) = true := rfl
          have zz : (if (true : Bool) = true then m + 1 else m) = m + 1 := rfl
          rw [z, zz]
          simp (disch := omega) only [↓ob_eq, ob_so, ldI, ldR, ldO, stI, stZ, stR, isO, wrA_n, rdA_n, wrA_l, rdA_l, gK_sI, gR_sI, gX_sI, gN_sI, gK_cp, gR_cp, gX_cp, gN_cp, rtZ_0, rtZ_1, if_true, reduceIte, and_self, true_and, and_true, kk, p1, n6, e2, a55, g55, L_addn, nI_le', nI_addL, if_false])
      (fun N m => by
        show f_Mo_goes_55 (N + 1) (b + 131) (nI w) (nI m) (nI (ntOf h b)) h4 = f_Mo_goes_55 (0 + 1) (b + 131) (nI w) (nI m) (nI (ntOf h b)) h4
        rw [f_Mo_goes_55, f_Mo_goes_55]
        simp (disch := omega) only [ldI, ↓ob_eq, ob_so, kk, n6, nI_le', Nat.le_refl, if_true])
    have sm : fo (fun t m => if (gE (55 + t) == 1) then m + 1 else m) 0 (ntOf h b) 0 = pcd (bs (ntOf h b) (fun t => gE (55 + t) == 1)) := by
      rw [pcd_bs _ _ hnt]
      have := fo_sg (s := fun t => gE (55 + t) == 1) (X := fun _ => 1) (ntOf h b) 0
      rw [Nat.zero_add] at this
      exact this
    rw [sm, nI_0] at key
    refine key.trans ?_
    show f_Mo_goes_55 (0 + 1) (b + 131) (nI w) (nI (pcd (bs (ntOf h b) (fun t => gE (55 + t) == 1)))) (nI (ntOf h b)) h4 = some (gAns h b w gE, h5)
    rw [f_Mo_goes_55]
    unfold gAns
    rcases ws with rfl | rfl | rfl | rfl
    · have z : (nI 0 = 0) = True := eq_true nI_0
      simp (disch := omega) only [f_Mo_goes_127, r3, e5, ldI, ldR, isO, ↓ob_eq, ob_so, reduceIte, kk, p1, n6, z, nI_le', Nat.le_refl, if_true]
    · have z0 : ¬ nI 1 = 0 := by decide
      have z : (nI 1 = 1) = True := eq_true rfl
      have y0 : ¬ (1 : Nat) = 0 := by decide
      simp (disch := omega) only [f_Mo_goes_127, c1, c2, e5, ldI, ldR, isO, ↓ob_eq, ob_so, reduceIte, kk, p1, n6, z0, z, y0, nI_le', Nat.le_refl, if_true, if_false]
    · have z0 : ¬ nI 2 = 0 := by decide
      have z1 : ¬ nI 2 = 1 := by decide
      have z : (nI 2 = 2) = True := eq_true rfl
      have y0 : ¬ (2 : Nat) = 0 := by decide
      have y1 : ¬ (2 : Nat) = 1 := by decide
      simp (disch := omega) only [f_Mo_goes_127, r4, e5, ldI, ldR, isO, ↓ob_eq, ob_so, reduceIte, kk, p1, n6, z0, z1, z, y0, y1, nI_le', Nat.le_refl, if_true, if_false]
    · have z0 : ¬ nI 3 = 0 := by decide
      have z1 : ¬ nI 3 = 1 := by decide
      have z2 : ¬ nI 3 = 2 := by decide
      have y0 : ¬ (3 : Nat) = 0 := by decide
      have y1 : ¬ (3 : Nat) = 1 := by decide
      have y2 : ¬ (3 : Nat) = 2 := by decide
      simp (disch := omega) only [f_Mo_goes_127, e5, ldI, ldR, isO, ↓ob_eq, ob_so, reduceIte, kk, p1, n6, z0, z1, z2, y0, y1, y2, nI_le', Nat.le_refl, if_true, if_false]
  have tC : Sn LG b h1 h5 := (((tB.tr (t3.up (by decide))).tr (t4.up (by decide))).tr (t5.up (by decide)))
  have t := t1.app tC
  have n_realm := C_realm.mk' I0 d5 (rl.sn I0 t (by decide)) rw5 rk
  have n_book : C_book h5 b := fun j hj => by
    rw [bk1.sn tC (by decide) j hj, (bk4.sn t5 (by decide)) j hj]
  have n_msc : C_msc h5 b := ⟨fl5, by rw [t.I (o := 105) (by decide), t.I (o := 110) (by decide)]; exact c_msc.2.1, fun j hj => by
    rw [t.I (disj_ok (M := [(141, 0, 144)]) (by decide) (inL_in (lo := 0) (hi := 144) (by decide) (by omega) hj))]
    exact c_msc.2.2 j hj⟩
  refine both_mk (r := gAns h b w gE) ?_ t1 ?_ tC ⟨s.sn t, cd.cg t, c_stat.cg t (by decide), n_realm, n_book, c_law.cg t (by decide), c_kin.cg t (by decide), c_shi.cg t (by decide), c_roa.cg t (by decide), c_ord.cg t (by decide), c_han.cg t (by decide), c_wei.cg t (by decide), c_bag.cg t (by decide), c_pri.cg t (by decide), c_cnt.cg t (by decide), c_led.cg t (by decide), c_yea.cg t (by decide), c_log.cg t (by decide), c_rdr.cg t (by decide), n_msc, c_img.cg t (by decide)⟩
  · simp only [f_Tc_goes, z1, z2, u2, ↓ob_eq, ob_so, ldI, ldR, ldO, stI, stZ, stR, isO, wrA_n, rdA_n, wrA_l, rdA_l, gK_sI, gR_sI, gX_sI, gN_sI, gK_cp, gR_cp, gX_cp, gN_cp, rtZ_0, rtZ_1, if_true, reduceIte, and_self, true_and, and_true, K0, K1, K114, R0_0, R0_3, R1_0, ea, e1, e10, if_false]
  · have k2 : gK h1 (b + 131) = (0, 9) := by rw [d1.1]; exact K131
    have k3 : gK (sI h1 (b + 131) 0 0) (b + 131) = (0, 9) := by rw [d2.1]; exact K131
    have main : f_Mo_goes (b + 131) (nI k) (nI w) h1 = f_Mo_goes_34 FU (b + 131) (nI k) (nI w) 0 h3 := by
      simp only [f_Mo_goes, ↓ob_eq, ob_so, ldI, ldR, ldO, stI, stZ, stR, isO, wrA_n, rdA_n, wrA_l, rdA_l, gK_sI, gR_sI, gX_sI, gN_sI, gK_cp, gR_cp, gX_cp, gN_cp, rtZ_0, rtZ_1, if_true, reduceIte, and_self, true_and, and_true, k2, k3, ii, i2, e3, e10, if_false]
    exact main.trans (e4.trans fin55)
