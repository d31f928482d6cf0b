theorem mo_lesserN {a : Nat} {h : PH} {x y : Nat} (h1 : x < 2147483648) (h2 : y < 2147483648) : f_Mo_lesser a (nI x) (nI y) h = some (nI (Nat.min x y), h) := by
  rw [iI_nat, iI_nat, mo_lesser (by omega) (by omega) (by omega) (by omega)]
  have : (min (x : Int) (y : Int)) = ((Nat.min x y : Nat) : Int) := by
    have e : Nat.min x y = min x y := rfl
    rw [e]
    omega
  rw [this]
  rfl
theorem mo_greaterN {a : Nat} {h : PH} {x y : Nat} (h1 : x < 2147483648) (h2 : y < 2147483648) : f_Mo_greater a (nI x) (nI y) h = some (nI (Nat.max x y), h) := by
  rw [iI_nat, iI_nat, mo_greater (by omega) (by omega) (by omega) (by omega)]
  have : (max (x : Int) (y : Int)) = ((Nat.max x y : Nat) : Int) := by
    have e : Nat.max x y = max x y := rfl
    rw [e]
    omega
  rw [this]
  rfl
theorem wcl_bd {c a v : Nat} (hv : v ≤ 40) : wcl c a v ≤ a + 140 := by
  unfold wcl
  split <;> omega
theorem dk_withOne {h : PH} {a v c : Nat} (ha : a ≤ 40000) (hv : v ≤ 40) (hc : c ≤ 99) : f_Desk_withOne (nI a) (nI v) (nI c) h = some (nI (wcl c a v), h) := by
  have e10 : ¬ (1 : Int32) = 0 := by decide
  unfold wcl
  by_cases q : a % 100 + v ≤ c
  · have q' : ¬ c < a % 100 + v := by omega
    simp (disch := omega) [f_Desk_withOne, f_Desk_withOne_15, ↓ob_eq, ob_so, ldI, ldR, ldO, stI, stZ, stR, isO, wrA_n, rdA_n, wrA_l, rdA_l, gK_sI, gR_sI, gX_sI, gN_sI, gK_cp, gR_cp, gX_cp, gN_cp, rtZ_0, rtZ_1, if_true, reduceIte, and_self, true_and, and_true, rm100, dv100, nI_add, nI_lt', q, q', e10]
  · have q' : c < a % 100 + v := by omega
    simp (disch := omega) [f_Desk_withOne, f_Desk_withOne_15, ↓ob_eq, ob_so, ldI, ldR, ldO, stI, stZ, stR, isO, wrA_n, rdA_n, wrA_l, rdA_l, gK_sI, gR_sI, gX_sI, gN_sI, gK_cp, gR_cp, gX_cp, gN_cp, rtZ_0, rtZ_1, if_true, reduceIte, and_self, true_and, and_true, rm100, dv100, nI_add, nI_addL, nI_mulL, nI_lt', q, q']
theorem mo_withWeight {h : PH} {o a v c : Nat} (ha : a ≤ 40000) (hv : v ≤ 40) (hc : c ≤ 99) : f_Mo_withWeight o (nI a) (nI v) (nI c) h = some (nI (wrf c a v), h) := by
  unfold wrf
  by_cases q : a / 100 = 0
  · have q1 : ¬ (0 < a / 100 ∧ a % 100 + v ≤ c) := by omega
    have z : nI (a / 100) ≤ 0 := by rw [q]; decide
    simp (disch := omega) only [f_Mo_withWeight, f_Mo_withWeight_38, ↓ob_eq, ob_so, ldI, ldR, ldO, stI, stZ, stR, isO, wrA_n, rdA_n, wrA_l, rdA_l, gK_sI, gR_sI, gX_sI, gN_sI, gK_cp, gR_cp, gX_cp, gN_cp, rtZ_0, rtZ_1, if_true, reduceIte, and_self, true_and, and_true, rm100, dv100, z, nI_add, nI_addL, L_muln, q1, if_false]
  · have z : ¬ nI (a / 100) ≤ 0 := fun e => by
      have this : a / 100 ≤ 0 := (nI_leL (n := 0) (by omega) (by decide)).mp e
      omega
    by_cases q2 : a % 100 + v ≤ c
    · have q' : ¬ c < a % 100 + v := by omega
      have q1 : (0 < a / 100 ∧ a % 100 + v ≤ c) := by omega
      simp (disch := omega) only [f_Mo_withWeight, f_Mo_withWeight_38, ↓ob_eq, ob_so, ldI, ldR, ldO, stI, stZ, stR, isO, wrA_n, rdA_n, wrA_l, rdA_l, gK_sI, gR_sI, gX_sI, gN_sI, gK_cp, gR_cp, gX_cp, gN_cp, rtZ_0, rtZ_1, if_true, reduceIte, and_self, true_and, and_true, rm100, dv100, z, nI_lt', nI_add, nI_addL, L_muln, q1, q', if_false, if_true]
    · have q' : c < a % 100 + v := by omega
      have q1 : ¬ (0 < a / 100 ∧ a % 100 + v ≤ c) := by omega
      simp (disch := omega) only [f_Mo_withWeight, f_Mo_withWeight_38, ↓ob_eq, ob_so, ldI, ldR, ldO, stI, stZ, stR, isO, wrA_n, rdA_n, wrA_l, rdA_l, gK_sI, gR_sI, gX_sI, gN_sI, gK_cp, gR_cp, gX_cp, gN_cp, rtZ_0, rtZ_1, if_true, reduceIte, and_self, true_and, and_true, rm100, dv100, z, nI_lt', nI_add, nI_addL, L_muln, q1, q', if_false, if_true]
theorem fo_sg {s : Nat → Bool} {X : Nat → Nat} : ∀ n a, fo (fun k a => if s k then a + X k else a) 0 n a = a + sg s X n
  | 0, a => rfl
  | n + 1, a => by
    rw [fo_succ, fo_sg n a, sg, Nat.zero_add]
    split <;> omega
theorem op_crates (b : Nat) : B_crates (Inv b) b (b + 131) := by
  intro h I v v2
  have I0 := I
  obtain ⟨s, cd, c_stat, c_realm, c_book, c_law, c_kin, c_shi, c_roa, c_ord, c_han, c_wei, c_bag, c_pri, c_cnt, c_led, c_yea, c_log, c_rdr, c_msc, c_img⟩ := I
  have K0 : gK h b = (0, 8) := s.K 0 (by decide) rfl
  have K1 : gK h (b + 1) = (0, 1) := s.K 1 (by decide) rfl
  have K25 : gK h (b + 25) = (0, 7) := s.K 25 (by decide) rfl
  have K30 : gK h (b + 30) = (0, 6) := s.K 30 (by decide) rfl
  have K31 : gK h (b + 31) = (1, 8) := s.K 31 (by decide) rfl
  have K124 : gK h (b + 124) = (0, 0) := s.K 124 (by decide) rfl
  have K126 : gK h (b + 126) = (1, 256) := s.K 126 (by decide) rfl
  have K131 : gK h (b + 131) = (0, 9) := s.K 131 (by decide) rfl
  have K161 : gK h (b + 161) = (1, 8) := s.K 161 (by decide) rfl
  have K162 : gK h (b + 162) = (1, 256) := s.K 162 (by decide) rfl
  have R0_0 : gR h b 0 = some (b + 1) := s.R 0 0 rfl
  have R0_4 : gR h b 4 = some (b + 124) := s.R 0 4 rfl
  have R1_6 : gR h (b + 1) 6 = some (b + 25) := s.R 1 6 rfl
  have R25_2 : gR h (b + 25) 2 = some (b + 30) := s.R 25 2 rfl
  have R30_1 : gR h (b + 30) 1 = some (b + 31) := s.R 30 1 rfl
  have R124_1 : gR h (b + 124) 1 = some (b + 126) := s.R 124 1 rfl
  have R131_53 : gR h (b + 131) 53 = some (b + 161) := s.R 131 53 rfl
  have R131_54 : gR h (b + 131) 54 = some (b + 162) := s.R 131 54 rfl
  obtain ⟨n, hn, ⟨W, N2⟩, MM, LL⟩ := c_wei
  obtain ⟨X, hXd⟩ : ∃ X : Nat → Nat, ∀ l, X l = (gI h (b + 31) l).toNatClampNeg := ⟨_, fun l => rfl⟩
  have p256 : 2 ^ n ≤ 256 := by
    have : 2 ^ n ≤ 2 ^ 8 := Nat.pow_le_pow_right (by decide) hn
    omega
  have p1 : 1 ≤ 2 ^ n := Nat.one_le_two_pow
  have D : ∀ l, l < n → (1 ≤ X l ∧ X l ≤ 40) ∧ gI h (b + 31) l = nI (X l) ∧ gI h (b + 161) l = nI (X l) := fun l hl => by
    obtain ⟨x, a1, a2, a3, a4⟩ := LL l hl
    rw [hXd, a3, a4, tn_nI (by omega)]
    exact ⟨⟨a1, a2⟩, rfl, rfl⟩
  have hX : ∀ k, k < n → 1 ≤ X k ∧ X k ≤ 40 := fun k hk => (D k hk).1
  have gw : ∀ hh, Sn [(126, 0, 256)] b h hh → ∀ l, l < n → f_Row_get (b + 30) (nI l) 0 hh = some (nI (X l), hh) := fun hh t l hl => by
    have := row_get (w := 1) (l := l) (i := 0) (h := hh) (by rw [t.1]; exact K30) (by rw [t.2.1]; exact R30_1) (by rw [t.1]; exact K31) (by rw [t.I (by decide)]; exact W) (by rw [t.I (by decide)]; exact N2) hl (by omega) (by omega) (by omega) (by omega)
    rw [Nat.mul_one] at this
    have this : f_Row_get (b + 30) (nI l) 0 hh = some (gI hh (b + 31) l, hh) := this
    rw [t.2.2.2.2 31 l (by simp [inL]), (D l hl).2.1] at this
    exact this
  have sh : jshl 1 (nI n) = nI (2 ^ n) := jshl1 n (by omega)
  have shm : nI (2 ^ n) - 1 = nI (2 ^ n - 1) := pk_sub (a := 2 ^ n) (b := 1) (by omega)
  obtain ⟨g, hg⟩ : ∃ g, g = sI h (b + 131) 0 0 := ⟨_, rfl⟩
  have tg0 : Sn [(131, 0, 1), (162, 0, 256)] b h g := by rw [hg]; exact Sn.rf.put 131 0 0 (by decide)
  by_cases hc0 : v < 1
  · refine both_ref I0 (r := -1) (by simp [f_Tc_crates, hc0]) ?_
    have e : ∀ h, f_Mo_isIn (b + 131) v 1 99 h = some (0, h) := fun h => by unfold f_Mo_isIn; rw [if_pos hc0, rtZ_0]
    simp [f_Mo_crates, e, ↓ob_eq, ob_so, ldI, ldR, ldO, stI, stZ, stR, isO, wrA_n, rdA_n, wrA_l, rdA_l, gK_sI, gR_sI, gX_sI, gN_sI, gK_cp, gR_cp, gX_cp, gN_cp, rtZ_0, rtZ_1, if_true, reduceIte, and_self, true_and, and_true, K131]
  by_cases hc1 : v ≤ 99
  · obtain ⟨c, hc, hv, c1⟩ : ∃ c : Nat, c ≤ 99 ∧ v = nI c ∧ 1 ≤ c := by
      have h0 : ¬ v < 0 := fun z => hc0 (by
        rw [fa_lt] at z ⊢
        have e0 : (0 : Int32).toInt = 0 := rfl
        have e1 : (1 : Int32).toInt = 1 := rfl
        omega)
      obtain ⟨c, h2, rfl⟩ := nI_of h0
      have h99 := (nI_leL (n := 99) (by omega) (by decide)).mp hc1
      have h1 : ¬ c < 1 := fun z => hc0 ((nI_ltL (n := 1) (by omega) (by decide)).mpr z)
      exact ⟨c, h99, rfl, by omega⟩
    subst hv
    have ii : ∀ h, f_Mo_isIn (b + 131) (nI c) 1 99 h = some (1, h) := fun h => by
      unfold f_Mo_isIn
      have : ¬ (99 : Int32) < nI c := fun z => by
        have := (L_ltn (n := 99) (m := c) (by omega) (by decide)).mp z
        have this : 99 < c := this
        omega
      rw [if_neg hc0, if_neg this, rtZ_1]
    rcases in_cases v2 1 1 rfl (by omega) with ⟨k, hk, rfl, u, i⟩ | ⟨u, i⟩
    · by_cases k0 : k = 0
      · subst k0
        have z0 : (nI 0 = 0) = True := eq_true nI_0
        by_cases al : ∀ l, l < n → X l ≤ c
        · -- the class
          have c78 : ∀ (k50 : Nat → Nat → Int32 → Int32 → Int32 → PH → Option (Int32 × PH)) t (hh : PH), 1 ≤ t → t < 2 ^ n → Sn [(126, 0, 256)] b h hh → Vec hh (b + 126) t (dpg (wcl c) X n 1000000 c t) → f_Desk_fewestCrates_78 k50 FU (b + 124) (b + 30) (nI c) (nI (2 ^ n - 1)) (nI t) 0 (sI hh (b + 126) t (nI 1000000)) = k50 (b + 124) (b + 30) (nI c) (nI (2 ^ n - 1)) (nI (t + 1)) (sI hh (b + 126) t (nI (dpv (wcl c) X n 1000000 (dpg (wcl c) X n 1000000 c t) t))) := by
            intro k50 t hh t1 t2 t0 tv
            have t256 : t < 256 := by omega
            have ts : ∀ a, Sn [(126, 0, 256)] b h (sI hh (b + 126) t (nI a)) := fun a => t0.put 126 _ _ (inL_in (lo := 0) (hi := 256) (by decide) (by omega) (by omega))
            have kk : gK hh (b + 124) = (0, 0) ∧ gK hh (b + 126) = (1, 256) ∧ gK hh (b + 30) = (0, 6) := ⟨by rw [t0.1]; exact K124, by rw [t0.1]; exact K126, by rw [t0.1]; exact K30⟩
            have rr : gR hh (b + 124) 1 = some (b + 126) := by rw [t0.2.1]; exact R124_1
            have nn : ∀ a, gI (sI hh (b + 126) t (nI a)) (b + 30) 2 = nI n := fun a => by rw [(ts a).I (by decide)]; exact N2
            refine (lp (fun N (a : Nat) j => f_Desk_fewestCrates_78 k50 N (b + 124) (b + 30) (nI c) (nI (2 ^ n - 1)) (nI t) (nI j) (sI hh (b + 126) t (nI a))) (dpS (wcl c) X (dpg (wcl c) X n 1000000 c t) t) (fun _ a => a ≤ 1000000) n (fun a => k50 (b + 124) (b + 30) (nI c) (nI (2 ^ n - 1)) (nI (t + 1)) (sI hh (b + 126) t (nI a))) (fun N j a hj ha => ?_) (fun j a hj ha => ?_) (fun N a ha => ?_) n 0 1000000 FU (by omega) (Nat.le_refl _) (by rw [FU_eq]; omega)).1
            · have e2 : ¬ n ≤ j := by omega
              have hx := hX j hj
              rw [f_Desk_fewestCrates_78]
              unfold dpS
              by_cases q : t.testBit j = true
              · have hb : jshr (nI t) (nI j) &&& 1 = 1 := (jbit1 (by omega) (by omega)).mpr q
                obtain ⟨o1, o2⟩ := b256_on t t256 j (by omega) q
                have sj : jshl 1 (nI j) = nI (2 ^ j) := jshl1 j (by omega)
                have o3 : t ^^^ 2 ^ j < 256 := by omega
                have vv := tv _ o1
                have bd := (dp_cbd c1 hc hn hX t1 (by omega) o1).1
                have vr : gI (sI hh (b + 126) t (nI a)) (b + 126) (t ^^^ 2 ^ j) = nI (dpg (wcl c) X n 1000000 c t (t ^^^ 2 ^ j)) := by rw [gI_n2 (by omega)]; exact vv
                have va : gI (sI hh (b + 126) t (nI a)) (b + 126) t = nI a := gI_q rfl rfl
                have wo := fun hh => dk_withOne (h := hh) (a := dpg (wcl c) X n 1000000 c t (t ^^^ 2 ^ j)) (v := X j) (c := c) bd hx.2 hc
                have wb : wcl c (dpg (wcl c) X n 1000000 c t (t ^^^ 2 ^ j)) (X j) ≤ 50000 := by have := wcl_bd (c := c) (a := dpg (wcl c) X n 1000000 c t (t ^^^ 2 ^ j)) hx.2; omega
                have jm := jminN (a := a) (c := wcl c (dpg (wcl c) X n 1000000 c t (t ^^^ 2 ^ j)) (X j)) (by omega) (by omega)
                simp (disch := omega) [↓ob_eq, ob_so, ldI, ldR, ldO, stI, stZ, stR, isO, wrA_n, rdA_n, wrA_l, rdA_l, gK_sI, gR_sI, gX_sI, gN_sI, gK_cp, gR_cp, gX_cp, gN_cp, rtZ_0, rtZ_1, if_true, reduceIte, and_self, true_and, and_true, kk, rr, nn, e2, hb, q, sj, nI_xor, o3, t256, vr, va, gw _ (ts a) j hj, wo, jm, sI_sI, nI_le', nI_addL]
              · have hb : ¬ jshr (nI t) (nI j) &&& 1 = 1 := fun e => q ((jbit1 (by omega) (by omega)).mp e)
                simp (disch := omega) [↓ob_eq, ob_so, ldI, ldR, ldO, stI, stZ, stR, isO, wrA_n, rdA_n, wrA_l, rdA_l, gK_sI, gR_sI, gX_sI, gN_sI, gK_cp, gR_cp, gX_cp, gN_cp, rtZ_0, rtZ_1, if_true, reduceIte, and_self, true_and, and_true, kk, rr, nn, e2, hb, q, nI_le', nI_addL]
            · unfold dpS
              split
              · exact Nat.le_trans (Nat.min_le_left _ _) ha
              · exact ha
            · rw [f_Desk_fewestCrates_78]
              simp (disch := omega) [↓ob_eq, ob_so, ldI, ldR, ldO, stI, stZ, stR, isO, wrA_n, rdA_n, wrA_l, rdA_l, gK_sI, gR_sI, gX_sI, gN_sI, gK_cp, gR_cp, gX_cp, gN_cp, rtZ_0, rtZ_1, if_true, reduceIte, and_self, true_and, and_true, kk, rr, nn, nI_le', nI_addL]
          have c50 : ∀ hh : PH, Sn [(126, 0, 256)] b h hh → Vec hh (b + 126) 1 (dpg (wcl c) X n 1000000 c 1) → ∃ h2, Sn [(126, 0, 256)] b h h2 ∧ Vec h2 (b + 126) (2 ^ n) (dpg (wcl c) X n 1000000 c (2 ^ n)) ∧ f_Desk_fewestCrates_50 FU (b + 124) (b + 30) (nI c) (nI (2 ^ n - 1)) 1 hh = f_Desk_fewestCrates_154 (b + 124) (nI (2 ^ n - 1)) h2 := by
            intro hh t0 tv
            have key := lp (fun N (s : PH) t => f_Desk_fewestCrates_50 N (b + 124) (b + 30) (nI c) (nI (2 ^ n - 1)) (nI t) s) (fun t s => sI s (b + 126) t (nI (dpv (wcl c) X n 1000000 (dpg (wcl c) X n 1000000 c t) t))) (fun t s => 1 ≤ t ∧ Sn [(126, 0, 256)] b h s ∧ Vec s (b + 126) t (dpg (wcl c) X n 1000000 c t)) (2 ^ n) (fun s => f_Desk_fewestCrates_154 (b + 124) (nI (2 ^ n - 1)) s)
              (fun N t s ht q => by
                obtain ⟨q1, q2, q3⟩ := q
                have e1 : ¬ 2 ^ n - 1 < t := by omega
                have e2 : ¬ 256 ≤ t := by omega
                have e3 : t < 256 := by omega
                have kk : gK s (b + 124) = (0, 0) ∧ gK s (b + 126) = (1, 256) := ⟨by rw [q2.1]; exact K124, by rw [q2.1]; exact K126⟩
                have rr : gR s (b + 124) 1 = some (b + 126) := by rw [q2.2.1]; exact R124_1
                have zm : (1000000 : Int32) = nI 1000000 := rfl
                have main : f_Desk_fewestCrates_50 (N + 1) (b + 124) (b + 30) (nI c) (nI (2 ^ n - 1)) (nI t) s = f_Desk_fewestCrates_78 (fun a0 a1 x2 x3 x4 h => f_Desk_fewestCrates_50 N a0 a1 x2 x3 x4 h) FU (b + 124) (b + 30) (nI c) (nI (2 ^ n - 1)) (nI t) 0 (sI s (b + 126) t (nI 1000000)) := by
                  rw [f_Desk_fewestCrates_50]
                  simp (disch := omega) only [lnA, ↓ob_eq, ob_so, ldI, ldR, ldO, stI, stZ, stR, isO, wrA_n, rdA_n, wrA_l, rdA_l, gK_sI, gR_sI, gX_sI, gN_sI, gK_cp, gR_cp, gX_cp, gN_cp, rtZ_0, rtZ_1, if_true, reduceIte, and_self, true_and, and_true, kk, rr, e1, e2, e3, nI_lt', nI_le', if_false, zm]
                exact main.trans (c78 (fun a0 a1 x2 x3 x4 h => f_Desk_fewestCrates_50 N a0 a1 x2 x3 x4 h) t s q1 ht q2 q3))
              (fun t s ht q => by
                obtain ⟨q1, q2, q3⟩ := q
                refine ⟨by omega, q2.put 126 _ _ (inL_in (lo := 0) (hi := 256) (by decide) (by omega) (by omega)), fun j hj => ?_⟩
                rw [dpg_st _ _ _ _ _ q1]
                unfold dpU
                by_cases z : j = t
                · rw [if_pos z]; subst z; simp (disch := omega) only [gI_q, gI_n1, gI_n2]
                · rw [if_neg z]; simp (disch := omega) only [gI_q, gI_n1, gI_n2]; exact q3 j (by omega))
              (fun N s q => by
                have e1 : 2 ^ n - 1 < 2 ^ n := by omega
                rw [f_Desk_fewestCrates_50, if_pos ((nI_lt' (by omega) (by omega)).mpr e1)])
              (2 ^ n - 1) 1 hh FU (by omega) ⟨by omega, t0, tv⟩ (by rw [FU_eq]; omega)
            exact ⟨_, key.2.2.1, key.2.2.2, key.1⟩
          have fin : 2 ^ n - 1 < 2 ^ n := by omega
          have bdf := dp_cbd (c := c) (X := X) c1 hc hn hX (t := 2 ^ n) (j := 2 ^ n - 1) p1 (Nat.le_refl _) fin
          have cc : ∃ h2, Sn [(126, 0, 256)] b h h2 ∧ f_Desk_fewestCrates (b + 124) (b + 30) (nI c) h = some (nI (dpg (wcl c) X n 1000000 c (2 ^ n) (2 ^ n - 1) / 100), h2) := by
            have t1 : Sn [(126, 0, 256)] b h (sI h (b + 126) 0 (nI c)) := Sn.rf.put 126 0 _ (by decide)
            obtain ⟨h2, s2, w2, e2⟩ := c50 (sI h (b + 126) 0 (nI c)) t1 (fun j hj => by
              obtain rfl : j = 0 := by omega
              rw [gI_q rfl rfl]; rfl)
            refine ⟨h2, s2, ?_⟩
            have a1 := lp0 (fun N (_ : Unit) j => f_Desk_fewestCrates_12 N (b + 124) (b + 30) (nI c) (nI (2 ^ n - 1)) (nI j) h) (fun _ s => s) n (fun _ => f_Desk_fewestCrates_50 FU (b + 124) (b + 30) (nI c) (nI (2 ^ n - 1)) 1 (sI h (b + 126) 0 (nI c))) () FU (by rw [FU_eq]; omega) (fun N j _ hj => by
                have e2 : ¬ n ≤ j := by omega
                have e3 := al j hj
                have hx := hX j hj
                show f_Desk_fewestCrates_12 (N + 1) (b + 124) (b + 30) (nI c) (nI (2 ^ n - 1)) (nI j) h = f_Desk_fewestCrates_12 N (b + 124) (b + 30) (nI c) (nI (2 ^ n - 1)) (nI (j + 1)) h
                rw [f_Desk_fewestCrates_12]
                simp (disch := omega) only [↓ob_eq, ob_so, ldI, ldR, ldO, stI, stZ, stR, isO, wrA_n, rdA_n, wrA_l, rdA_l, gK_sI, gR_sI, gX_sI, gN_sI, gK_cp, gR_cp, gX_cp, gN_cp, rtZ_0, rtZ_1, if_true, reduceIte, and_self, true_and, and_true, K30, N2, e2, gw h Sn.rf j hj, e3, nI_le', nI_addL, if_false])
              (fun N _ => by
                have w0 : wrA h (b + 126) 0 (nI c) = some (sI h (b + 126) 0 (nI c)) := wrA_eq (j := 0) K126 nI_0.symm (by decide) (by decide)
                show f_Desk_fewestCrates_12 (N + 1) (b + 124) (b + 30) (nI c) (nI (2 ^ n - 1)) (nI n) h = _
                rw [f_Desk_fewestCrates_12]
                simp (disch := omega) only [w0, ↓ob_eq, ob_so, ldI, ldR, ldO, stI, stZ, stR, isO, wrA_n, rdA_n, wrA_l, rdA_l, gK_sI, gR_sI, gX_sI, gN_sI, gK_cp, gR_cp, gX_cp, gN_cp, rtZ_0, rtZ_1, if_true, reduceIte, and_self, true_and, and_true, K30, K124, K126, R124_1, N2, nI_le', Nat.le_refl])
            have a2 : f_Desk_fewestCrates (b + 124) (b + 30) (nI c) h = f_Desk_fewestCrates_12 FU (b + 124) (b + 30) (nI c) (nI (2 ^ n - 1)) (nI 0) h := by
              simp only [f_Desk_fewestCrates, ↓ob_eq, ob_so, ldI, ldR, ldO, stI, stZ, stR, isO, wrA_n, rdA_n, wrA_l, rdA_l, gK_sI, gR_sI, gX_sI, gN_sI, gK_cp, gR_cp, gX_cp, gN_cp, rtZ_0, rtZ_1, if_true, reduceIte, and_self, true_and, and_true, K30, N2, sh, shm, nI_0]
            have a3 : f_Desk_fewestCrates_154 (b + 124) (nI (2 ^ n - 1)) h2 = some (nI (dpg (wcl c) X n 1000000 c (2 ^ n) (2 ^ n - 1) / 100), h2) := by
              have kk : gK h2 (b + 124) = (0, 0) ∧ gK h2 (b + 126) = (1, 256) := ⟨by rw [s2.1]; exact K124, by rw [s2.1]; exact K126⟩
              have rr : gR h2 (b + 124) 1 = some (b + 126) := by rw [s2.2.1]; exact R124_1
              have e0 : ¬ nI (2 ^ n - 1) < 0 := nI_pos (by omega)
              have e3 : ¬ 255 < 2 ^ n - 1 := by omega
              have w : f_Tc_within (nI (2 ^ n - 1)) (nI 255) h2 = some (1, h2) := by
                simp (disch := omega) [f_Tc_within, e0, e3, nI_lt', rtZ_1]
              have e4 : nI 256 - 1 = nI 255 := by decide
              have e5 : 2 ^ n - 1 < 256 := by omega
              have dv := dv100 (a := dpg (wcl c) X n 1000000 c (2 ^ n) (2 ^ n - 1)) (by omega)
              simp (disch := omega) [f_Desk_fewestCrates_154, lnA, ↓ob_eq, ob_so, ldI, ldR, ldO, stI, stZ, stR, isO, wrA_n, rdA_n, wrA_l, rdA_l, gK_sI, gR_sI, gX_sI, gN_sI, gK_cp, gR_cp, gX_cp, gN_cp, rtZ_0, rtZ_1, if_true, reduceIte, and_self, true_and, and_true, kk, rr, w, e4, e5, w2 _ fin, dv]
            exact a2.trans (a1.trans (e2.trans a3))
          obtain ⟨h1, t1, e1⟩ := cc
          -- the reference
          have K' : ∀ hh, Sn [(131, 0, 1), (162, 0, 256)] b h1 hh → gK hh = gK h ∧ gR hh = gR h := fun hh t => ⟨t.1.trans t1.1, t.2.1.trans t1.2.1⟩
          have nn : ∀ hh, Sn [(131, 0, 1), (162, 0, 256)] b h1 hh → gI hh (b + 131) 52 = nI n := fun hh t => by rw [t.I (by decide), t1.I (by decide)]; exact MM
          have d161 : ∀ hh, Sn [(131, 0, 1), (162, 0, 256)] b h1 hh → ∀ l, l < n → gI hh (b + 161) l = nI (X l) := fun hh t l hl => by
            rw [t.2.2.2.2 161 l (by simp [inL]), t1.2.2.2.2 161 l (by simp [inL])]; exact (D l hl).2.2
          have r58 : ∀ (k37 : Nat → Int32 → Int32 → PH → Option (Int32 × PH)) t (hh : PH), 1 ≤ t → t < 2 ^ n → Sn [(131, 0, 1), (162, 0, 256)] b h1 hh → Vec hh (b + 162) t (dpg (wrf c) X n 100000000 0 t) → f_Mo_fewestCrates_58 k37 FU (b + 131) (nI c) (nI t) 0 (sI hh (b + 162) t (nI 100000000)) = k37 (b + 131) (nI c) (nI (t + 1)) (sI hh (b + 162) t (nI (dpv (wrf c) X n 100000000 (dpg (wrf c) X n 100000000 0 t) t))) := by
            intro k37 t hh t1 t2 t0 tv
            have t256 : t < 256 := by omega
            have ts : ∀ a, Sn [(131, 0, 1), (162, 0, 256)] b h1 (sI hh (b + 162) t (nI a)) := fun a => t0.put 162 _ _ (inL_in (lo := 0) (hi := 256) (by decide) (by omega) (by omega))
            obtain ⟨g1, g2⟩ := K' hh t0
            have kk : gK hh (b + 131) = (0, 9) ∧ gK hh (b + 161) = (1, 8) ∧ gK hh (b + 162) = (1, 256) := ⟨by rw [g1]; exact K131, by rw [g1]; exact K161, by rw [g1]; exact K162⟩
            have rr : gR hh (b + 131) 53 = some (b + 161) ∧ gR hh (b + 131) 54 = some (b + 162) := ⟨by rw [g2]; exact R131_53, by rw [g2]; exact R131_54⟩
            refine (lp (fun N (a : Nat) j => f_Mo_fewestCrates_58 k37 N (b + 131) (nI c) (nI t) (nI j) (sI hh (b + 162) t (nI a))) (dpS (wrf c) X (dpg (wrf c) X n 100000000 0 t) t) (fun _ a => a ≤ 100000000) n (fun a => k37 (b + 131) (nI c) (nI (t + 1)) (sI hh (b + 162) t (nI a))) (fun N j a hj ha => ?_) (fun j a hj ha => ?_) (fun N a ha => ?_) n 0 100000000 FU (by omega) (Nat.le_refl _) (by rw [FU_eq]; omega)).1
            · have e2 : ¬ n ≤ j := by omega
              have j8 : j < 8 := by omega
              have hx := hX j hj
              have hh' := mo_has (a := b + 131) (n := t) (k := j) (h := sI hh (b + 162) t (nI a)) (by omega) (by omega)
              rw [f_Mo_fewestCrates_58]
              unfold dpS
              by_cases q : t.testBit j = true
              · rw [if_pos q] at hh'
                obtain ⟨o1, o2⟩ := b256_on t t256 j (by omega) q
                have sj : jshl 1 (nI j) = nI (2 ^ j) := jshl1 j (by omega)
                have nx : nI t &&& ~~~(nI (2 ^ j)) = nI (t ^^^ 2 ^ j) := by
                  have e : nI t &&& (nI (2 ^ j) ^^^ (-1)) = nI (t ^^^ 2 ^ j) := by rw [andnot, fa_and, nI_xor, o2]
                  rw [← e]
                  congr 1
                  simp
                have o3 : t ^^^ 2 ^ j < 256 := by omega
                have vv := tv _ o1
                have bd := (dp_cbd c1 hc hn hX t1 (by omega) o1).2
                have vr : gI (sI hh (b + 162) t (nI a)) (b + 162) (t ^^^ 2 ^ j) = nI (dpg (wrf c) X n 100000000 0 t (t ^^^ 2 ^ j)) := by rw [gI_n2 (by omega)]; exact vv
                have va : gI (sI hh (b + 162) t (nI a)) (b + 162) t = nI a := gI_q rfl rfl
                have wo := fun hh => mo_withWeight (h := hh) (o := b + 131) (a := dpg (wrf c) X n 100000000 0 t (t ^^^ 2 ^ j)) (v := X j) (c := c) bd hx.2 hc
                have wb := wrf_bd (c := c) (a := dpg (wrf c) X n 100000000 0 t (t ^^^ 2 ^ j)) hx.2
                have jm := fun hh => mo_lesserN (a := b + 131) (h := hh) (x := a) (y := wrf c (dpg (wrf c) X n 100000000 0 t (t ^^^ 2 ^ j)) (X j)) (by omega) (by omega)
                simp (disch := omega) [↓ob_eq, ob_so, ldI, ldR, ldO, stI, stZ, stR, isO, wrA_n, rdA_n, wrA_l, rdA_l, gK_sI, gR_sI, gX_sI, gN_sI, gK_cp, gR_cp, gX_cp, gN_cp, rtZ_0, rtZ_1, if_true, reduceIte, and_self, true_and, and_true, kk, rr, nn _ (ts a), e2, hh', q, sj, nx, o3, j8, t256, vr, va, d161 _ (ts a) j hj, wo, jm, sI_sI, nI_le', nI_addL]
              · rw [if_neg q] at hh'
                simp (disch := omega) [↓ob_eq, ob_so, ldI, ldR, ldO, stI, stZ, stR, isO, wrA_n, rdA_n, wrA_l, rdA_l, gK_sI, gR_sI, gX_sI, gN_sI, gK_cp, gR_cp, gX_cp, gN_cp, rtZ_0, rtZ_1, if_true, reduceIte, and_self, true_and, and_true, kk, rr, nn _ (ts a), e2, hh', q, nI_le', nI_addL]
            · unfold dpS
              split
              · exact Nat.le_trans (Nat.min_le_left _ _) ha
              · exact ha
            · rw [f_Mo_fewestCrates_58]
              simp (disch := omega) [↓ob_eq, ob_so, ldI, ldR, ldO, stI, stZ, stR, isO, wrA_n, rdA_n, wrA_l, rdA_l, gK_sI, gR_sI, gX_sI, gN_sI, gK_cp, gR_cp, gX_cp, gN_cp, rtZ_0, rtZ_1, if_true, reduceIte, and_self, true_and, and_true, kk, rr, nn _ (ts a), nI_le', nI_addL]
          have r37 : ∀ hh : PH, Sn [(131, 0, 1), (162, 0, 256)] b h1 hh → Vec hh (b + 162) 1 (dpg (wrf c) X n 100000000 0 1) → ∃ h2, Sn [(131, 0, 1), (162, 0, 256)] b h1 h2 ∧ f_Mo_fewestCrates_37 FU (b + 131) (nI c) 1 hh = some (nI (dpg (wrf c) X n 100000000 0 (2 ^ n) (2 ^ n - 1) / 100), h2) := by
            intro hh t0 tv
            have key := lp (fun N (s : PH) t => f_Mo_fewestCrates_37 N (b + 131) (nI c) (nI t) s) (fun t s => sI s (b + 162) t (nI (dpv (wrf c) X n 100000000 (dpg (wrf c) X n 100000000 0 t) t))) (fun t s => 1 ≤ t ∧ Sn [(131, 0, 1), (162, 0, 256)] b h1 s ∧ Vec s (b + 162) t (dpg (wrf c) X n 100000000 0 t)) (2 ^ n) (fun s => some (nI (dpg (wrf c) X n 100000000 0 (2 ^ n) (2 ^ n - 1) / 100), s))
              (fun N t s ht q => by
                obtain ⟨q1, q2, q3⟩ := q
                have e2 : ¬ 2 ^ n ≤ t := by omega
                have e3 : t < 256 := by omega
                obtain ⟨g1, g2⟩ := K' s q2
                have kk : gK s (b + 131) = (0, 9) ∧ gK s (b + 162) = (1, 256) := ⟨by rw [g1]; exact K131, by rw [g1]; exact K162⟩
                have rr : gR s (b + 131) 54 = some (b + 162) := by rw [g2]; exact R131_54
                have zm : (100000000 : Int32) = nI 100000000 := rfl
                have main : f_Mo_fewestCrates_37 (N + 1) (b + 131) (nI c) (nI t) s = f_Mo_fewestCrates_58 (fun a0 x1 x2 h => f_Mo_fewestCrates_37 N a0 x1 x2 h) FU (b + 131) (nI c) (nI t) 0 (sI s (b + 162) t (nI 100000000)) := by
                  rw [f_Mo_fewestCrates_37]
                  simp (disch := omega) only [↓ob_eq, ob_so, ldI, ldR, ldO, stI, stZ, stR, isO, wrA_n, rdA_n, wrA_l, rdA_l, gK_sI, gR_sI, gX_sI, gN_sI, gK_cp, gR_cp, gX_cp, gN_cp, rtZ_0, rtZ_1, if_true, reduceIte, and_self, true_and, and_true, kk, rr, nn s q2, sh, e2, e3, nI_le', if_false, zm]
                exact main.trans (r58 (fun a0 x1 x2 h => f_Mo_fewestCrates_37 N a0 x1 x2 h) t s q1 ht q2 q3))
              (fun t s ht q => by
                obtain ⟨q1, q2, q3⟩ := q
                refine ⟨by omega, q2.put 162 _ _ (inL_in (lo := 0) (hi := 256) (by decide) (by omega) (by omega)), fun j hj => ?_⟩
                rw [dpg_st _ _ _ _ _ q1]
                unfold dpU
                by_cases z : j = t
                · rw [if_pos z]; subst z; simp (disch := omega) only [gI_q, gI_n1, gI_n2]
                · rw [if_neg z]; simp (disch := omega) only [gI_q, gI_n1, gI_n2]; exact q3 j (by omega))
              (fun N s q => by
                obtain ⟨q1, q2, q3⟩ := q
                obtain ⟨g1, g2⟩ := K' s q2
                have kk : gK s (b + 131) = (0, 9) ∧ gK s (b + 162) = (1, 256) := ⟨by rw [g1]; exact K131, by rw [g1]; exact K162⟩
                have rr : gR s (b + 131) 54 = some (b + 162) := by rw [g2]; exact R131_54
                have e5 : 2 ^ n - 1 < 256 := by omega
                have dv := dv100 (a := dpg (wrf c) X n 100000000 0 (2 ^ n) (2 ^ n - 1)) (by omega)
                rw [f_Mo_fewestCrates_37]
                simp (disch := omega) [↓ob_eq, ob_so, ldI, ldR, ldO, stI, stZ, stR, isO, wrA_n, rdA_n, wrA_l, rdA_l, gK_sI, gR_sI, gX_sI, gN_sI, gK_cp, gR_cp, gX_cp, gN_cp, rtZ_0, rtZ_1, if_true, reduceIte, and_self, true_and, and_true, kk, rr, nn s q2, sh, shm, e5, q3 _ fin, dv, nI_le'])
              (2 ^ n - 1) 1 hh FU (by omega) ⟨by omega, t0, tv⟩ (by rw [FU_eq]; omega)
            exact ⟨_, key.2.2.1, key.1⟩
          have rr2 : ∃ h2, Sn [(131, 0, 1), (162, 0, 256)] b h1 h2 ∧ f_Mo_fewestCrates (b + 131) (nI c) (sI h1 (b + 131) 0 0) = some (nI (dpg (wrf c) X n 100000000 0 (2 ^ n) (2 ^ n - 1) / 100), h2) := by
            have t2 : Sn [(131, 0, 1), (162, 0, 256)] b h1 (sI h1 (b + 131) 0 0) := Sn.rf.put 131 0 0 (by decide)
            have t3 : Sn [(131, 0, 1), (162, 0, 256)] b h1 (sI (sI h1 (b + 131) 0 0) (b + 162) 0 0) := t2.put 162 0 _ (by decide)
            obtain ⟨h2, s2, e2⟩ := r37 _ t3 (fun j hj => by
              obtain rfl : j = 0 := by omega
              rw [gI_q rfl rfl]; rfl)
            refine ⟨h2, s2, ?_⟩
            obtain ⟨g1, g2⟩ := K' _ t2
            have kk : gK (sI h1 (b + 131) 0 0) (b + 131) = (0, 9) ∧ gK (sI h1 (b + 131) 0 0) (b + 161) = (1, 8) ∧ gK (sI h1 (b + 131) 0 0) (b + 162) = (1, 256) := ⟨by rw [g1]; exact K131, by rw [g1]; exact K161, by rw [g1]; exact K162⟩
            have rr : gR (sI h1 (b + 131) 0 0) (b + 131) 53 = some (b + 161) ∧ gR (sI h1 (b + 131) 0 0) (b + 131) 54 = some (b + 162) := ⟨by rw [g2]; exact R131_53, by rw [g2]; exact R131_54⟩
            generalize hq : sI h1 (b + 131) 0 0 = q at *
            have a1 := lp0 (fun N (_ : Unit) j => f_Mo_fewestCrates_2 N (b + 131) (nI c) (nI j) q) (fun _ s => s) n (fun _ => f_Mo_fewestCrates_37 FU (b + 131) (nI c) 1 (sI q (b + 162) 0 0)) () FU (by rw [FU_eq]; omega) (fun N j _ hj => by
                have e2 : ¬ n ≤ j := by omega
                have e3 := al j hj
                have j8 : j < 8 := by omega
                have hx := hX j hj
                show f_Mo_fewestCrates_2 (N + 1) (b + 131) (nI c) (nI j) q = f_Mo_fewestCrates_2 N (b + 131) (nI c) (nI (j + 1)) q
                rw [f_Mo_fewestCrates_2]
                simp (disch := omega) only [↓ob_eq, ob_so, ldI, ldR, ldO, stI, stZ, stR, isO, wrA_n, rdA_n, wrA_l, rdA_l, gK_sI, gR_sI, gX_sI, gN_sI, gK_cp, gR_cp, gX_cp, gN_cp, rtZ_0, rtZ_1, if_true, reduceIte, and_self, true_and, and_true, kk, rr, nn q t2, e2, e3, j8, d161 q t2 j hj, nI_le', nI_addL, if_false])
              (fun N _ => by
                have z256 : (0 : Nat) < 256 := by decide
                have w0 : wrA q (b + 162) 0 0 = some (sI q (b + 162) 0 0) := wrA_eq (j := 0) kk.2.2 nI_0.symm (by decide) (by decide)
                show f_Mo_fewestCrates_2 (N + 1) (b + 131) (nI c) (nI n) q = _
                rw [f_Mo_fewestCrates_2]
                simp (disch := omega) only [w0, ↓ob_eq, ob_so, ldI, ldR, ldO, stI, stZ, stR, isO, wrA_n, rdA_n, wrA_l, rdA_l, gK_sI, gR_sI, gX_sI, gN_sI, gK_cp, gR_cp, gX_cp, gN_cp, rtZ_0, rtZ_1, if_true, reduceIte, and_self, true_and, and_true, kk, rr, nn q t2, nI_le', Nat.le_refl])
            exact a1.trans e2
          obtain ⟨h2, t2, e2⟩ := rr2
          have er : dpg (wcl c) X n 1000000 c (2 ^ n) (2 ^ n - 1) / 100 = dpg (wrf c) X n 100000000 0 (2 ^ n) (2 ^ n - 1) / 100 := by
            obtain ⟨i1, i2, i3⟩ := dp_rel c1 hc hn hX (2 ^ n) p1 (Nat.le_refl _)
            rcases Nat.eq_zero_or_pos (2 ^ n - 1) with z | z
            · rw [z, i1, i2]; omega
            · rw [(i3 _ z fin).1]
          rw [er] at e1
          have K1' : gK h1 (b + 131) = (0, 9) := by rw [t1.1]; exact K131
          exact both_ro (r := nI (dpg (wrf c) X n 100000000 0 (2 ^ n) (2 ^ n - 1) / 100)) I0 (by simp [f_Tc_crates, hc0, hc1, z0, ↓ob_eq, ob_so, ldI, ldR, ldO, stI, stZ, stR, isO, wrA_n, rdA_n, wrA_l, rdA_l, gK_sI, gR_sI, gX_sI, gN_sI, gK_cp, gR_cp, gX_cp, gN_cp, rtZ_0, rtZ_1, if_true, reduceIte, and_self, true_and, and_true, K0, K1, K25, K124, R0_0, R0_4, R1_6, R25_2, e1]) t1 (by simp [f_Mo_crates, ii, i, z0, ↓ob_eq, ob_so, ldI, ldR, ldO, stI, stZ, stR, isO, wrA_n, rdA_n, wrA_l, rdA_l, gK_sI, gR_sI, gX_sI, gN_sI, gK_cp, gR_cp, gX_cp, gN_cp, rtZ_0, rtZ_1, if_true, reduceIte, and_self, true_and, and_true, K1', e2]) t2 (by decide)
        · -- one is too heavy
          have ex : ∃ l, l < n ∧ ¬ X l ≤ c ∧ ∀ j, j < l → X j ≤ c := by
            have h1 : ∃ l, l < n ∧ ¬ X l ≤ c := Classical.byContradiction (fun q => al (fun l hl => Classical.byContradiction (fun q2 => q ⟨l, hl, q2⟩)))
            obtain ⟨l, hl, hx⟩ := h1
            induction l using Nat.strongRecOn with
            | ind l ih =>
              by_cases q : ∃ j, j < l ∧ ¬ X j ≤ c
              · obtain ⟨j, j1, j2⟩ := q
                exact ih j j1 (by omega) j2
              · exact ⟨l, hl, hx, fun j hj => Classical.byContradiction (fun q2 => q ⟨j, hj, q2⟩)⟩
          obtain ⟨l, hl, hx, hj⟩ := ex
          have fx : ∀ {ρ : Type} (o f : ρ), fox (fun j (_ : Unit) => decide (c < X j)) (fun _ _ => o) (fun _ s => s) (fun _ => f) 0 n () = o := fun o f => by
            have := fox_at (ex := fun j (_ : Unit) => decide (c < X j)) (out := fun _ _ => o) (st := fun _ s => s) (fin := fun _ => f) n 0 () l hl (fun j h => decide_eq_false (by rw [Nat.zero_add]; have := hj j h; omega)) (decide_eq_true (by rw [Nat.zero_add]; omega))
            exact this
          have a1 : f_Desk_fewestCrates (b + 124) (b + 30) (nI c) h = some (-1, h) := by
            have a1 := lpx0 (fun N (_ : Unit) j => f_Desk_fewestCrates_12 N (b + 124) (b + 30) (nI c) (nI (2 ^ n - 1)) (nI j) h) (fun j (_ : Unit) => decide (c < X j)) (fun _ _ => some (-1, h)) (fun _ s => s) n (fun _ => f_Desk_fewestCrates_12 1 (b + 124) (b + 30) (nI c) (nI (2 ^ n - 1)) (nI n) h) () FU (by rw [FU_eq]; omega) (fun N j _ hj w => by
                have w := of_decide_eq_true w
                have e2 : ¬ n ≤ j := by omega
                have e3 : ¬ X j ≤ c := by omega
                have hx := hX j hj
                show f_Desk_fewestCrates_12 (N + 1) (b + 124) (b + 30) (nI c) (nI (2 ^ n - 1)) (nI j) h = some (-1, h)
                rw [f_Desk_fewestCrates_12]
                simp (disch := omega) only [↓ob_eq, ob_so, ldI, ldR, ldO, stI, stZ, stR, isO, wrA_n, rdA_n, wrA_l, rdA_l, gK_sI, gR_sI, gX_sI, gN_sI, gK_cp, gR_cp, gX_cp, gN_cp, rtZ_0, rtZ_1, if_true, reduceIte, and_self, true_and, and_true, K30, N2, e2, gw h Sn.rf j hj, e3, nI_le', if_false])
              (fun N j _ hj w => by
                have w := of_decide_eq_false w
                have e2 : ¬ n ≤ j := by omega
                have e3 : X j ≤ c := by omega
                have hx := hX j hj
                show f_Desk_fewestCrates_12 (N + 1) (b + 124) (b + 30) (nI c) (nI (2 ^ n - 1)) (nI j) h = f_Desk_fewestCrates_12 N (b + 124) (b + 30) (nI c) (nI (2 ^ n - 1)) (nI (j + 1)) h
                rw [f_Desk_fewestCrates_12]
                simp (disch := omega) only [↓ob_eq, ob_so, ldI, ldR, ldO, stI, stZ, stR, isO, wrA_n, rdA_n, wrA_l, rdA_l, gK_sI, gR_sI, gX_sI, gN_sI, gK_cp, gR_cp, gX_cp, gN_cp, rtZ_0, rtZ_1, if_true, reduceIte, and_self, true_and, and_true, K30, N2, e2, gw h Sn.rf j hj, e3, nI_le', nI_addL, if_false])
              (fun N _ => by
                show f_Desk_fewestCrates_12 (N + 1) (b + 124) (b + 30) (nI c) (nI (2 ^ n - 1)) (nI n) h = f_Desk_fewestCrates_12 (0 + 1) (b + 124) (b + 30) (nI c) (nI (2 ^ n - 1)) (nI n) h
                rw [f_Desk_fewestCrates_12, f_Desk_fewestCrates_12]
                simp (disch := omega) only [↓ob_eq, ob_so, ldI, ldR, ldO, stI, stZ, stR, isO, wrA_n, rdA_n, wrA_l, rdA_l, gK_sI, gR_sI, gX_sI, gN_sI, gK_cp, gR_cp, gX_cp, gN_cp, rtZ_0, rtZ_1, if_true, reduceIte, and_self, true_and, and_true, K30, K124, K126, R124_1, N2, nI_le', Nat.le_refl])
            rw [fx] at a1
            have a2 : f_Desk_fewestCrates (b + 124) (b + 30) (nI c) h = f_Desk_fewestCrates_12 FU (b + 124) (b + 30) (nI c) (nI (2 ^ n - 1)) (nI 0) h := by
              simp only [f_Desk_fewestCrates, ↓ob_eq, ob_so, ldI, ldR, ldO, stI, stZ, stR, isO, wrA_n, rdA_n, wrA_l, rdA_l, gK_sI, gR_sI, gX_sI, gN_sI, gK_cp, gR_cp, gX_cp, gN_cp, rtZ_0, rtZ_1, if_true, reduceIte, and_self, true_and, and_true, K30, N2, sh, shm, nI_0]
            exact a2.trans a1
          have Kg : gK g (b + 131) = (0, 9) := by rw [hg]; exact K131
          have q161 : gK g (b + 161) = (1, 8) := by rw [hg]; exact K161
          have p53 : gR g (b + 131) 53 = some (b + 161) := by rw [hg]; exact R131_53
          have M52 : gI g (b + 131) 52 = nI n := by rw [hg]; simp (disch := omega) only [gI_q, gI_n1, gI_n2]; exact MM
          have d161 : ∀ l, l < n → gI g (b + 161) l = nI (X l) := fun l hl => by rw [hg]; simp (disch := omega) only [gI_q, gI_n1, gI_n2]; exact (D l hl).2.2
          have b1 : f_Mo_fewestCrates (b + 131) (nI c) g = some (-1, g) := by
            have a1 := lpx0 (fun N (_ : Unit) j => f_Mo_fewestCrates_2 N (b + 131) (nI c) (nI j) g) (fun j (_ : Unit) => decide (c < X j)) (fun _ _ => some (-1, g)) (fun _ s => s) n (fun _ => f_Mo_fewestCrates_2 1 (b + 131) (nI c) (nI n) g) () FU (by rw [FU_eq]; omega) (fun N j _ hj w => by
                have w := of_decide_eq_true w
                have e2 : ¬ n ≤ j := by omega
                have e3 : ¬ X j ≤ c := by omega
                have j8 : j < 8 := by omega
                have hx := hX j hj
                show f_Mo_fewestCrates_2 (N + 1) (b + 131) (nI c) (nI j) g = some (-1, g)
                rw [f_Mo_fewestCrates_2]
                simp (disch := omega) only [↓ob_eq, ob_so, ldI, ldR, ldO, stI, stZ, stR, isO, wrA_n, rdA_n, wrA_l, rdA_l, gK_sI, gR_sI, gX_sI, gN_sI, gK_cp, gR_cp, gX_cp, gN_cp, rtZ_0, rtZ_1, if_true, reduceIte, and_self, true_and, and_true, Kg, q161, p53, M52, e2, j8, d161 j hj, e3, nI_le', if_false])
              (fun N j _ hj w => by
                have w := of_decide_eq_false w
                have e2 : ¬ n ≤ j := by omega
                have e3 : X j ≤ c := by omega
                have j8 : j < 8 := by omega
                have hx := hX j hj
                show f_Mo_fewestCrates_2 (N + 1) (b + 131) (nI c) (nI j) g = f_Mo_fewestCrates_2 N (b + 131) (nI c) (nI (j + 1)) g
                rw [f_Mo_fewestCrates_2]
                simp (disch := omega) only [↓ob_eq, ob_so, ldI, ldR, ldO, stI, stZ, stR, isO, wrA_n, rdA_n, wrA_l, rdA_l, gK_sI, gR_sI, gX_sI, gN_sI, gK_cp, gR_cp, gX_cp, gN_cp, rtZ_0, rtZ_1, if_true, reduceIte, and_self, true_and, and_true, Kg, q161, p53, M52, e2, j8, d161 j hj, e3, nI_le', nI_addL, if_false])
              (fun N _ => by
                show f_Mo_fewestCrates_2 (N + 1) (b + 131) (nI c) (nI n) g = f_Mo_fewestCrates_2 (0 + 1) (b + 131) (nI c) (nI n) g
                rw [f_Mo_fewestCrates_2, f_Mo_fewestCrates_2]
                simp (disch := omega) only [ldI, ↓ob_eq, ob_so, Kg, M52, nI_le', Nat.le_refl, if_true])
            rw [fx] at a1
            exact a1
          refine both_ref I0 (r := -1) (by simp [f_Tc_crates, hc0, hc1, z0, ↓ob_eq, ob_so, ldI, ldR, ldO, stI, stZ, stR, isO, wrA_n, rdA_n, wrA_l, rdA_l, gK_sI, gR_sI, gX_sI, gN_sI, gK_cp, gR_cp, gX_cp, gN_cp, rtZ_0, rtZ_1, if_true, reduceIte, and_self, true_and, and_true, K0, K1, K25, K124, R0_0, R0_4, R1_6, R25_2, a1]) ?_
          rw [← hg]
          simp [f_Mo_crates, ii, i, z0, ↓ob_eq, ob_so, ldI, ldR, ldO, stI, stZ, stR, isO, wrA_n, rdA_n, wrA_l, rdA_l, gK_sI, gR_sI, gX_sI, gN_sI, gK_cp, gR_cp, gX_cp, gN_cp, rtZ_0, rtZ_1, if_true, reduceIte, and_self, true_and, and_true, K131, ← hg, Kg, b1]
      · obtain rfl : k = 1 := by omega
        have z0 : ¬ nI 1 = 0 := by decide
        have z1 : (nI 1 = 1) = True := eq_true rfl
        -- the class: the lightest first
        have c18 : ∀ (k8 : Nat → Int32 → Int32 → Int32 → PH → Option (Int32 × PH)) w (s : Nat × Nat), w ≤ 40 → s.1 ≤ 99 → f_Desk_fitOne_18 k8 FU (b + 30) (nI s.1) (nI s.2) (nI w) 0 h = k8 (b + 30) (nI (fo (ftS X w) 0 n s).1) (nI (fo (ftS X w) 0 n s).2) (nI (w + 1)) h ∧ (fo (ftS X w) 0 n s).1 ≤ 99 := fun k8 w s hw hs => by
          refine lp (fun N (s : Nat × Nat) j => f_Desk_fitOne_18 k8 N (b + 30) (nI s.1) (nI s.2) (nI w) (nI j) h) (ftS X w) (fun _ s => s.1 ≤ 99) n (fun s => k8 (b + 30) (nI s.1) (nI s.2) (nI (w + 1)) h) (fun N j s hj hs => ?_) (fun j s hj hs => ?_) (fun N s hs => ?_) n 0 s FU (by omega) hs (by rw [FU_eq]; omega)
          · have e2 : ¬ n ≤ j := by omega
            have hx := hX j hj
            rw [f_Desk_fitOne_18]
            unfold ftS
            by_cases q : X j = w
            · by_cases q2 : w ≤ s.1
              · have q3 : ¬ s.1 < w := by omega
                have sb : nI s.1 - nI w = nI (s.1 - w) := pk_sub (by omega)
                simp (disch := omega) [↓ob_eq, ob_so, ldI, ldR, ldO, stI, stZ, stR, isO, wrA_n, rdA_n, wrA_l, rdA_l, gK_sI, gR_sI, gX_sI, gN_sI, gK_cp, gR_cp, gX_cp, gN_cp, rtZ_0, rtZ_1, if_true, reduceIte, and_self, true_and, and_true, K30, N2, e2, gw h Sn.rf j hj, q, q2, q3, sb, nI_le', nI_lt', nI_addL]
              · have q3 : s.1 < w := by omega
                simp (disch := omega) [↓ob_eq, ob_so, ldI, ldR, ldO, stI, stZ, stR, isO, wrA_n, rdA_n, wrA_l, rdA_l, gK_sI, gR_sI, gX_sI, gN_sI, gK_cp, gR_cp, gX_cp, gN_cp, rtZ_0, rtZ_1, if_true, reduceIte, and_self, true_and, and_true, K30, N2, e2, gw h Sn.rf j hj, q, q2, q3, nI_le', nI_lt', nI_addL]
            · simp (disch := omega) [↓ob_eq, ob_so, ldI, ldR, ldO, stI, stZ, stR, isO, wrA_n, rdA_n, wrA_l, rdA_l, gK_sI, gR_sI, gX_sI, gN_sI, gK_cp, gR_cp, gX_cp, gN_cp, rtZ_0, rtZ_1, if_true, reduceIte, and_self, true_and, and_true, K30, N2, e2, gw h Sn.rf j hj, q, nI_le', nI_eq', nI_addL]
          · unfold ftS
            split
            · show s.1 - w ≤ 99; omega
            · exact hs
          · rw [f_Desk_fitOne_18]
            simp (disch := omega) [↓ob_eq, ob_so, ldI, ldR, ldO, stI, stZ, stR, isO, wrA_n, rdA_n, wrA_l, rdA_l, gK_sI, gR_sI, gX_sI, gN_sI, gK_cp, gR_cp, gX_cp, gN_cp, rtZ_0, rtZ_1, if_true, reduceIte, and_self, true_and, and_true, K30, N2, nI_le', nI_addL]
        have cf : ∃ r f, Fit X n c 41 0 r f ∧ f_Desk_fitOne (b + 124) (b + 30) (nI c) h = some (nI f, h) := by
          have go : ∀ e w M (s : Nat × Nat), w + e = 41 → e < M → s.1 ≤ 99 → Fit X n c w 0 s.1 s.2 → ∃ r f, Fit X n c 41 0 r f ∧ f_Desk_fitOne_8 M (b + 30) (nI s.1) (nI s.2) (nI w) h = some (nI f, h) := by
            intro e
            induction e with
            | zero =>
              intro w M s hw hM hs F
              obtain ⟨N, rfl⟩ : ∃ N, M = N + 1 := ⟨M - 1, by omega⟩
              obtain rfl : w = 41 := by omega
              refine ⟨s.1, s.2, F, ?_⟩
              rw [f_Desk_fitOne_8, if_pos (by decide)]
            | succ e ih =>
              intro w M s hw hM hs F
              obtain ⟨N, rfl⟩ : ∃ N, M = N + 1 := ⟨M - 1, by omega⟩
              obtain ⟨e2, b2⟩ := c18 (fun a1 x3 x4 x5 h => f_Desk_fitOne_8 N a1 x3 x4 x5 h) w s (by omega) hs
              have F2 : Fit X n c w n (fo (ftS X w) 0 n s).1 (fo (ftS X w) 0 n s).2 := fo_inv (st := ftS X w) (fun i s => Fit X n c w i s.1 s.2) n (fun i s hi F => F.st hi) n 0 s (by omega) F
              obtain ⟨r, f, f1, e3⟩ := ih (w + 1) N (fo (ftS X w) 0 n s) (by omega) (by omega) b2 F2.up
              refine ⟨r, f, f1, ?_⟩
              have e4 : ¬ (40 : Int32) < nI w := fun z => by
                have this : 40 < w := (L_ltn (n := 40) (m := w) (by omega) (by decide)).mp z
                omega
              have main : f_Desk_fitOne_8 (N + 1) (b + 30) (nI s.1) (nI s.2) (nI w) h = f_Desk_fitOne_18 (fun a1 x3 x4 x5 h => f_Desk_fitOne_8 N a1 x3 x4 x5 h) FU (b + 30) (nI s.1) (nI s.2) (nI w) 0 h := by
                rw [f_Desk_fitOne_8, if_neg e4]
              exact main.trans (e2.trans e3)
          have this := go 40 1 FU (c, 0) (by omega) (by rw [FU_eq]; omega) hc ⟨fun _ => false, by
              have : ∀ m, sg (fun _ => false) (fun _ => 1) m = 0 := fun m => by
                induction m with
                | zero => rfl
                | succ m ih => rw [sg, ih]; rfl
              rw [this], by
              have : ∀ m, sg (fun _ => false) X m = 0 := fun m => by
                induction m with
                | zero => rfl
                | succ m ih => rw [sg, ih]; rfl
              rw [this]; rfl, Or.inl (fun j hj => ⟨fun z => absurd (show false = true from z) (by decide), fun z => by have := hX j hj; omega⟩)⟩
          obtain ⟨r, f, f1, e1⟩ := this
          exact ⟨r, f, f1, e1⟩
        obtain ⟨r, f, F, e1⟩ := cf
        have Kg : gK g (b + 131) = (0, 9) := by rw [hg]; exact K131
        have q161 : gK g (b + 161) = (1, 8) := by rw [hg]; exact K161
        have p53 : gR g (b + 131) 53 = some (b + 161) := by rw [hg]; exact R131_53
        have M52 : gI g (b + 131) 52 = nI n := by rw [hg]; simp (disch := omega) only [gI_q, gI_n1, gI_n2]; exact MM
        have d161 : ∀ l, l < n → gI g (b + 161) l = nI (X l) := fun l hl => by rw [hg]; simp (disch := omega) only [gI_q, gI_n1, gI_n2]; exact (D l hl).2.2
        have r20 : ∀ (k4 : Nat → Int32 → Int32 → Int32 → PH → Option (Int32 × PH)) m s, m ≤ 10 → s < 2 ^ n → f_Mo_mostInOne_20 k4 FU (b + 131) (nI c) (nI m) (nI s) 0 0 g = k4 (b + 131) (nI c) (nI (miS X n c s m)) (nI (s + 1)) g := fun k4 m s hm hs => by
          have ho := ones (n := s) (by omega) (b + 131) g
          have hp := pc_le s
          have gm := mo_greaterN (a := b + 131) (h := g) (x := m) (y := pc s) (by omega) (by omega)
          have key := lp0 (fun N (a : Nat) j => f_Mo_mostInOne_20 k4 N (b + 131) (nI c) (nI m) (nI s) (nI a) (nI j) g) (fun j a => if s.testBit j then a + X j else a) n (fun a => if nI c < nI a then k4 (b + 131) (nI c) (nI m) (nI (s + 1)) g else k4 (b + 131) (nI c) (nI (Nat.max m (pc s))) (nI (s + 1)) g) 0 FU (by rw [FU_eq]; omega) (fun N j a hj => by
              have e2 : ¬ n ≤ j := by omega
              have j8 : j < 8 := by omega
              have hh' := mo_has (a := b + 131) (n := s) (k := j) (h := g) (by omega) (by omega)
              rw [f_Mo_mostInOne_20]
              by_cases q : s.testBit j = true
              · rw [if_pos q] at hh'
                simp (disch := omega) [↓ob_eq, ob_so, ldI, ldR, ldO, stI, stZ, stR, isO, wrA_n, rdA_n, wrA_l, rdA_l, gK_sI, gR_sI, gX_sI, gN_sI, gK_cp, gR_cp, gX_cp, gN_cp, rtZ_0, rtZ_1, if_true, reduceIte, and_self, true_and, and_true, Kg, q161, p53, M52, e2, j8, hh', q, d161 j hj, nI_le', nI_addL, nI_add]
              · rw [if_neg q] at hh'
                simp (disch := omega) [↓ob_eq, ob_so, ldI, ldR, ldO, stI, stZ, stR, isO, wrA_n, rdA_n, wrA_l, rdA_l, gK_sI, gR_sI, gX_sI, gN_sI, gK_cp, gR_cp, gX_cp, gN_cp, rtZ_0, rtZ_1, if_true, reduceIte, and_self, true_and, and_true, Kg, q161, p53, M52, e2, hh', q, nI_le', nI_addL])
            (fun N a => by
              rw [f_Mo_mostInOne_20]
              by_cases q : nI c < nI a
              · simp (disch := omega) [↓ob_eq, ob_so, ldI, ldR, ldO, stI, stZ, stR, isO, wrA_n, rdA_n, wrA_l, rdA_l, gK_sI, gR_sI, gX_sI, gN_sI, gK_cp, gR_cp, gX_cp, gN_cp, rtZ_0, rtZ_1, if_true, reduceIte, and_self, true_and, and_true, Kg, M52, q, nI_le', nI_addL]
              · simp (disch := omega) [↓ob_eq, ob_so, ldI, ldR, ldO, stI, stZ, stR, isO, wrA_n, rdA_n, wrA_l, rdA_l, gK_sI, gR_sI, gX_sI, gN_sI, gK_cp, gR_cp, gX_cp, gN_cp, rtZ_0, rtZ_1, if_true, reduceIte, and_self, true_and, and_true, Kg, M52, q, ho, gm, nI_le', nI_addL])
          rw [fo_sg, Nat.zero_add] at key
          have sb : sg s.testBit X n ≤ 40 * n := sg_le (fun j hj => (hX j hj).2)
          refine key.trans ?_
          unfold miS
          by_cases q : sg s.testBit X n ≤ c
          · have q2 : ¬ nI c < nI (sg s.testBit X n) := fun z => by
              have := (nI_lt' (by omega) (by omega)).mp z
              omega
            rw [if_neg q2, if_pos q]
          · have q2 : nI c < nI (sg s.testBit X n) := (nI_lt' (by omega) (by omega)).mpr (by omega)
            rw [if_pos q2, if_neg q]
        have r4 : f_Mo_mostInOne (b + 131) (nI c) g = some (nI f, g) := by
          have key := (lp (fun N (m : Nat) s => f_Mo_mostInOne_4 N (b + 131) (nI c) (nI m) (nI s) g) (miS X n c) (fun _ m => m ≤ 10) (2 ^ n) (fun m => some (nI m, g)) (fun N s m hs hm => by
              have e2 : ¬ 2 ^ n ≤ s := by omega
              have main : f_Mo_mostInOne_4 (N + 1) (b + 131) (nI c) (nI m) (nI s) g = f_Mo_mostInOne_20 (fun a0 x1 x2 x3 h => f_Mo_mostInOne_4 N a0 x1 x2 x3 h) FU (b + 131) (nI c) (nI m) (nI s) 0 0 g := by
                rw [f_Mo_mostInOne_4]
                simp (disch := omega) only [↓ob_eq, ob_so, ldI, ldR, ldO, stI, stZ, stR, isO, wrA_n, rdA_n, wrA_l, rdA_l, gK_sI, gR_sI, gX_sI, gN_sI, gK_cp, gR_cp, gX_cp, gN_cp, rtZ_0, rtZ_1, if_true, reduceIte, and_self, true_and, and_true, Kg, M52, sh, e2, nI_le', if_false]
              exact main.trans (r20 (fun a0 x1 x2 x3 h => f_Mo_mostInOne_4 N a0 x1 x2 x3 h) m s hm hs))
            (fun s m hs hm => by
              unfold miS
              split
              · exact Nat.max_le.mpr ⟨hm, pc_le s⟩
              · exact hm)
            (fun N m hm => by
              rw [f_Mo_mostInOne_4]
              simp (disch := omega) only [↓ob_eq, ob_so, ldI, ldR, ldO, stI, stZ, stR, isO, wrA_n, rdA_n, wrA_l, rdA_l, gK_sI, gR_sI, gX_sI, gN_sI, gK_cp, gR_cp, gX_cp, gN_cp, rtZ_0, rtZ_1, if_true, reduceIte, and_self, true_and, and_true, Kg, M52, sh, nI_le', Nat.le_refl])
            (2 ^ n) 0 0 FU (by omega) (by omega) (by rw [FU_eq]; omega)).1
          rw [F.end' hn hX, nI_0] at key
          exact key
        refine both_ref I0 (r := nI f) (by simp [f_Tc_crates, hc0, hc1, z0, z1, ↓ob_eq, ob_so, ldI, ldR, ldO, stI, stZ, stR, isO, wrA_n, rdA_n, wrA_l, rdA_l, gK_sI, gR_sI, gX_sI, gN_sI, gK_cp, gR_cp, gX_cp, gN_cp, rtZ_0, rtZ_1, if_true, reduceIte, and_self, true_and, and_true, K0, K1, K25, K124, R0_0, R0_4, R1_6, R25_2, e1]) ?_
        rw [← hg]
        simp [f_Mo_crates, ii, i, z0, ↓ob_eq, ob_so, ldI, ldR, ldO, stI, stZ, stR, isO, wrA_n, rdA_n, wrA_l, rdA_l, gK_sI, gR_sI, gX_sI, gN_sI, gK_cp, gR_cp, gX_cp, gN_cp, rtZ_0, rtZ_1, if_true, reduceIte, and_self, true_and, and_true, K131, ← hg, Kg, r4]
    · have z0 : ¬ v2 = 0 := fun e => by
        have := u h; rw [e] at this
        exact absurd this (by simp [f_Tc_within, rtZ])
      have z1 : ¬ v2 = 1 := fun e => by
        have := u h; rw [e] at this
        exact absurd this (by simp [f_Tc_within, rtZ])
      exact both_ref I0 (r := -1) (by simp [f_Tc_crates, hc0, hc1, z0, z1]) (by simp [f_Mo_crates, ii, i, ↓ob_eq, ob_so, ldI, ldR, ldO, stI, stZ, stR, isO, wrA_n, rdA_n, wrA_l, rdA_l, gK_sI, gR_sI, gX_sI, gN_sI, gK_cp, gR_cp, gX_cp, gN_cp, rtZ_0, rtZ_1, if_true, reduceIte, and_self, true_and, and_true, K131])
  · refine both_ref I0 (r := -1) (by simp [f_Tc_crates, hc0, hc1]) ?_
    have hc2 : (99 : Int32) < v := by rw [fa_lt]; rw [fa_le] at hc1; omega
    have e : ∀ h, f_Mo_isIn (b + 131) v 1 99 h = some (0, h) := fun h => by unfold f_Mo_isIn; rw [if_neg hc0, if_pos hc2, rtZ_0]
    simp [f_Mo_crates, e, ↓ob_eq, ob_so, ldI, ldR, ldO, stI, stZ, stR, isO, wrA_n, rdA_n, wrA_l, rdA_l, gK_sI, gR_sI, gX_sI, gN_sI, gK_cp, gR_cp, gX_cp, gN_cp, rtZ_0, rtZ_1, if_true, reduceIte, and_self, true_and, and_true, K131]
