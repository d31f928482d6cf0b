theorem op_suspects (b : Nat) : B_suspects (Inv b) b (b + 131) := by
  intro h I v
  have I0 := I
  obtain ⟨s, cd, c_stat, c_realm, c_book, c_law, c_kin, c_shi, c_roa, c_ord, c_han, c_wei, c_bag, c_pri, c_cnt, c_led, c_yea, c_log, c_rdr, c_msc, c_img⟩ := I
  have K0 : gK h b = (0, 8) := s.K 0 (by decide) rfl
  have K1 : gK h (b + 1) = (0, 1) := s.K 1 (by decide) rfl
  have K25 : gK h (b + 25) = (0, 7) := s.K 25 (by decide) rfl
  have K32 : gK h (b + 32) = (0, 6) := s.K 32 (by decide) rfl
  have K33 : gK h (b + 33) = (1, 10) := s.K 33 (by decide) rfl
  have K34 : gK h (b + 34) = (0, 6) := s.K 34 (by decide) rfl
  have K35 : gK h (b + 35) = (1, 12) := s.K 35 (by decide) rfl
  have K124 : gK h (b + 124) = (0, 0) := s.K 124 (by decide) rfl
  have K131 : gK h (b + 131) = (0, 9) := s.K 131 (by decide) rfl
  have K163 : gK h (b + 163) = (1, 10) := s.K 163 (by decide) rfl
  have K164 : gK h (b + 164) = (1, 6) := s.K 164 (by decide) rfl
  have K165 : gK h (b + 165) = (1, 6) := s.K 165 (by decide) rfl
  have R0_0 : gR h b 0 = some (b + 1) := s.R 0 0 rfl
  have R0_4 : gR h b 4 = some (b + 124) := s.R 0 4 rfl
  have R1_6 : gR h (b + 1) 6 = some (b + 25) := s.R 1 6 rfl
  have R25_3 : gR h (b + 25) 3 = some (b + 32) := s.R 25 3 rfl
  have R25_4 : gR h (b + 25) 4 = some (b + 34) := s.R 25 4 rfl
  have R32_1 : gR h (b + 32) 1 = some (b + 33) := s.R 32 1 rfl
  have R34_1 : gR h (b + 34) 1 = some (b + 35) := s.R 34 1 rfl
  have R131_57 : gR h (b + 131) 57 = some (b + 163) := s.R 131 57 rfl
  have R131_58 : gR h (b + 131) 58 = some (b + 164) := s.R 131 58 rfl
  have R131_59 : gR h (b + 131) 59 = some (b + 165) := s.R 131 59 rfl
  obtain ⟨⟨n, hn, ⟨W, N2⟩, MM, LL⟩, m, hm, ⟨W', N2'⟩, MM', LL'⟩ := c_bag
  have hnb : (gI h (b + 131) 55).toNatClampNeg = n := by rw [MM, tn_nI (by omega)]
  rw [hnb] at LL'
  obtain ⟨X, hX⟩ : ∃ X : Nat → Nat, ∀ l, X l = (gI h (b + 33) l).toNatClampNeg := ⟨_, fun l => rfl⟩
  obtain ⟨S, hS⟩ : ∃ S : Nat → Nat, ∀ l, S l = (gI h (b + 35) (2 * l)).toNatClampNeg := ⟨_, fun l => rfl⟩
  obtain ⟨Y, hY⟩ : ∃ Y : Nat → Nat, ∀ l, Y l = (gI h (b + 35) (2 * l + 1)).toNatClampNeg := ⟨_, fun l => rfl⟩
  have p1024 : 2 ^ n ≤ 1024 := by
    have : 2 ^ n ≤ 2 ^ 10 := Nat.pow_le_pow_right (by decide) hn
    omega
  have D : ∀ l, l < n → X l ≤ 99 ∧ gI h (b + 33) l = nI (X l) ∧ gI h (b + 163) l = nI (X l) := fun l hl => by
    obtain ⟨x, a1, a2, a3, a4⟩ := LL l hl
    rw [hX, a3, a4, tn_nI (by omega)]
    exact ⟨a2, rfl, rfl⟩
  have D' : ∀ l, l < m → S l < 2 ^ n ∧ Y l ≤ 9999 ∧ gI h (b + 35) (2 * l) = nI (S l) ∧ gI h (b + 164) l = nI (S l) ∧ gI h (b + 35) (2 * l + 1) = nI (Y l) ∧ gI h (b + 165) l = nI (Y l) := fun l hl => by
    obtain ⟨x, y, a1, a2, a3, a4, a5, a6⟩ := LL' l hl
    rw [hS, hY, a3, a4, a5, a6, tn_nI (by omega), tn_nI (by omega)]
    exact ⟨a1, a2, rfl, rfl, rfl, rfl⟩
  have gb : ∀ l, l < n → f_Row_get (b + 32) (nI l) 0 h = some (nI (X l), h) := fun l hl => by
    have := row_get (w := 1) (l := l) (i := 0) K32 R32_1 K33 W N2 hl (by omega) (by omega) (by omega) (by omega)
    rw [Nat.mul_one] at this
    have this : f_Row_get (b + 32) (nI l) 0 h = some (gI h (b + 33) l, h) := this
    rw [(D l hl).2.1] at this
    exact this
  have gs : ∀ l, l < m → f_Row_get (b + 34) (nI l) 0 h = some (nI (S l), h) := fun l hl => by
    have := row_get (w := 2) (l := l) (i := 0) K34 R34_1 K35 W' N2' hl (by omega) (by omega) (by omega) (by omega)
    rw [Nat.mul_comm l 2] at this
    have this : f_Row_get (b + 34) (nI l) 0 h = some (gI h (b + 35) (2 * l), h) := this
    rw [(D' l hl).2.2.1] at this
    exact this
  have gy : ∀ l, l < m → f_Row_get (b + 34) (nI l) 1 h = some (nI (Y l), h) := fun l hl => by
    have := row_get (w := 2) (l := l) (i := 1) K34 R34_1 K35 W' N2' hl (by omega) (by omega) (by omega) (by omega)
    rw [Nat.mul_comm l 2] at this
    have this : f_Row_get (b + 34) (nI l) 1 h = some (gI h (b + 35) (2 * l + 1), h) := this
    rw [(D' l hl).2.2.2.2.1] at this
    exact this
  have c45 : ∀ (k2 : Nat → Int32 → Int32 → PH → Option (Int32 × PH)) t k i, k < m → i ≤ 7 → f_Desk_isAllowed_45 k2 FU (b + 25) (nI t) (nI k) (nI (S k)) (nI i) 0 h = if wsm X n (S k) i = Y k then k2 (b + 25) (nI t) (nI (k + 1)) h else some (0, h) := fun k2 t k i hk hi => by
    have dk := D' k hk
    refine (lp0 (fun N (s : Nat) o => f_Desk_isAllowed_45 k2 N (b + 25) (nI t) (nI k) (nI (S k)) (nI s) (nI o) h) (fun o a => if (S k).testBit o then a + X o else a) n (fun s => if nI s = nI (Y k) then k2 (b + 25) (nI t) (nI (k + 1)) h else some (0, h)) i FU (by rw [FU_eq]; omega) (fun N o s ho => ?_) (fun N s => ?_)).trans ?_
    · have e2 : ¬ n ≤ o := by omega
      rw [f_Desk_isAllowed_45]
      by_cases q : (S k).testBit o = true
      · have hb : jshr (nI (S k)) (nI o) &&& 1 = 1 := (jbit1 (by omega) (by omega)).mpr q
        simp (disch := omega) [f_Desk_isAllowed_84, ↓ob_eq, ob_so, ldI, ldR, ldO, stI, stZ, stR, isO, wrA_n, rdA_n, wrA_l, rdA_l, gK_sI, gR_sI, gX_sI, gN_sI, gK_cp, gR_cp, gX_cp, gN_cp, rtZ_0, rtZ_1, if_true, reduceIte, and_self, true_and, and_true, K25, R25_3, K32, N2, e2, hb, q, gb o ho, nI_le', nI_addL, nI_add]
      · have hb : ¬ jshr (nI (S k)) (nI o) &&& 1 = 1 := fun e => q ((jbit1 (by omega) (by omega)).mp e)
        simp (disch := omega) [f_Desk_isAllowed_84, ↓ob_eq, ob_so, ldI, ldR, ldO, stI, stZ, stR, isO, wrA_n, rdA_n, wrA_l, rdA_l, gK_sI, gR_sI, gX_sI, gN_sI, gK_cp, gR_cp, gX_cp, gN_cp, rtZ_0, rtZ_1, if_true, reduceIte, and_self, true_and, and_true, K25, R25_3, K32, N2, e2, hb, q, nI_le', nI_addL, Int32.add_zero]
    · rw [f_Desk_isAllowed_45]
      by_cases q : nI s = nI (Y k)
      · simp (disch := omega) [↓ob_eq, ob_so, ldI, ldR, ldO, stI, stZ, stR, isO, wrA_n, rdA_n, wrA_l, rdA_l, gK_sI, gR_sI, gX_sI, gN_sI, gK_cp, gR_cp, gX_cp, gN_cp, rtZ_0, rtZ_1, if_true, reduceIte, and_self, true_and, and_true, K25, R25_3, R25_4, K32, K34, N2, gy k hk, q, nI_le', nI_addL]
      · simp (disch := omega) [↓ob_eq, ob_so, ldI, ldR, ldO, stI, stZ, stR, isO, wrA_n, rdA_n, wrA_l, rdA_l, gK_sI, gR_sI, gX_sI, gN_sI, gK_cp, gR_cp, gX_cp, gN_cp, rtZ_0, rtZ_1, if_true, reduceIte, and_self, true_and, and_true, K25, R25_3, R25_4, K32, K34, N2, gy k hk, q, nI_le', nI_addL]
    · have hw := wsm_le (X := X) (n := n) (s := S k) (i := i) (fun o ho => (D o ho).1) hn hi
      have e : (nI (wsm X n (S k) i) = nI (Y k)) ↔ wsm X n (S k) i = Y k := nI_eq (by omega) (by omega)
      show (if nI (wsm X n (S k) i) = nI (Y k) then _ else _) = _
      by_cases q : wsm X n (S k) i = Y k
      · rw [if_pos (e.mpr q), if_pos q]
      · rw [if_neg (fun z => q (e.mp z)), if_neg q]
  have cal : ∀ t, t < n → f_Desk_isAllowed (b + 124) (b + 25) (nI t) h = some (alw X S Y n m t, h) := fun t ht => by
    have st : ∀ N k, k < m → f_Desk_isAllowed_2 (N + 1) (b + 25) (nI t) (nI k) h = if wsm X n (S k) (if (S k).testBit t then 7 else 0) = Y k then f_Desk_isAllowed_2 N (b + 25) (nI t) (nI (k + 1)) h else some (0, h) := fun N k hk => by
      have dk := D' k hk
      have e2 : ¬ m ≤ k := by omega
      by_cases q : (S k).testBit t = true
      · have hb : jshr (nI (S k)) (nI t) &&& 1 = 1 := (jbit1 (by omega) (by omega)).mpr q
        have main : f_Desk_isAllowed_2 (N + 1) (b + 25) (nI t) (nI k) h = f_Desk_isAllowed_45 (fun a1 x2 x3 h => f_Desk_isAllowed_2 N a1 x2 x3 h) FU (b + 25) (nI t) (nI k) (nI (S k)) 7 0 h := by
          rw [f_Desk_isAllowed_2]
          simp (disch := omega) only [f_Desk_isAllowed_40, ↓ob_eq, ob_so, ldI, ldR, ldO, stI, stZ, stR, isO, wrA_n, rdA_n, wrA_l, rdA_l, gK_sI, gR_sI, gX_sI, gN_sI, gK_cp, gR_cp, gX_cp, gN_cp, rtZ_0, rtZ_1, if_true, reduceIte, and_self, true_and, and_true, K25, R25_4, K34, N2', e2, hb, gs k hk, nI_le', if_false]
        have c := c45 (fun a1 x2 x3 h => f_Desk_isAllowed_2 N a1 x2 x3 h) t k 7 hk (by omega)
        rw [if_pos q]
        exact main.trans c
      · have hb : ¬ jshr (nI (S k)) (nI t) &&& 1 = 1 := fun e => q ((jbit1 (by omega) (by omega)).mp e)
        have main : f_Desk_isAllowed_2 (N + 1) (b + 25) (nI t) (nI k) h = f_Desk_isAllowed_45 (fun a1 x2 x3 h => f_Desk_isAllowed_2 N a1 x2 x3 h) FU (b + 25) (nI t) (nI k) (nI (S k)) 0 0 h := by
          rw [f_Desk_isAllowed_2]
          simp (disch := omega) only [f_Desk_isAllowed_40, ↓ob_eq, ob_so, ldI, ldR, ldO, stI, stZ, stR, isO, wrA_n, rdA_n, wrA_l, rdA_l, gK_sI, gR_sI, gX_sI, gN_sI, gK_cp, gR_cp, gX_cp, gN_cp, rtZ_0, rtZ_1, if_true, reduceIte, and_self, true_and, and_true, K25, R25_4, K34, N2', e2, hb, gs k hk, nI_le', if_false]
        have c := c45 (fun a1 x2 x3 h => f_Desk_isAllowed_2 N a1 x2 x3 h) t k 0 hk (by omega)
        rw [nI_0] at c
        rw [if_neg q]
        exact main.trans c
    have a1 := lpx0 (fun N (_ : Unit) k => f_Desk_isAllowed_2 N (b + 25) (nI t) (nI k) h) (fun k (_ : Unit) => decide (wsm X n (S k) (if (S k).testBit t then 7 else 0) ≠ Y k)) (fun _ _ => some ((0 : Int32), h)) (fun _ s => s) m (fun _ => some ((1 : Int32), h)) () FU (by rw [FU_eq]; omega) (fun N k _ hk w => by
        have w := of_decide_eq_true w
        show f_Desk_isAllowed_2 (N + 1) (b + 25) (nI t) (nI k) h = some ((0 : Int32), h)
        rw [st N k hk, if_neg w]) (fun N k _ hk w => by
        have w := of_decide_eq_false w
        show f_Desk_isAllowed_2 (N + 1) (b + 25) (nI t) (nI k) h = f_Desk_isAllowed_2 N (b + 25) (nI t) (nI (k + 1)) h
        rw [st N k hk, if_pos (Decidable.not_not.mp w)]) (fun N _ => by
        show f_Desk_isAllowed_2 (N + 1) (b + 25) (nI t) (nI m) h = some ((1 : Int32), h)
        rw [f_Desk_isAllowed_2]
        simp (disch := omega) [↓ob_eq, ob_so, ldI, ldR, ldO, stI, stZ, stR, isO, wrA_n, rdA_n, wrA_l, rdA_l, gK_sI, gR_sI, gX_sI, gN_sI, gK_cp, gR_cp, gX_cp, gN_cp, rtZ_0, rtZ_1, if_true, reduceIte, and_self, true_and, and_true, K25, R25_4, K34, N2', nI_le'])
    refine a1.trans ?_
    exact fox_via (fun r q => r = some (q, h)) m 0 () (fun _ _ _ _ => rfl) (fun _ => rfl)
  obtain ⟨A, hA⟩ : ∃ A, A = bs n (fun t => !(alw X S Y n m t == 0)) := ⟨_, rfl⟩
  have A1 : A < 2 ^ n := by rw [hA]; exact bs_lt _ _
  have cset : f_Desk_suspectSet (b + 124) (b + 25) h = some (nI A, h) := by
    have key := lp (fun N (s : Int32) i => f_Desk_suspectSet_4 N (b + 124) (b + 25) s (nI i) h) (fun i s => if alw X S Y n m i = 0 then s else s ||| jshl 1 (nI i)) (fun i s => s = nI (bs i (fun t => !(alw X S Y n m t == 0)))) n (fun s => some (s, h))
      (fun N i s hi _ => by
        have e2 : ¬ n ≤ i := by omega
        rw [f_Desk_suspectSet_4]
        by_cases q : alw X S Y n m i = 0
        · simp (disch := omega) [↓ob_eq, ob_so, ldI, ldR, ldO, stI, stZ, stR, isO, wrA_n, rdA_n, wrA_l, rdA_l, gK_sI, gR_sI, gX_sI, gN_sI, gK_cp, gR_cp, gX_cp, gN_cp, rtZ_0, rtZ_1, if_true, reduceIte, and_self, true_and, and_true, K25, R25_3, K32, K124, N2, e2, cal i hi, q, nI_le', nI_addL]
        · simp (disch := omega) [↓ob_eq, ob_so, ldI, ldR, ldO, stI, stZ, stR, isO, wrA_n, rdA_n, wrA_l, rdA_l, gK_sI, gR_sI, gX_sI, gN_sI, gK_cp, gR_cp, gX_cp, gN_cp, rtZ_0, rtZ_1, if_true, reduceIte, and_self, true_and, and_true, K25, R25_3, K32, K124, N2, e2, cal i hi, q, nI_le', nI_addL])
      (fun i s hi q => by
        subst q
        by_cases q : alw X S Y n m i = 0
        · rw [if_pos q, bs_no (fun t => !(alw X S Y n m t == 0)) i (by simp [q])]
        · rw [if_neg q, jshl1 i (by omega), fa_or, bs_or (fun t => !(alw X S Y n m t == 0)) i (by simp [q])])
      (fun N s q => by
        rw [f_Desk_suspectSet_4]
        simp (disch := omega) [↓ob_eq, ob_so, ldI, ldR, ldO, stI, stZ, stR, isO, wrA_n, rdA_n, wrA_l, rdA_l, gK_sI, gR_sI, gX_sI, gN_sI, gK_cp, gR_cp, gX_cp, gN_cp, rtZ_0, rtZ_1, if_true, reduceIte, and_self, true_and, and_true, K25, R25_3, K32, N2, nI_le'])
      n 0 0 FU (by omega) rfl (by rw [FU_eq]; omega)
    have k1 := key.1
    rw [key.2, ← hA] at k1
    exact k1
  -- the reference
  obtain ⟨g, hg⟩ : ∃ g, g = sI h (b + 131) 0 0 := ⟨_, rfl⟩
  have K : gK g (b + 131) = (0, 9) := by rw [hg]; exact K131
  have q163 : gK g (b + 163) = (1, 10) := by rw [hg]; exact K163
  have q164 : gK g (b + 164) = (1, 6) := by rw [hg]; exact K164
  have q165 : gK g (b + 165) = (1, 6) := by rw [hg]; exact K165
  have p57 : gR g (b + 131) 57 = some (b + 163) := by rw [hg]; exact R131_57
  have p58 : gR g (b + 131) 58 = some (b + 164) := by rw [hg]; exact R131_58
  have p59 : gR g (b + 131) 59 = some (b + 165) := by rw [hg]; exact R131_59
  have M55 : gI g (b + 131) 55 = nI n := by rw [hg]; simp (disch := omega) only [gI_q, gI_n1, gI_n2]; exact MM
  have M56 : gI g (b + 131) 56 = nI m := by rw [hg]; simp (disch := omega) only [gI_q, gI_n1, gI_n2]; exact MM'
  have d163 : ∀ l, l < n → gI g (b + 163) l = nI (X l) := fun l hl => by rw [hg]; simp (disch := omega) only [gI_q, gI_n1, gI_n2]; exact (D l hl).2.2
  have d164 : ∀ l, l < m → gI g (b + 164) l = nI (S l) := fun l hl => by rw [hg]; simp (disch := omega) only [gI_q, gI_n1, gI_n2]; exact (D' l hl).2.2.2.1
  have d165 : ∀ l, l < m → gI g (b + 165) l = nI (Y l) := fun l hl => by rw [hg]; simp (disch := omega) only [gI_q, gI_n1, gI_n2]; exact (D' l hl).2.2.2.2.2
  have c34 : ∀ (k2 : Nat → Int32 → Int32 → PH → Option (Int32 × PH)) t k i, k < m → i ≤ 7 → f_Mo_isSuspect_34 k2 FU (b + 131) (nI t) (nI k) (nI i) 0 g = if wsm X n (S k) i = Y k then k2 (b + 131) (nI t) (nI (k + 1)) g else some (0, g) := fun k2 t k i hk hi => by
    have dk := D' k hk
    have k6 : k < 6 := by omega
    refine (lp0 (fun N (s : Nat) o => f_Mo_isSuspect_34 k2 N (b + 131) (nI t) (nI k) (nI s) (nI o) g) (fun o a => if (S k).testBit o then a + X o else a) n (fun s => if nI s = nI (Y k) then k2 (b + 131) (nI t) (nI (k + 1)) g else some (0, g)) i FU (by rw [FU_eq]; omega) (fun N o s ho => ?_) (fun N s => ?_)).trans ?_
    · have e2 : ¬ n ≤ o := by omega
      have e3 : o < 10 := by omega
      have hh := mo_has (a := b + 131) (n := S k) (k := o) (h := g) (by omega) (by omega)
      rw [f_Mo_isSuspect_34]
      by_cases q : (S k).testBit o = true
      · rw [if_pos q] at hh
        simp (disch := omega) [↓ob_eq, ob_so, ldI, ldR, ldO, stI, stZ, stR, isO, wrA_n, rdA_n, wrA_l, rdA_l, gK_sI, gR_sI, gX_sI, gN_sI, gK_cp, gR_cp, gX_cp, gN_cp, rtZ_0, rtZ_1, if_true, reduceIte, and_self, true_and, and_true, K, M55, p57, p58, q163, q164, k6, e2, e3, d163 o ho, d164 k hk, hh, q, nI_le', nI_addL, nI_add]
      · rw [if_neg q] at hh
        simp (disch := omega) [↓ob_eq, ob_so, ldI, ldR, ldO, stI, stZ, stR, isO, wrA_n, rdA_n, wrA_l, rdA_l, gK_sI, gR_sI, gX_sI, gN_sI, gK_cp, gR_cp, gX_cp, gN_cp, rtZ_0, rtZ_1, if_true, reduceIte, and_self, true_and, and_true, K, M55, p57, p58, q163, q164, k6, e2, e3, d164 k hk, hh, q, nI_le', nI_addL]
    · rw [f_Mo_isSuspect_34]
      by_cases q : nI s = nI (Y k)
      · simp (disch := omega) [↓ob_eq, ob_so, ldI, ldR, ldO, stI, stZ, stR, isO, wrA_n, rdA_n, wrA_l, rdA_l, gK_sI, gR_sI, gX_sI, gN_sI, gK_cp, gR_cp, gX_cp, gN_cp, rtZ_0, rtZ_1, if_true, reduceIte, and_self, true_and, and_true, K, M55, p59, q165, k6, d165 k hk, q, nI_le', nI_addL]
      · simp (disch := omega) [↓ob_eq, ob_so, ldI, ldR, ldO, stI, stZ, stR, isO, wrA_n, rdA_n, wrA_l, rdA_l, gK_sI, gR_sI, gX_sI, gN_sI, gK_cp, gR_cp, gX_cp, gN_cp, rtZ_0, rtZ_1, if_true, reduceIte, and_self, true_and, and_true, K, M55, p59, q165, k6, d165 k hk, q, nI_le', nI_addL]
    · have hw := wsm_le (X := X) (n := n) (s := S k) (i := i) (fun o ho => (D o ho).1) hn hi
      have e : (nI (wsm X n (S k) i) = nI (Y k)) ↔ wsm X n (S k) i = Y k := nI_eq (by omega) (by omega)
      show (if nI (wsm X n (S k) i) = nI (Y k) then _ else _) = _
      by_cases q : wsm X n (S k) i = Y k
      · rw [if_pos (e.mpr q), if_pos q]
      · rw [if_neg (fun z => q (e.mp z)), if_neg q]
  have ral : ∀ t, t < n → f_Mo_isSuspect (b + 131) (nI t) g = some (alw X S Y n m t, g) := fun t ht => by
    have st : ∀ N k, k < m → f_Mo_isSuspect_2 (N + 1) (b + 131) (nI t) (nI k) g = if wsm X n (S k) (if (S k).testBit t then 7 else 0) = Y k then f_Mo_isSuspect_2 N (b + 131) (nI t) (nI (k + 1)) g else some (0, g) := fun N k hk => by
      have dk := D' k hk
      have k6 : k < 6 := by omega
      have e2 : ¬ m ≤ k := by omega
      have e10 : ¬ (1 : Int32) = 0 := by decide
      have hh := mo_has (a := b + 131) (n := S k) (k := t) (h := g) (by omega) (by omega)
      by_cases q : (S k).testBit t = true
      · rw [if_pos q] at hh
        have main : f_Mo_isSuspect_2 (N + 1) (b + 131) (nI t) (nI k) g = f_Mo_isSuspect_34 (fun a0 x1 x2 h => f_Mo_isSuspect_2 N a0 x1 x2 h) FU (b + 131) (nI t) (nI k) 7 0 g := by
          rw [f_Mo_isSuspect_2]
          simp (disch := omega) only [f_Mo_isSuspect_30, ↓ob_eq, ob_so, ldI, ldR, ldO, stI, stZ, stR, isO, wrA_n, rdA_n, wrA_l, rdA_l, gK_sI, gR_sI, gX_sI, gN_sI, gK_cp, gR_cp, gX_cp, gN_cp, rtZ_0, rtZ_1, if_true, reduceIte, and_self, true_and, and_true, K, M56, p58, q164, k6, d164 k hk, hh, e2, e10, nI_le', if_false]
        have c := c34 (fun a0 x1 x2 h => f_Mo_isSuspect_2 N a0 x1 x2 h) t k 7 hk (by omega)
        rw [if_pos q]
        exact main.trans c
      · rw [if_neg q] at hh
        have main : f_Mo_isSuspect_2 (N + 1) (b + 131) (nI t) (nI k) g = f_Mo_isSuspect_34 (fun a0 x1 x2 h => f_Mo_isSuspect_2 N a0 x1 x2 h) FU (b + 131) (nI t) (nI k) 0 0 g := by
          rw [f_Mo_isSuspect_2]
          simp (disch := omega) only [f_Mo_isSuspect_30, ↓ob_eq, ob_so, ldI, ldR, ldO, stI, stZ, stR, isO, wrA_n, rdA_n, wrA_l, rdA_l, gK_sI, gR_sI, gX_sI, gN_sI, gK_cp, gR_cp, gX_cp, gN_cp, rtZ_0, rtZ_1, if_true, reduceIte, and_self, true_and, and_true, K, M56, p58, q164, k6, d164 k hk, hh, e2, nI_le', if_false]
        have c := c34 (fun a0 x1 x2 h => f_Mo_isSuspect_2 N a0 x1 x2 h) t k 0 hk (by omega)
        rw [nI_0] at c
        rw [if_neg q]
        exact main.trans c
    have a1 := lpx0 (fun N (_ : Unit) k => f_Mo_isSuspect_2 N (b + 131) (nI t) (nI k) g) (fun k (_ : Unit) => decide (wsm X n (S k) (if (S k).testBit t then 7 else 0) ≠ Y k)) (fun _ _ => some ((0 : Int32), g)) (fun _ s => s) m (fun _ => some ((1 : Int32), g)) () FU (by rw [FU_eq]; omega) (fun N k _ hk w => by
        have w := of_decide_eq_true w
        show f_Mo_isSuspect_2 (N + 1) (b + 131) (nI t) (nI k) g = some ((0 : Int32), g)
        rw [st N k hk, if_neg w]) (fun N k _ hk w => by
        have w := of_decide_eq_false w
        show f_Mo_isSuspect_2 (N + 1) (b + 131) (nI t) (nI k) g = f_Mo_isSuspect_2 N (b + 131) (nI t) (nI (k + 1)) g
        rw [st N k hk, if_pos (Decidable.not_not.mp w)]) (fun N _ => by
        show f_Mo_isSuspect_2 (N + 1) (b + 131) (nI t) (nI m) g = some ((1 : Int32), g)
        rw [f_Mo_isSuspect_2]
        simp (disch := omega) [↓ob_eq, ob_so, ldI, ldR, ldO, stI, stZ, stR, isO, wrA_n, rdA_n, wrA_l, rdA_l, gK_sI, gR_sI, gX_sI, gN_sI, gK_cp, gR_cp, gX_cp, gN_cp, rtZ_0, rtZ_1, if_true, reduceIte, and_self, true_and, and_true, K, M56, nI_le'])
    refine a1.trans ?_
    exact fox_via (fun r q => r = some (q, g)) m 0 () (fun _ _ _ _ => rfl) (fun _ => rfl)
  have rset : f_Mo_suspectSet (b + 131) g = some (nI A, g) := by
    have key := lp (fun N (s : Int32) i => f_Mo_suspectSet_4 N (b + 131) s (nI i) g) (fun i s => if alw X S Y n m i = 0 then s else s ||| jshl 1 (nI i)) (fun i s => s = nI (bs i (fun t => !(alw X S Y n m t == 0)))) n (fun s => some (s, g))
      (fun N i s hi _ => by
        have e2 : ¬ n ≤ i := by omega
        rw [f_Mo_suspectSet_4]
        by_cases q : alw X S Y n m i = 0
        · simp (disch := omega) [↓ob_eq, ob_so, ldI, ldR, ldO, stI, stZ, stR, isO, wrA_n, rdA_n, wrA_l, rdA_l, gK_sI, gR_sI, gX_sI, gN_sI, gK_cp, gR_cp, gX_cp, gN_cp, rtZ_0, rtZ_1, if_true, reduceIte, and_self, true_and, and_true, K, M55, e2, ral i hi, q, nI_le', nI_addL]
        · simp (disch := omega) [↓ob_eq, ob_so, ldI, ldR, ldO, stI, stZ, stR, isO, wrA_n, rdA_n, wrA_l, rdA_l, gK_sI, gR_sI, gX_sI, gN_sI, gK_cp, gR_cp, gX_cp, gN_cp, rtZ_0, rtZ_1, if_true, reduceIte, and_self, true_and, and_true, K, M55, e2, ral i hi, q, nI_le', nI_addL])
      (fun i s hi q => by
        subst q
        by_cases q : alw X S Y n m i = 0
        · rw [if_pos q, bs_no (fun t => !(alw X S Y n m t == 0)) i (by simp [q])]
        · rw [if_neg q, jshl1 i (by omega), fa_or, bs_or (fun t => !(alw X S Y n m t == 0)) i (by simp [q])])
      (fun N s q => by
        rw [f_Mo_suspectSet_4]
        simp (disch := omega) [↓ob_eq, ob_so, ldI, ldR, ldO, stI, stZ, stR, isO, wrA_n, rdA_n, wrA_l, rdA_l, gK_sI, gR_sI, gX_sI, gN_sI, gK_cp, gR_cp, gX_cp, gN_cp, rtZ_0, rtZ_1, if_true, reduceIte, and_self, true_and, and_true, K, M55, nI_le'])
      n 0 0 FU (by omega) rfl (by rw [FU_eq]; omega)
    have k1 := key.1
    rw [key.2, ← hA] at k1
    exact k1
  have hA1 : A < 1024 := by omega
  have hand : ∀ i, i < 2 ^ n → A &&& i < 1024 := fun i hi => Nat.lt_of_le_of_lt Nat.and_le_right (by omega)
  have hxor : ∀ i, A ^^^ (A &&& i) < 1024 := fun i => Nat.xor_lt_two_pow (n := 10) hA1 (Nat.lt_of_le_of_lt Nat.and_le_left hA1)
  have anx : ∀ i, nI A &&& (nI i ^^^ (-1)) = nI (A ^^^ (A &&& i)) := fun i => by rw [andnot, fa_and, nI_xor]
  have anx' : ∀ i, nI A &&& ~~~(nI i) = nI (A ^^^ (A &&& i)) := fun i => by
    rw [← anx i]
    congr 1
    simp
  have sh : jshl 1 (nI n) = nI (2 ^ n) := jshl1 n (by omega)
  have M20 : ∀ i, mst A i ≤ 10 := fun i => Nat.max_le.mpr ⟨pc_le _, pc_le _⟩
  have jm : ∀ i, jmax (nI (pc (A &&& i))) (nI (pc (A ^^^ (A &&& i)))) = nI (mst A i) := fun i => by
    have a1 := pc_le (A &&& i)
    have a2 := pc_le (A ^^^ (A &&& i))
    exact jmaxN (by omega) (by omega)
  have gm : ∀ i, f_Mo_greater (b + 131) (nI (pc (A &&& i))) (nI (pc (A ^^^ (A &&& i)))) g = some (nI (mst A i), g) := fun i => by
    have a1 := pc_le (A &&& i)
    have a2 := pc_le (A ^^^ (A &&& i))
    rw [iI_nat, iI_nat, mo_greater (by omega) (by omega) (by omega) (by omega)]
    have : (max (pc (A &&& i) : Int) (pc (A ^^^ (A &&& i)) : Int)) = ((mst A i : Nat) : Int) := by
      unfold mst
      have e : Nat.max (pc (A &&& i)) (pc (A ^^^ (A &&& i))) = max (pc (A &&& i)) (pc (A ^^^ (A &&& i))) := rfl
      rw [e]
      omega
    rw [this]
    rfl
  have cn : f_Desk_nextSet_19 FU (nI A) (nI n) (-1) 1000000 0 h = some ((fo (sp1 A) 0 (2 ^ n) (-1, 1000000)).1, h) := by
    refine (lp (fun N (s : Int32 × Nat) i => f_Desk_nextSet_19 N (nI A) (nI n) s.1 (nI s.2) (nI i) h) (sp1 A) (fun _ s => s.2 ≤ 1000000) (2 ^ n) (fun s => some (s.1, h)) (fun N i s hi hs => ?_) (fun i s hi hs => ?_) (fun N s _ => ?_) (2 ^ n) 0 (-1, 1000000) FU (by omega) (Nat.le_refl _) (by rw [FU_eq]; omega)).1
    · have e2 : ¬ 2 ^ n ≤ i := by omega
      have hm := M20 i
      have hp := pc_le i
      have b1 := bitc (n := i) (by omega) h
      have b2 := bitc (n := A &&& i) (hand i hi) h
      have b3 := bitc (n := A ^^^ (A &&& i)) (hxor i) h
      rw [f_Desk_nextSet_19]
      unfold sp1
      by_cases q2 : pc i = 2
      · by_cases q3 : mst A i * 4 + 2 < s.2
        · have q4 : ¬ s.2 ≤ mst A i * 4 + 2 := by omega
          simp (disch := omega) [f_Desk_nextSet_80, ↓ob_eq, ob_so, ldI, ldR, ldO, stI, stZ, stR, isO, wrA_n, rdA_n, wrA_l, rdA_l, gK_sI, gR_sI, gX_sI, gN_sI, gK_cp, gR_cp, gX_cp, gN_cp, rtZ_0, rtZ_1, if_true, reduceIte, and_self, true_and, and_true, sh, e2, b1, b2, b3, fa_and, anx', jm, q2, q3, q4, nI_le', nI_leL, L_len, nI_eqL, nI_mulL, nI_addL, nI_add]
        · have q4 : s.2 ≤ mst A i * 4 + 2 := by omega
          simp (disch := omega) [f_Desk_nextSet_80, ↓ob_eq, ob_so, ldI, ldR, ldO, stI, stZ, stR, isO, wrA_n, rdA_n, wrA_l, rdA_l, gK_sI, gR_sI, gX_sI, gN_sI, gK_cp, gR_cp, gX_cp, gN_cp, rtZ_0, rtZ_1, if_true, reduceIte, and_self, true_and, and_true, sh, e2, b1, b2, b3, fa_and, anx', jm, q2, q3, q4, nI_le', nI_leL, L_len, nI_eqL, nI_mulL, nI_addL, nI_add]
      · by_cases q5 : pc i = 3
        · by_cases q3 : mst A i * 4 + 3 < s.2
          · have q4 : ¬ s.2 ≤ mst A i * 4 + 3 := by omega
            simp (disch := omega) [f_Desk_nextSet_80, ↓ob_eq, ob_so, ldI, ldR, ldO, stI, stZ, stR, isO, wrA_n, rdA_n, wrA_l, rdA_l, gK_sI, gR_sI, gX_sI, gN_sI, gK_cp, gR_cp, gX_cp, gN_cp, rtZ_0, rtZ_1, if_true, reduceIte, and_self, true_and, and_true, sh, e2, b1, b2, b3, fa_and, anx', jm, q5, q3, q4, nI_le', nI_leL, L_len, nI_eqL, nI_mulL, nI_addL, nI_add]
          · have q4 : s.2 ≤ mst A i * 4 + 3 := by omega
            simp (disch := omega) [f_Desk_nextSet_80, ↓ob_eq, ob_so, ldI, ldR, ldO, stI, stZ, stR, isO, wrA_n, rdA_n, wrA_l, rdA_l, gK_sI, gR_sI, gX_sI, gN_sI, gK_cp, gR_cp, gX_cp, gN_cp, rtZ_0, rtZ_1, if_true, reduceIte, and_self, true_and, and_true, sh, e2, b1, b2, b3, fa_and, anx', jm, q5, q3, q4, nI_le', nI_leL, L_len, nI_eqL, nI_mulL, nI_addL, nI_add]
        · simp (disch := omega) [↓ob_eq, ob_so, ldI, ldR, ldO, stI, stZ, stR, isO, wrA_n, rdA_n, wrA_l, rdA_l, gK_sI, gR_sI, gX_sI, gN_sI, gK_cp, gR_cp, gX_cp, gN_cp, rtZ_0, rtZ_1, if_true, reduceIte, and_self, true_and, and_true, sh, e2, b1, b2, b3, fa_and, anx', jm, q2, q5, nI_le', nI_eqL, nI_addL]
    · have hm := M20 i
      have hp := pc_le i
      unfold sp1
      split
      · show mst A i * 4 + pc i ≤ _; omega
      · exact hs
    · rw [f_Desk_nextSet_19]
      simp (disch := omega) [sh, nI_le']
  have r58 : ∀ (k49 : Nat → Int32 → Int32 → Int32 → Int32 → PH → Option (Int32 × PH)) k (s : Int32 × Nat), k ≤ 10 → s.2 ≤ 100000000 → f_Mo_suspects_58 k49 FU (b + 131) (nI A) s.1 (nI s.2) (nI k) 0 g = k49 (b + 131) (nI A) (fo (sp2 A k) 0 (2 ^ n) s).1 (nI (fo (sp2 A k) 0 (2 ^ n) s).2) (nI (k + 1)) g ∧ (fo (sp2 A k) 0 (2 ^ n) s).2 ≤ 100000000 := fun k49 k s hk hs0 => by
    refine lp (fun N (s : Int32 × Nat) i => f_Mo_suspects_58 k49 N (b + 131) (nI A) s.1 (nI s.2) (nI k) (nI i) g) (sp2 A k) (fun _ s => s.2 ≤ 100000000) (2 ^ n) (fun s => k49 (b + 131) (nI A) s.1 (nI s.2) (nI (k + 1)) g) (fun N i s hi hs => ?_) (fun i s hi hs => ?_) (fun N s _ => ?_) (2 ^ n) 0 s FU (by omega) hs0 (by rw [FU_eq]; omega)
    · have e2 : ¬ 2 ^ n ≤ i := by omega
      have hm := M20 i
      have hp := pc_le i
      have b1 := ones (n := i) (by omega) (b + 131) g
      have b2 := ones (n := A &&& i) (hand i hi) (b + 131) g
      have b3 := ones (n := A ^^^ (A &&& i)) (hxor i) (b + 131) g
      have ls : f_Mo_lesser (b + 131) (nI s.2) (nI (mst A i)) g = some (nI (Nat.min s.2 (mst A i)), g) := by
        rw [iI_nat, iI_nat, mo_lesser (by omega) (by omega) (by omega) (by omega)]
        have : (min (s.2 : Int) (mst A i : Int)) = ((Nat.min s.2 (mst A i) : Nat) : Int) := by
          have e : Nat.min s.2 (mst A i) = min s.2 (mst A i) := rfl
          rw [e]
          omega
        rw [this]
        rfl
      rw [f_Mo_suspects_58]
      unfold sp2
      by_cases q2 : pc i = k
      · by_cases q3 : mst A i < s.2
        · have q4 : ¬ s.2 ≤ mst A i := by omega
          simp (disch := omega) [f_Mo_suspects_120, ↓ob_eq, ob_so, ldI, ldR, ldO, stI, stZ, stR, isO, wrA_n, rdA_n, wrA_l, rdA_l, gK_sI, gR_sI, gX_sI, gN_sI, gK_cp, gR_cp, gX_cp, gN_cp, rtZ_0, rtZ_1, if_true, reduceIte, and_self, true_and, and_true, K, M55, sh, e2, b1, b2, b3, fa_and, anx', gm, ls, q2, q3, q4, nI_le', nI_eq', nI_addL]
        · have q4 : s.2 ≤ mst A i := by omega
          simp (disch := omega) [f_Mo_suspects_120, ↓ob_eq, ob_so, ldI, ldR, ldO, stI, stZ, stR, isO, wrA_n, rdA_n, wrA_l, rdA_l, gK_sI, gR_sI, gX_sI, gN_sI, gK_cp, gR_cp, gX_cp, gN_cp, rtZ_0, rtZ_1, if_true, reduceIte, and_self, true_and, and_true, K, M55, sh, e2, b1, b2, b3, fa_and, anx', gm, ls, q2, q3, q4, nI_le', nI_eq', nI_addL]
      · simp (disch := omega) [↓ob_eq, ob_so, ldI, ldR, ldO, stI, stZ, stR, isO, wrA_n, rdA_n, wrA_l, rdA_l, gK_sI, gR_sI, gX_sI, gN_sI, gK_cp, gR_cp, gX_cp, gN_cp, rtZ_0, rtZ_1, if_true, reduceIte, and_self, true_and, and_true, K, M55, sh, e2, b1, q2, nI_le', nI_eq', nI_addL]
    · have hm := M20 i
      unfold sp2
      split
      · show Nat.min s.2 (mst A i) ≤ _
        exact Nat.le_trans (Nat.min_le_left _ _) hs
      · exact hs
    · rw [f_Mo_suspects_58]
      simp (disch := omega) [↓ob_eq, ob_so, ldI, ldR, ldO, stI, stZ, stR, isO, wrA_n, rdA_n, wrA_l, rdA_l, gK_sI, gR_sI, gX_sI, gN_sI, gK_cp, gR_cp, gX_cp, gN_cp, rtZ_0, rtZ_1, if_true, reduceIte, and_self, true_and, and_true, K, M55, sh, nI_le', nI_addL]
  have rn : f_Mo_suspects_49 FU (b + 131) (nI A) (-1) 100000000 2 g = some ((fo (sp2 A 3) 0 (2 ^ n) (fo (sp2 A 2) 0 (2 ^ n) (-1, 100000000))).1, g) := by
    obtain ⟨N, hN⟩ : ∃ N, FU = N + 3 := ⟨FU - 3, by have := FU_eq; omega⟩
    have a1 := r58 (fun a0 x2 x3 x4 x5 h => f_Mo_suspects_49 (N + 2) a0 x2 x3 x4 x5 h) 2 (-1, 100000000) (by omega) (Nat.le_refl _)
    have a2 := r58 (fun a0 x2 x3 x4 x5 h => f_Mo_suspects_49 (N + 1) a0 x2 x3 x4 x5 h) 3 (fo (sp2 A 2) 0 (2 ^ n) (-1, 100000000)) (by omega) a1.2
    have m1 : f_Mo_suspects_49 (N + 3) (b + 131) (nI A) (-1) 100000000 2 g = f_Mo_suspects_58 (fun a0 x2 x3 x4 x5 h => f_Mo_suspects_49 (N + 2) a0 x2 x3 x4 x5 h) FU (b + 131) (nI A) (-1) 100000000 2 0 g := by
      rw [f_Mo_suspects_49, if_neg (by decide)]
    have m2 : ∀ x y, f_Mo_suspects_49 (N + 2) (b + 131) (nI A) x y 3 g = f_Mo_suspects_58 (fun a0 x2 x3 x4 x5 h => f_Mo_suspects_49 (N + 1) a0 x2 x3 x4 x5 h) FU (b + 131) (nI A) x y 3 0 g := fun x y => by
      rw [f_Mo_suspects_49, if_neg (by decide)]
    have m3 : ∀ x y, f_Mo_suspects_49 (N + 1) (b + 131) (nI A) x y 4 g = some (x, g) := fun x y => by
      rw [f_Mo_suspects_49, if_pos (by decide)]
    have hF : f_Mo_suspects_49 FU (b + 131) (nI A) (-1) 100000000 2 g = f_Mo_suspects_49 (N + 3) (b + 131) (nI A) (-1) 100000000 2 g := by rw [← hN]
    exact hF.trans (m1.trans (a1.1.trans ((m2 _ _).trans (a2.1.trans (m3 _ _)))))
  have same : (fo (sp1 A) 0 (2 ^ n) (-1, 1000000)).1 = (fo (sp2 A 3) 0 (2 ^ n) (fo (sp2 A 2) 0 (2 ^ n) (-1, 100000000))).1 := by
    have l2 : (fo (sp2 A 2) 0 (2 ^ n) (-1, 100000000)).2 ≤ 100000000 := (r58 (fun _ _ _ _ _ h => none) 2 (-1, 100000000) (by omega) (Nat.le_refl _)).2
    rw [sp_one A (2 ^ n) _ _ _ rfl rfl rfl]
    have e : fo (sp2 A 2) 0 (2 ^ n) (-1, 100000000) = ((fo (sp2 A 2) 0 (2 ^ n) (-1, 100000000)).1, (fo (sp2 A 2) 0 (2 ^ n) (-1, 100000000)).2) := rfl
    exact (sp_two A (2 ^ n) _ _ l2).symm
  rcases in_cases v 1 1 rfl (by omega) with ⟨k, hk, rfl, w, i⟩ | ⟨w, i⟩
  · have hb := bitc hA1 h
    have ho := ones hA1 (b + 131) g
    have hp := pc_le A
    by_cases h0 : nI k = 0
    · have h0' : (nI k = 0) = True := eq_true h0
      refine both_ref I0 (r := nI A) (by simp [f_Tc_suspects, w, ↓ob_eq, ob_so, ldI, ldR, ldO, stI, stZ, stR, isO, wrA_n, rdA_n, wrA_l, rdA_l, gK_sI, gR_sI, gX_sI, gN_sI, gK_cp, gR_cp, gX_cp, gN_cp, rtZ_0, rtZ_1, if_true, reduceIte, and_self, true_and, and_true, K0, K1, K25, K124, R0_0, R0_4, R1_6, cset, h0']) ?_
      rw [← hg]
      simp [f_Mo_suspects, i, ↓ob_eq, ob_so, ldI, ldR, ldO, stI, stZ, stR, isO, wrA_n, rdA_n, wrA_l, rdA_l, gK_sI, gR_sI, gX_sI, gN_sI, gK_cp, gR_cp, gX_cp, gN_cp, rtZ_0, rtZ_1, if_true, reduceIte, and_self, true_and, and_true, K131, ← hg, K, rset, h0']
    · by_cases h2 : 2 ≤ pc A
      · refine both_ref I0 (r := (fo (sp1 A) 0 (2 ^ n) (-1, 1000000)).1) ?_ ?_
        · have nx : f_Desk_nextSet (b + 124) (nI A) (nI n) h = some ((fo (sp1 A) 0 (2 ^ n) (-1, 1000000)).1, h) := by
            simp (disch := omega) [f_Desk_nextSet, ↓ob_eq, ob_so, ldI, ldR, ldO, stI, stZ, stR, isO, wrA_n, rdA_n, wrA_l, rdA_l, gK_sI, gR_sI, gX_sI, gN_sI, gK_cp, gR_cp, gX_cp, gN_cp, rtZ_0, rtZ_1, if_true, reduceIte, and_self, true_and, and_true, hb, L_len, h2, cn]
          simp [f_Tc_suspects, w, ↓ob_eq, ob_so, ldI, ldR, ldO, stI, stZ, stR, isO, wrA_n, rdA_n, wrA_l, rdA_l, gK_sI, gR_sI, gX_sI, gN_sI, gK_cp, gR_cp, gX_cp, gN_cp, rtZ_0, rtZ_1, if_true, reduceIte, and_self, true_and, and_true, K0, K1, K25, K32, K124, R0_0, R0_4, R1_6, R25_3, N2, cset, h0, nx]
        · rw [← hg, same]
          simp (disch := omega) [f_Mo_suspects, i, ↓ob_eq, ob_so, ldI, ldR, ldO, stI, stZ, stR, isO, wrA_n, rdA_n, wrA_l, rdA_l, gK_sI, gR_sI, gX_sI, gN_sI, gK_cp, gR_cp, gX_cp, gN_cp, rtZ_0, rtZ_1, if_true, reduceIte, and_self, true_and, and_true, K131, ← hg, K, rset, h0, ho, L_len, h2, rn]
      · refine both_ref I0 (r := -1) ?_ ?_
        · have nx : f_Desk_nextSet (b + 124) (nI A) (nI n) h = some (-1, h) := by
            simp (disch := omega) [f_Desk_nextSet, ↓ob_eq, ob_so, ldI, ldR, ldO, stI, stZ, stR, isO, wrA_n, rdA_n, wrA_l, rdA_l, gK_sI, gR_sI, gX_sI, gN_sI, gK_cp, gR_cp, gX_cp, gN_cp, rtZ_0, rtZ_1, if_true, reduceIte, and_self, true_and, and_true, hb, L_len, h2]
          simp [f_Tc_suspects, w, ↓ob_eq, ob_so, ldI, ldR, ldO, stI, stZ, stR, isO, wrA_n, rdA_n, wrA_l, rdA_l, gK_sI, gR_sI, gX_sI, gN_sI, gK_cp, gR_cp, gX_cp, gN_cp, rtZ_0, rtZ_1, if_true, reduceIte, and_self, true_and, and_true, K0, K1, K25, K32, K124, R0_0, R0_4, R1_6, R25_3, N2, cset, h0, nx]
        · rw [← hg]
          simp (disch := omega) [f_Mo_suspects, i, ↓ob_eq, ob_so, ldI, ldR, ldO, stI, stZ, stR, isO, wrA_n, rdA_n, wrA_l, rdA_l, gK_sI, gR_sI, gX_sI, gN_sI, gK_cp, gR_cp, gX_cp, gN_cp, rtZ_0, rtZ_1, if_true, reduceIte, and_self, true_and, and_true, K131, ← hg, K, rset, h0, ho, L_len, h2]
  · exact both_ref I0 (r := -1) (by simp [f_Tc_suspects, w, ↓ob_eq, ob_so, ldI, ldR, ldO, stI, stZ, stR, isO, wrA_n, rdA_n, wrA_l, rdA_l, gK_sI, gR_sI, gX_sI, gN_sI, gK_cp, gR_cp, gX_cp, gN_cp, rtZ_0, rtZ_1, if_true, reduceIte, and_self, true_and, and_true]) (by simp [f_Mo_suspects, i, ↓ob_eq, ob_so, ldI, ldR, ldO, stI, stZ, stR, isO, wrA_n, rdA_n, wrA_l, rdA_l, gK_sI, gR_sI, gX_sI, gN_sI, gK_cp, gR_cp, gX_cp, gN_cp, rtZ_0, rtZ_1, if_true, reduceIte, and_self, true_and, and_true, K131])
