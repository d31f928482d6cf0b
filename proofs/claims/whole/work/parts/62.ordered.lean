/-! ===== ordered ===== -/
/-- who is ahead of whom -/
def ahd (H : Nat → Nat) (i o : Nat) : Bool := decide (H o < H i) || (decide (H i = H o) && decide (i < o))
def trn (H : Nat → Nat) (n o : Nat) : Nat := fo (fun i s => if ahd H i o then s + 1 else s) 0 n 0
theorem trn_0 (H : Nat → Nat) (o : Nat) : ∀ n, trn H n o = 0 ↔ ∀ i, i < n → ahd H i o = false
  | 0 => ⟨fun _ i hi => absurd hi (by omega), fun _ => rfl⟩
  | n + 1 => by
    have e : trn H (n + 1) o = if ahd H n o then trn H n o + 1 else trn H n o := by
      unfold trn; rw [fo_succ, Nat.zero_add]
    have ih := trn_0 H o n
    rw [e]
    cases q : ahd H n o
    · rw [if_neg (by decide), ih]
      refine ⟨fun h i hi => ?_, fun h i hi => h i (by omega)⟩
      by_cases e : i = n
      · subst e; exact q
      · exact h i (by omega)
    · rw [if_pos rfl]
      exact ⟨fun h => absurd h (by omega), fun h => by rw [h n (by omega)] at q; cases q⟩
theorem trn_one (H : Nat → Nat) {n a c : Nat} (ha : a < n) (hc : c < n) (h1 : trn H n a = 0) (h2 : trn H n c = 0) : a = c := by
  have q1 := (trn_0 H a n).mp h1 c hc
  have q2 := (trn_0 H c n).mp h2 a ha
  unfold ahd at q1 q2
  simp only [Bool.or_eq_false_iff, Bool.and_eq_false_iff, decide_eq_false_iff_not] at q1 q2
  omega
theorem op_ordered (b : Nat) : B_ordered (Inv b) b (b + 131) := by
  intro h I v
  have I0 := I
  obtain ⟨s, cd, c_stat, c_realm, c_book, c_law, c_kin, c_shi, c_roa, c_ord, c_han, c_wei, c_bag, c_pri, c_cnt, c_led, c_yea, c_log, c_rdr, c_msc, c_img⟩ := I
  have K0 : gK h b = (0, 8) := s.K 0 (by decide) rfl
  have K1 : gK h (b + 1) = (0, 1) := s.K 1 (by decide) rfl
  have K25 : gK h (b + 25) = (0, 7) := s.K 25 (by decide) rfl
  have K26 : gK h (b + 26) = (0, 6) := s.K 26 (by decide) rfl
  have K27 : gK h (b + 27) = (1, 24) := s.K 27 (by decide) rfl
  have K124 : gK h (b + 124) = (0, 0) := s.K 124 (by decide) rfl
  have K131 : gK h (b + 131) = (0, 9) := s.K 131 (by decide) rfl
  have K155 : gK h (b + 155) = (1, 8) := s.K 155 (by decide) rfl
  have K156 : gK h (b + 156) = (1, 8) := s.K 156 (by decide) rfl
  have K157 : gK h (b + 157) = (1, 8) := s.K 157 (by decide) rfl
  have R0_0 : gR h b 0 = some (b + 1) := s.R 0 0 rfl
  have R0_4 : gR h b 4 = some (b + 124) := s.R 0 4 rfl
  have R1_6 : gR h (b + 1) 6 = some (b + 25) := s.R 1 6 rfl
  have R25_0 : gR h (b + 25) 0 = some (b + 26) := s.R 25 0 rfl
  have R26_1 : gR h (b + 26) 1 = some (b + 27) := s.R 26 1 rfl
  have R131_45 : gR h (b + 131) 45 = some (b + 155) := s.R 131 45 rfl
  have R131_46 : gR h (b + 131) 46 = some (b + 156) := s.R 131 46 rfl
  have R131_47 : gR h (b + 131) 47 = some (b + 157) := s.R 131 47 rfl
  obtain ⟨n, hn, ⟨W, N2⟩, MM, LL⟩ := c_ord
  obtain ⟨X, hX⟩ : ∃ X : Nat → Nat, ∀ l, X l = (gI h (b + 27) (3 * l)).toNatClampNeg := ⟨_, fun l => rfl⟩
  obtain ⟨Y, hY⟩ : ∃ Y : Nat → Nat, ∀ l, Y l = (gI h (b + 27) (3 * l + 1)).toNatClampNeg := ⟨_, fun l => rfl⟩
  obtain ⟨U, hU⟩ : ∃ U : Nat → Nat, ∀ l, U l = (gI h (b + 27) (3 * l + 2)).toNatClampNeg := ⟨_, fun l => rfl⟩
  have D : ∀ l, l < n → X l ≤ 99 ∧ Y l ≤ 9 ∧ U l ≤ 9 ∧ gI h (b + 27) (3 * l) = nI (X l) ∧ gI h (b + 155) l = nI (X l) ∧ gI h (b + 27) (3 * l + 1) = nI (Y l) ∧ gI h (b + 156) l = nI (Y l) ∧ gI h (b + 27) (3 * l + 2) = nI (U l) ∧ gI h (b + 157) l = nI (U l) := fun l hl => by
    obtain ⟨x, y, u, a1, a2, a3, a4, a5, a6, a7, a8, a9, a10⟩ := LL l hl
    rw [hX, hY, hU, a5, a6, a7, a8, a9, a10, tn_nI (by omega), tn_nI (by omega), tn_nI (by omega)]
    exact ⟨a1, a2, a4, rfl, rfl, rfl, rfl, rfl, rfl⟩
  obtain ⟨H, hH⟩ : ∃ H : Nat → Nat, ∀ l, H l = U l * Y l := ⟨_, fun l => rfl⟩
  have H81 : ∀ l, l < n → H l ≤ 81 := fun l hl => by
    rw [hH]; exact Nat.mul_le_mul (D l hl).2.2.1 (D l hl).2.1
  have gt : ∀ l i, l < n → i < 3 → f_Row_get (b + 26) (nI l) (nI i) h = some (gI h (b + 27) (3 * l + i), h) := fun l i hl hi => by
    have := row_get (w := 3) (l := l) (i := i) K26 R26_1 K27 W N2 hl hi (by omega) (by omega) (by omega)
    rw [Nat.mul_comm l 3] at this
    exact this
  have g0 : ∀ l, l < n → f_Row_get (b + 26) (nI l) 0 h = some (nI (X l), h) := fun l hl => by rw [← (D l hl).2.2.2.1]; exact gt l 0 hl (by omega)
  have g1 : ∀ l, l < n → f_Row_get (b + 26) (nI l) 1 h = some (nI (Y l), h) := fun l hl => by rw [← (D l hl).2.2.2.2.2.1]; exact gt l 1 hl (by omega)
  have g2 : ∀ l, l < n → f_Row_get (b + 26) (nI l) 2 h = some (nI (U l), h) := fun l hl => by rw [← (D l hl).2.2.2.2.2.2.2.1]; exact gt l 2 hl (by omega)
  have hr : ∀ l, l < n → f_Desk_hourly (b + 124) (b + 26) (nI l) h = some (nI (H l), h) := fun l hl => by
    simp [f_Desk_hourly, ↓ob_eq, ob_some, ldI, ldR, ldO, stI, stZ, stR, isO, wrA_n, rdA_n, wrA_l, rdA_l, gK_sI, gR_sI, gX_sI, gN_sI, gK_cp, gR_cp, gX_cp, gN_cp, rtZ_0, rtZ_1, if_true, reduceIte, and_self, true_and, and_true, K26, g1 l hl, g2 l hl, pk_mul, hH, Nat.mul_comm]
  have tr : ∀ o, o < n → f_Desk_turnOf (b + 124) (b + 26) (nI o) h = some (nI (trn H n o), h) := fun o ho => by
    refine (lp0 (fun N (s : Nat) i => f_Desk_turnOf_5 N (b + 124) (b + 26) (nI o) (nI s) (nI i) h) (fun i s => if ahd H i o then s + 1 else s) n (fun s => some (nI s, h)) 0 FU (by rw [FU_eq]; omega) (fun N i s hi => ?_) (fun N s => ?_))
    · have e2 : ¬ n ≤ i := by omega
      have hi1 := H81 i hi
      have ho1 := H81 o ho
      have s0 : (nI (H i) - nI (H o)).toInt = (H i : Int) - H o := pk_sub_toInt (by omega) (by omega)
      have z0 : (0 : Int32).toInt = 0 := rfl
      have c1 : ((0 : Int32) < nI (H i) - nI (H o)) ↔ H o < H i := by rw [fa_lt, s0, z0]; omega
      have c2 : (nI (H i) - nI (H o) = 0) ↔ H i = H o := by rw [fa_eq, s0, z0]; omega
      rw [f_Desk_turnOf_5]
      by_cases q1 : H o < H i
      · have qa : ahd H i o = true := by simp [ahd, q1]
        simp (disch := omega) [f_Desk_turnOf_46, ↓ob_eq, ob_some, ldI, ldR, ldO, stI, stZ, stR, isO, wrA_n, rdA_n, wrA_l, rdA_l, gK_sI, gR_sI, gX_sI, gN_sI, gK_cp, gR_cp, gX_cp, gN_cp, rtZ_0, rtZ_1, if_true, reduceIte, and_self, true_and, and_true, K26, K124, N2, e2, hr i hi, hr o ho, c1, q1, qa, nI_le', nI_addL]
      · by_cases q2 : H i = H o
        · by_cases q3 : o ≤ i
          · have qa : ahd H i o = false := by simp [ahd, q2]; omega
            have c1' : ¬ ((0 : Int32) < nI (H i) - nI (H o)) := fun z => q1 (c1.mp z)
            have c2' : nI (H i) - nI (H o) = 0 := c2.mpr q2
            have c1'' : ¬ ((0 : Int32) < 0) := by decide
            simp (disch := omega) [f_Desk_turnOf_46, ↓ob_eq, ob_some, ldI, ldR, ldO, stI, stZ, stR, isO, wrA_n, rdA_n, wrA_l, rdA_l, gK_sI, gR_sI, gX_sI, gN_sI, gK_cp, gR_cp, gX_cp, gN_cp, rtZ_0, rtZ_1, if_true, reduceIte, and_self, true_and, and_true, K26, K124, N2, e2, hr i hi, hr o ho, c2', c1'', q3, qa, nI_le', nI_addL]
          · have qa : ahd H i o = true := by simp [ahd, q2]; omega
            have c2' : nI (H i) - nI (H o) = 0 := c2.mpr q2
            have c1'' : ¬ ((0 : Int32) < 0) := by decide
            simp (disch := omega) [f_Desk_turnOf_46, ↓ob_eq, ob_some, ldI, ldR, ldO, stI, stZ, stR, isO, wrA_n, rdA_n, wrA_l, rdA_l, gK_sI, gR_sI, gX_sI, gN_sI, gK_cp, gR_cp, gX_cp, gN_cp, rtZ_0, rtZ_1, if_true, reduceIte, and_self, true_and, and_true, K26, K124, N2, e2, hr i hi, hr o ho, c2', c1'', q3, qa, nI_le', nI_addL]
        · have qa : ahd H i o = false := by simp [ahd, q1, q2]
          have c1' : ¬ ((0 : Int32) < nI (H i) - nI (H o)) := fun z => q1 (c1.mp z)
          have c2' : ¬ (nI (H i) - nI (H o) = 0) := fun z => q2 (c2.mp z)
          simp (disch := omega) [f_Desk_turnOf_46, ↓ob_eq, ob_some, ldI, ldR, ldO, stI, stZ, stR, isO, wrA_n, rdA_n, wrA_l, rdA_l, gK_sI, gR_sI, gX_sI, gN_sI, gK_cp, gR_cp, gX_cp, gN_cp, rtZ_0, rtZ_1, if_true, reduceIte, and_self, true_and, and_true, K26, K124, N2, e2, hr i hi, hr o ho, c1', c2', qa, nI_le', nI_addL]
    · rw [f_Desk_turnOf_5]
      simp (disch := omega) [↓ob_eq, ob_some, ldI, ldR, ldO, stI, stZ, stR, isO, wrA_n, rdA_n, wrA_l, rdA_l, gK_sI, gR_sI, gX_sI, gN_sI, gK_cp, gR_cp, gX_cp, gN_cp, rtZ_0, rtZ_1, if_true, reduceIte, and_self, true_and, and_true, K26, N2, nI_le']
  obtain ⟨SM, hSM⟩ : ∃ SM : Int32, SM = fo (fun i (s : Int32) => s + nI (X i * U i + trn H n i * H i)) 0 n 0 := ⟨_, rfl⟩
  have cs : f_Desk_orderSum (b + 124) (b + 26) h = some (SM, h) := by
    rw [hSM]
    refine (lp0 (fun N (s : Int32) i => f_Desk_orderSum_4 N (b + 124) (b + 26) s (nI i) h) (fun i s => s + nI (X i * U i + trn H n i * H i)) n (fun s => some (s, h)) 0 FU (by rw [FU_eq]; omega) (fun N i s hi => ?_) (fun N s => ?_))
    · have e2 : ¬ n ≤ i := by omega
      rw [f_Desk_orderSum_4]
      simp (disch := omega) [↓ob_eq, ob_some, ldI, ldR, ldO, stI, stZ, stR, isO, wrA_n, rdA_n, wrA_l, rdA_l, gK_sI, gR_sI, gX_sI, gN_sI, gK_cp, gR_cp, gX_cp, gN_cp, rtZ_0, rtZ_1, if_true, reduceIte, and_self, true_and, and_true, K26, K124, N2, e2, g0 i hi, g2 i hi, tr i hi, hr i hi, nI_le', nI_addL, pk_mul, nI_add]
    · rw [f_Desk_orderSum_4]
      simp (disch := omega) [↓ob_eq, ob_some, ldI, ldR, ldO, stI, stZ, stR, isO, wrA_n, rdA_n, wrA_l, rdA_l, gK_sI, gR_sI, gX_sI, gN_sI, gK_cp, gR_cp, gX_cp, gN_cp, rtZ_0, rtZ_1, if_true, reduceIte, and_self, true_and, and_true, K26, N2, nI_le']
  have cf : f_Desk_orderFirst (b + 124) (b + 26) h = fox (fun i (_ : Unit) => decide (trn H n i = 0)) (fun i _ => some (nI i, h)) (fun _ s => s) (fun _ => some (-1, h)) 0 n () := by
    refine lpx0 (fun N (s : Unit) i => f_Desk_orderFirst_2 N (b + 124) (b + 26) (nI i) h) _ _ _ n _ () FU (by rw [FU_eq]; omega) (fun N i s hi w => ?_) (fun N i s hi w => ?_) (fun N s => ?_)
    · have w1 := of_decide_eq_true w
      have e2 : ¬ n ≤ i := by omega
      rw [f_Desk_orderFirst_2]
      simp (disch := omega) [↓ob_eq, ob_some, ldI, ldR, ldO, stI, stZ, stR, isO, wrA_n, rdA_n, wrA_l, rdA_l, gK_sI, gR_sI, gX_sI, gN_sI, gK_cp, gR_cp, gX_cp, gN_cp, rtZ_0, rtZ_1, if_true, reduceIte, and_self, true_and, and_true, K26, K124, N2, e2, tr i hi, w1, nI_le', nI_0]
    · have w1 := of_decide_eq_false w
      have e2 : ¬ n ≤ i := by omega
      have w2 : ¬ nI (trn H n i) = 0 := fun z => by
        have hle : trn H n i ≤ n := by
          unfold trn
          refine fo_inv (fun j s => s ≤ j) n (fun j s _ hs => ?_) n 0 0 (by omega) (Nat.le_refl _)
          split <;> omega
        rw [nI_eqL (n := 0) (by omega) (by decide)] at z
        exact w1 z
      rw [f_Desk_orderFirst_2]
      simp (disch := omega) [↓ob_eq, ob_some, ldI, ldR, ldO, stI, stZ, stR, isO, wrA_n, rdA_n, wrA_l, rdA_l, gK_sI, gR_sI, gX_sI, gN_sI, gK_cp, gR_cp, gX_cp, gN_cp, rtZ_0, rtZ_1, if_true, reduceIte, and_self, true_and, and_true, K26, K124, N2, e2, tr i hi, w2, nI_le', nI_addL]
    · rw [f_Desk_orderFirst_2]
      simp (disch := omega) [↓ob_eq, ob_some, ldI, ldR, ldO, stI, stZ, stR, isO, wrA_n, rdA_n, wrA_l, rdA_l, gK_sI, gR_sI, gX_sI, gN_sI, gK_cp, gR_cp, gX_cp, gN_cp, rtZ_0, rtZ_1, if_true, reduceIte, and_self, true_and, and_true, K26, N2, nI_le']
  -- the reference
  obtain ⟨g, hg⟩ : ∃ g, g = sI h (b + 131) 0 0 := ⟨_, rfl⟩
  have K : gK g (b + 131) = (0, 9) := by rw [hg]; exact K131
  have q155 : gK g (b + 155) = (1, 8) := by rw [hg]; exact K155
  have q156 : gK g (b + 156) = (1, 8) := by rw [hg]; exact K156
  have q157 : gK g (b + 157) = (1, 8) := by rw [hg]; exact K157
  have p45 : gR g (b + 131) 45 = some (b + 155) := by rw [hg]; exact R131_45
  have p46 : gR g (b + 131) 46 = some (b + 156) := by rw [hg]; exact R131_46
  have p47 : gR g (b + 131) 47 = some (b + 157) := by rw [hg]; exact R131_47
  have M44 : gI g (b + 131) 44 = nI n := by rw [hg]; simp (disch := omega) only [gI_q, gI_n1, gI_n2]; exact MM
  have d155 : ∀ l, l < n → gI g (b + 155) l = nI (X l) := fun l hl => by rw [hg]; simp (disch := omega) only [gI_q, gI_n1, gI_n2]; exact (D l hl).2.2.2.2.1
  have d156 : ∀ l, l < n → gI g (b + 156) l = nI (Y l) := fun l hl => by rw [hg]; simp (disch := omega) only [gI_q, gI_n1, gI_n2]; exact (D l hl).2.2.2.2.2.2.1
  have d157 : ∀ l, l < n → gI g (b + 157) l = nI (U l) := fun l hl => by rw [hg]; simp (disch := omega) only [gI_q, gI_n1, gI_n2]; exact (D l hl).2.2.2.2.2.2.2.2
  have ah : ∀ i o, i < n → o < n → f_Mo_isAhead (b + 131) (nI i) (nI o) g = some (if ahd H i o then 1 else 0, g) := fun i o hi ho => by
    have i8 : i < 8 := by omega
    have o8 : o < 8 := by omega
    have hi1 := H81 i hi
    have ho1 := H81 o ho
    have c1 : (nI (H o) < nI (H i)) ↔ H o < H i := nI_ltI (by omega) (by omega)
    have c2 : (nI (H i) = nI (H o)) ↔ H i = H o := nI_eq (by omega) (by omega)
    have c3 : (nI o ≤ nI i) ↔ o ≤ i := nI_leI (by omega) (by omega)
    by_cases q1 : H o < H i
    · have qa : ahd H i o = true := by simp [ahd, q1]
      simp (disch := omega) [f_Mo_isAhead, f_Mo_isAhead_46, ↓ob_eq, ob_some, ldI, ldR, ldO, stI, stZ, stR, isO, wrA_n, rdA_n, wrA_l, rdA_l, gK_sI, gR_sI, gX_sI, gN_sI, gK_cp, gR_cp, gX_cp, gN_cp, rtZ_0, rtZ_1, if_true, reduceIte, and_self, true_and, and_true, K, p46, p47, q156, q157, i8, o8, d156 i hi, d156 o ho, d157 i hi, d157 o ho, pk_mul, ← hH, c1, q1, qa]
    · by_cases q2 : H i = H o
      · by_cases q3 : o ≤ i
        · have qa : ahd H i o = false := by simp [ahd, q2]; omega
          simp (disch := omega) [f_Mo_isAhead, f_Mo_isAhead_46, ↓ob_eq, ob_some, ldI, ldR, ldO, stI, stZ, stR, isO, wrA_n, rdA_n, wrA_l, rdA_l, gK_sI, gR_sI, gX_sI, gN_sI, gK_cp, gR_cp, gX_cp, gN_cp, rtZ_0, rtZ_1, if_true, reduceIte, and_self, true_and, and_true, K, p46, p47, q156, q157, i8, o8, d156 i hi, d156 o ho, d157 i hi, d157 o ho, pk_mul, ← hH, c1, c2, c3, q1, q2, q3, qa]
        · have qa : ahd H i o = true := by simp [ahd, q2]; omega
          simp (disch := omega) [f_Mo_isAhead, f_Mo_isAhead_46, ↓ob_eq, ob_some, ldI, ldR, ldO, stI, stZ, stR, isO, wrA_n, rdA_n, wrA_l, rdA_l, gK_sI, gR_sI, gX_sI, gN_sI, gK_cp, gR_cp, gX_cp, gN_cp, rtZ_0, rtZ_1, if_true, reduceIte, and_self, true_and, and_true, K, p46, p47, q156, q157, i8, o8, d156 i hi, d156 o ho, d157 i hi, d157 o ho, pk_mul, ← hH, c1, c2, c3, q1, q2, q3, qa]
      · have qa : ahd H i o = false := by simp [ahd, q1, q2]
        simp (disch := omega) [f_Mo_isAhead, f_Mo_isAhead_46, ↓ob_eq, ob_some, ldI, ldR, ldO, stI, stZ, stR, isO, wrA_n, rdA_n, wrA_l, rdA_l, gK_sI, gR_sI, gX_sI, gN_sI, gK_cp, gR_cp, gX_cp, gN_cp, rtZ_0, rtZ_1, if_true, reduceIte, and_self, true_and, and_true, K, p46, p47, q156, q157, i8, o8, d156 i hi, d156 o ho, d157 i hi, d157 o ho, pk_mul, ← hH, c1, c2, q1, q2, qa]
  have tle : ∀ o, trn H n o ≤ n := fun o => by
    unfold trn
    refine fo_inv (fun j s => s ≤ j) n (fun j s _ hs => ?_) n 0 0 (by omega) (Nat.le_refl _)
    split <;> omega
  have m39 : ∀ (k24 : Nat → Int32 → Int32 → Int32 → Int32 → PH → Option (Int32 × PH)) (s f : Int32) o, o < n → f_Mo_ordered_39 k24 FU (b + 131) v s f (nI o) 0 0 g = k24 (b + 131) v (s + nI (X o * U o + trn H n o * H o)) (if trn H n o = 0 then nI o else f) (nI (o + 1)) g := fun k24 s f o ho => by
    have o8 : o < 8 := by omega
    refine (lp0 (fun N (t : Nat) i => f_Mo_ordered_39 k24 N (b + 131) v s f (nI o) (nI t) (nI i) g) (fun i s => if ahd H i o then s + 1 else s) n (fun t => if nI t = 0 then k24 (b + 131) v (s + nI (U o * (X o + t * Y o))) (nI o) (nI (o + 1)) g else k24 (b + 131) v (s + nI (U o * (X o + t * Y o))) f (nI (o + 1)) g) 0 FU (by rw [FU_eq]; omega) (fun N i t hi => ?_) (fun N t => ?_)).trans ?_
    · have e2 : ¬ n ≤ i := by omega
      rw [f_Mo_ordered_39]
      by_cases q : i = o
      · subst q
        have qa : ahd H i i = false := by simp [ahd]
        simp (disch := omega) [↓ob_eq, ob_some, ldI, ldR, ldO, stI, stZ, stR, isO, wrA_n, rdA_n, wrA_l, rdA_l, gK_sI, gR_sI, gX_sI, gN_sI, gK_cp, gR_cp, gX_cp, gN_cp, rtZ_0, rtZ_1, if_true, reduceIte, and_self, true_and, and_true, K, M44, e2, qa, nI_le', nI_addL]
      · cases qa : ahd H i o
        · simp (disch := omega) [↓ob_eq, ob_some, ldI, ldR, ldO, stI, stZ, stR, isO, wrA_n, rdA_n, wrA_l, rdA_l, gK_sI, gR_sI, gX_sI, gN_sI, gK_cp, gR_cp, gX_cp, gN_cp, rtZ_0, rtZ_1, if_true, reduceIte, and_self, true_and, and_true, K, M44, e2, q, ah i o hi ho, qa, nI_le', nI_eq', nI_addL]
        · simp (disch := omega) [↓ob_eq, ob_some, ldI, ldR, ldO, stI, stZ, stR, isO, wrA_n, rdA_n, wrA_l, rdA_l, gK_sI, gR_sI, gX_sI, gN_sI, gK_cp, gR_cp, gX_cp, gN_cp, rtZ_0, rtZ_1, if_true, reduceIte, and_self, true_and, and_true, K, M44, e2, q, ah i o hi ho, qa, nI_le', nI_eq', nI_addL]
    · rw [f_Mo_ordered_39]
      by_cases q : nI t = 0
      · have q' : (nI t = 0) = True := eq_true q
        simp (disch := omega) [↓ob_eq, ob_some, ldI, ldR, ldO, stI, stZ, stR, isO, wrA_n, rdA_n, wrA_l, rdA_l, gK_sI, gR_sI, gX_sI, gN_sI, gK_cp, gR_cp, gX_cp, gN_cp, rtZ_0, rtZ_1, if_true, reduceIte, and_self, true_and, and_true, K, M44, p45, p46, p47, q155, q156, q157, o8, d155 o ho, d156 o ho, d157 o ho, q', nI_le', nI_addL, pk_mul, nI_add]
      · simp (disch := omega) [↓ob_eq, ob_some, ldI, ldR, ldO, stI, stZ, stR, isO, wrA_n, rdA_n, wrA_l, rdA_l, gK_sI, gR_sI, gX_sI, gN_sI, gK_cp, gR_cp, gX_cp, gN_cp, rtZ_0, rtZ_1, if_true, reduceIte, and_self, true_and, and_true, K, M44, p45, p46, p47, q155, q156, q157, o8, d155 o ho, d156 o ho, d157 o ho, q, nI_le', nI_addL, pk_mul, nI_add]
    · have et : fo (fun i s => if ahd H i o then s + 1 else s) 0 n 0 = trn H n o := rfl
      have e1 : U o * (X o + trn H n o * Y o) = X o * U o + trn H n o * H o := by
        rw [hH, Nat.mul_add, Nat.mul_comm (U o) (X o), Nat.mul_left_comm]
      have z : (nI (trn H n o) = 0) ↔ trn H n o = 0 := nI_eqL (n := 0) (by have := tle o; omega) (by decide)
      simp only [et, e1, z]
      by_cases q : trn H n o = 0
      · rw [if_pos q, if_pos q]
      · rw [if_neg q, if_neg q]
  obtain ⟨FI, hFI⟩ : ∃ FI : Int32, FI = fo (fun i (f : Int32) => if trn H n i = 0 then nI i else f) 0 n (-1) := ⟨_, rfl⟩
  have m24 : f_Mo_ordered_24 FU (b + 131) v 0 (-1) 0 g = if v = 0 then some (SM, g) else some (FI, g) := by
    refine (lp0 (fun N (s : Int32 × Int32) i => f_Mo_ordered_24 N (b + 131) v s.1 s.2 (nI i) g) (fun i s => (s.1 + nI (X i * U i + trn H n i * H i), if trn H n i = 0 then nI i else s.2)) n (fun s => if v = 0 then some (s.1, g) else some (s.2, g)) (0, -1) FU (by rw [FU_eq]; omega) (fun N i s hi => ?_) (fun N s => ?_)).trans ?_
    · have e2 : ¬ n ≤ i := by omega
      rw [f_Mo_ordered_24]
      simp (disch := omega) [↓ob_eq, ob_some, ldI, ldR, ldO, stI, stZ, stR, isO, wrA_n, rdA_n, wrA_l, rdA_l, gK_sI, gR_sI, gX_sI, gN_sI, gK_cp, gR_cp, gX_cp, gN_cp, rtZ_0, rtZ_1, if_true, reduceIte, and_self, true_and, and_true, K, M44, e2, m39 _ _ _ i hi, nI_le']
    · rw [f_Mo_ordered_24]
      simp (disch := omega) [↓ob_eq, ob_some, ldI, ldR, ldO, stI, stZ, stR, isO, wrA_n, rdA_n, wrA_l, rdA_l, gK_sI, gR_sI, gX_sI, gN_sI, gK_cp, gR_cp, gX_cp, gN_cp, rtZ_0, rtZ_1, if_true, reduceIte, and_self, true_and, and_true, K, M44, nI_le']
    · have e1 := fo_rel (st := fun i (s : Int32 × Int32) => (s.1 + nI (X i * U i + trn H n i * H i), if trn H n i = 0 then nI i else s.2)) (st' := fun i (s : Int32) => s + nI (X i * U i + trn H n i * H i)) (fun _ s s' => s.1 = s') n (fun i s s' hi e => by subst e; rfl) n 0 (0, -1) 0 (by omega) rfl
      have e2 := fo_rel (st := fun i (s : Int32 × Int32) => (s.1 + nI (X i * U i + trn H n i * H i), if trn H n i = 0 then nI i else s.2)) (st' := fun i (f : Int32) => if trn H n i = 0 then nI i else f) (fun _ s s' => s.2 = s') n (fun i s s' hi e => by subst e; rfl) n 0 (0, -1) (-1) (by omega) rfl
      rw [e1, e2, ← hSM, ← hFI]
  have cf2 : f_Desk_orderFirst (b + 124) (b + 26) h = some (FI, h) := by
    rw [cf]
    by_cases ex : ∃ o, o < n ∧ trn H n o = 0
    · obtain ⟨o, h1, h2⟩ := ex
      have a1 := fox_at (ex := fun i (_ : Unit) => decide (trn H n i = 0)) (out := fun i _ => some (nI i, h)) (st := fun _ s => s) (fin := fun _ => some (-1, h)) n 0 () o h1 (fun j hj => decide_eq_false (fun z => by rw [Nat.zero_add] at z; have := trn_one H (by omega) h1 z h2; omega)) (decide_eq_true (by rw [Nat.zero_add]; exact h2))
      have a2 : FI = nI o := by
        rw [hFI]
        refine (fo_inv (fun j (f : Int32) => o < j → f = nI o) n (fun j f hj q hoj => ?_) n 0 (-1) (by omega) (fun z => absurd z (by omega))) h1
        by_cases e : j = o
        · subst e; rw [if_pos h2]
        · rw [if_neg (fun z => e (trn_one H hj h1 z h2))]
          exact q (by omega)
      rw [a1, Nat.zero_add, a2]
    · have a1 := fox_no (ex := fun i (_ : Unit) => decide (trn H n i = 0)) (out := fun i _ => some (nI i, h)) (st := fun _ s => s) (fin := fun _ => some (-1, h)) n 0 () (fun j hj => decide_eq_false (fun z => ex ⟨j, hj, by rw [Nat.zero_add] at z; exact z⟩))
      have a2 : FI = -1 := by
        rw [hFI]
        refine fo_inv (fun j (f : Int32) => f = -1) n (fun j f hj q => ?_) n 0 (-1) (by omega) rfl
        rw [if_neg (fun z => ex ⟨j, hj, z⟩)]; exact q
      rw [a1, a2]
  by_cases h0 : v = 0
  · rw [if_pos h0] at m24
    subst h0
    have i1 : f_Mo_isIn (b + 131) 0 0 1 g = some (1, g) := by
      unfold f_Mo_isIn; rw [if_neg (by decide), if_neg (by decide), rtZ_1]
    exact both_ref I0 (r := SM) (by simp [f_Tc_ordered, ↓ob_eq, ob_some, ldI, ldR, ldO, stI, stZ, stR, isO, wrA_n, rdA_n, wrA_l, rdA_l, gK_sI, gR_sI, gX_sI, gN_sI, gK_cp, gR_cp, gX_cp, gN_cp, rtZ_0, rtZ_1, if_true, reduceIte, and_self, true_and, and_true, K0, K1, K25, K124, R0_0, R0_4, R1_6, R25_0, cs]) (by rw [← hg]; simp [f_Mo_ordered, i1, ↓ob_eq, ob_some, ldI, ldR, ldO, stI, stZ, stR, isO, wrA_n, rdA_n, wrA_l, rdA_l, gK_sI, gR_sI, gX_sI, gN_sI, gK_cp, gR_cp, gX_cp, gN_cp, rtZ_0, rtZ_1, if_true, reduceIte, and_self, true_and, and_true, K131, K, ← hg, m24])
  · by_cases h1 : v = 1
    · rw [if_neg h0] at m24
      subst h1
      have i1 : f_Mo_isIn (b + 131) 1 0 1 g = some (1, g) := by
        unfold f_Mo_isIn; rw [if_neg (by decide), if_neg (by decide), rtZ_1]
      exact both_ref I0 (r := FI) (by simp [f_Tc_ordered, ↓ob_eq, ob_some, ldI, ldR, ldO, stI, stZ, stR, isO, wrA_n, rdA_n, wrA_l, rdA_l, gK_sI, gR_sI, gX_sI, gN_sI, gK_cp, gR_cp, gX_cp, gN_cp, rtZ_0, rtZ_1, if_true, reduceIte, and_self, true_and, and_true, K0, K1, K25, K124, R0_0, R0_4, R1_6, R25_0, cf2]) (by rw [← hg]; simp [f_Mo_ordered, i1, ↓ob_eq, ob_some, ldI, ldR, ldO, stI, stZ, stR, isO, wrA_n, rdA_n, wrA_l, rdA_l, gK_sI, gR_sI, gX_sI, gN_sI, gK_cp, gR_cp, gX_cp, gN_cp, rtZ_0, rtZ_1, if_true, reduceIte, and_self, true_and, and_true, K131, K, ← hg, m24])
    · have i1 : f_Mo_isIn (b + 131) v 0 1 g = some (0, g) := by
        rcases in_cases v 1 1 rfl (by omega) with ⟨k, l1, rfl, w1, i1⟩ | ⟨w1, i1⟩
        · have : k = 0 ∨ k = 1 := by omega
          rcases this with rfl | rfl
          · exact absurd rfl h0
          · exact absurd rfl h1
        · exact i1 _ _
      exact both_ref I0 (r := -1) (by simp [f_Tc_ordered, h0, h1]) (by rw [← hg]; simp [f_Mo_ordered, i1, ↓ob_eq, ob_some, ldI, ldR, ldO, stI, stZ, stR, isO, wrA_n, rdA_n, wrA_l, rdA_l, gK_sI, gR_sI, gX_sI, gN_sI, gK_cp, gR_cp, gX_cp, gN_cp, rtZ_0, rtZ_1, if_true, reduceIte, and_self, true_and, and_true, K131, K, ← hg])
