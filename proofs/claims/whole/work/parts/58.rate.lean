/-! ===== rate, votes ===== -/
/-- what comes in at a rate -/
def tkS (co we ou : Nat → Int32) (r : Int32) (i : Nat) (s : Int32) : Int32 := if ou i = 0 then (if co i < r * we i then s else s + r * we i) else s
def tk (co we ou : Nat → Int32) (n : Nat) (r : Int32) : Int32 := fo (tkS co we ou r) 0 n 0
theorem tk_cg {co we ou co' we' ou' : Nat → Int32} {n : Nat} (h : ∀ i, i < n → co i = co' i ∧ we i = we' i ∧ ou i = ou' i) (r : Int32) : tk co we ou n r = tk co' we' ou' n r := by
  unfold tk
  refine fo_cg n (fun i s hi => ?_) 0
  unfold tkS
  rw [(h i hi).1, (h i hi).2.1, (h i hi).2.2]
theorem tk_0 (co we ou : Nat → Int32) (n : Nat) : tk co we ou n 0 = 0 := by
  unfold tk
  refine fo_inv (fun _ s => s = 0) n (fun i s hi e => ?_) n 0 0 (by omega) rfl
  subst e
  unfold tkS
  by_cases q : ou i = 0
  · rw [if_pos q]
    split
    · rfl
    · rw [Int32.zero_mul]; rfl
  · rw [if_neg q]
theorem mo_takenAt {h : PH} {a c n : Nat} (K : gK h a = (0, 9)) (R : gR h a 1 = some c) (Kc : gK h c = (1, 79)) (Ng : gI h a 6 = nI n) (hn : n ≤ 12) (r : Int32) : f_Mo_takenAt a r h = some (tk (fun t => gI h c (7 + t)) (fun t => gI h c (19 + t)) (fun t => gI h c (43 + t)) n r, h) := by
  refine lp0 (fun N (s : Int32) i => f_Mo_takenAt_4 N a r s (nI i) h) (tkS (fun t => gI h c (7 + t)) (fun t => gI h c (19 + t)) (fun t => gI h c (43 + t)) r) n (fun s => some (s, h)) 0 FU (by rw [FU_eq]; omega) (fun N i s hi => ?_) (fun N s => ?_)
  · have e1 : 43 + i < 79 := by omega
    have e3 : 7 + i < 79 := by omega
    have e4 : 19 + i < 79 := by omega
    have e2 : ¬ n ≤ i := by omega
    rw [f_Mo_takenAt_4]
    unfold tkS
    by_cases q : gI h c (43 + i) = 0
    · by_cases q2 : gI h c (7 + i) < r * gI h c (19 + i)
      · simp (disch := omega) [↓ob_eq, ob_some, ldI, ldR, ldO, stI, stZ, stR, isO, wrA_n, rdA_n, wrA_l, rdA_l, gK_sI, gR_sI, gX_sI, gN_sI, gK_cp, gR_cp, gX_cp, gN_cp, rtZ_0, rtZ_1, if_true, reduceIte, and_self, true_and, and_true, K, R, Kc, Ng, e1, e2, e3, e4, q, q2, nI_le', nI_addL, L_addn]
      · simp (disch := omega) [↓ob_eq, ob_some, ldI, ldR, ldO, stI, stZ, stR, isO, wrA_n, rdA_n, wrA_l, rdA_l, gK_sI, gR_sI, gX_sI, gN_sI, gK_cp, gR_cp, gX_cp, gN_cp, rtZ_0, rtZ_1, if_true, reduceIte, and_self, true_and, and_true, K, R, Kc, Ng, e1, e2, e3, e4, q, q2, nI_le', nI_addL, L_addn]
    · simp (disch := omega) [↓ob_eq, ob_some, ldI, ldR, ldO, stI, stZ, stR, isO, wrA_n, rdA_n, wrA_l, rdA_l, gK_sI, gR_sI, gX_sI, gN_sI, gK_cp, gR_cp, gX_cp, gN_cp, rtZ_0, rtZ_1, if_true, reduceIte, and_self, true_and, and_true, K, R, Kc, Ng, e1, e2, e3, e4, q, nI_le', nI_addL, L_addn]
  · rw [f_Mo_takenAt_4]
    simp (disch := omega) [↓ob_eq, ob_some, ldI, ldR, ldO, stI, stZ, stR, isO, wrA_n, rdA_n, wrA_l, rdA_l, gK_sI, gR_sI, gX_sI, gN_sI, gK_cp, gR_cp, gX_cp, gN_cp, rtZ_0, rtZ_1, if_true, reduceIte, and_self, true_and, and_true, K, Ng, nI_le']
/-- who is inside, by the class -/
theorem rl_inside {h : PH} {a n i : Nat} {p : Nat → Bool} (K : gK h a = (0, 5)) (N1 : gI h a 1 = nI n) (F7 : gI h a 7 = nI (bs n p)) (hn : n ≤ 12) (hi : i < n) : f_Realm_isInside a (nI i) h = some (if p i then 0 else 1, h) := by
  have hl : bs n p < 2 ^ 31 := Nat.lt_of_lt_of_le (bs_lt p n) (Nat.pow_le_pow_right (by decide) (by omega))
  have e0 : ¬ nI i < 0 := nI_pos (by omega)
  have e1 : ¬ n ≤ i := by omega
  have hb := jbit0 (k := i) (by omega) hl
  rw [bs_bit] at hb
  cases hp : p i
  · have hb : jshr (nI (bs n p)) (nI i) &&& 1 = 0 := hb.mpr (by simp [hp])
    simp (disch := omega) [f_Realm_isInside, f_Realm_isTraveller, ↓ob_eq, ob_some, ldI, ldR, ldO, stI, stZ, stR, isO, wrA_n, rdA_n, wrA_l, rdA_l, gK_sI, gR_sI, gX_sI, gN_sI, gK_cp, gR_cp, gX_cp, gN_cp, rtZ_0, rtZ_1, if_true, reduceIte, and_self, true_and, and_true, K, N1, F7, e0, e1, nI_le', hb]
  · have hb : ¬ jshr (nI (bs n p)) (nI i) &&& 1 = 0 := fun q => by have := hb.mp q; simp [hp, hi] at this
    simp (disch := omega) [f_Realm_isInside, f_Realm_isTraveller, ↓ob_eq, ob_some, ldI, ldR, ldO, stI, stZ, stR, isO, wrA_n, rdA_n, wrA_l, rdA_l, gK_sI, gR_sI, gX_sI, gN_sI, gK_cp, gR_cp, gX_cp, gN_cp, rtZ_0, rtZ_1, if_true, reduceIte, and_self, true_and, and_true, K, N1, F7, e0, e1, nI_le', hb]
theorem rl_takenAt {h : PH} {a c w n : Nat} {ou : Nat → Int32} (K : gK h a = (0, 5)) (R4 : gR h a 4 = some c) (R5 : gR h a 5 = some w) (Kc : gK h c = (1, 12)) (Kw : gK h w = (1, 12)) (N1 : gI h a 1 = nI n) (F7 : gI h a 7 = nI (bs n (fun t => ou t == 1))) (hou : ∀ i, i < n → ou i = 0 ∨ ou i = 1) (hn : n ≤ 12) (r : Int32) : f_Realm_takenAt a r h = some (tk (gI h c) (gI h w) ou n r, h) := by
  refine lp0 (fun N (s : Int32) i => f_Realm_takenAt_4 N a r s (nI i) h) (tkS (gI h c) (gI h w) ou r) n (fun s => some (s, h)) 0 FU (by rw [FU_eq]; omega) (fun N i s hi => ?_) (fun N s => ?_)
  · have e1 : i < 12 := by omega
    have e2 : ¬ n ≤ i := by omega
    have hin := rl_inside (i := i) K N1 F7 hn hi
    rw [f_Realm_takenAt_4]
    unfold tkS
    rcases hou i hi with q | q
    · have hin : f_Realm_isInside a (nI i) h = some (1, h) := by rw [hin, q]; rfl
      by_cases q2 : gI h c i < r * gI h w i
      · simp (disch := omega) [↓ob_eq, ob_some, ldI, ldR, ldO, stI, stZ, stR, isO, wrA_n, rdA_n, wrA_l, rdA_l, gK_sI, gR_sI, gX_sI, gN_sI, gK_cp, gR_cp, gX_cp, gN_cp, rtZ_0, rtZ_1, if_true, reduceIte, and_self, true_and, and_true, K, R4, R5, Kc, Kw, N1, e1, e2, q, q2, hin, nI_le', nI_addL]
      · simp (disch := omega) [↓ob_eq, ob_some, ldI, ldR, ldO, stI, stZ, stR, isO, wrA_n, rdA_n, wrA_l, rdA_l, gK_sI, gR_sI, gX_sI, gN_sI, gK_cp, gR_cp, gX_cp, gN_cp, rtZ_0, rtZ_1, if_true, reduceIte, and_self, true_and, and_true, K, R4, R5, Kc, Kw, N1, e1, e2, q, q2, hin, nI_le', nI_addL]
    · have hin : f_Realm_isInside a (nI i) h = some (0, h) := by rw [hin, q]; rfl
      simp (disch := omega) [↓ob_eq, ob_some, ldI, ldR, ldO, stI, stZ, stR, isO, wrA_n, rdA_n, wrA_l, rdA_l, gK_sI, gR_sI, gX_sI, gN_sI, gK_cp, gR_cp, gX_cp, gN_cp, rtZ_0, rtZ_1, if_true, reduceIte, and_self, true_and, and_true, K, R4, R5, Kc, Kw, N1, e1, e2, q, hin, nI_le', nI_addL]
  · rw [f_Realm_takenAt_4]
    simp (disch := omega) [↓ob_eq, ob_some, ldI, ldR, ldO, stI, stZ, stR, isO, wrA_n, rdA_n, wrA_l, rdA_l, gK_sI, gR_sI, gX_sI, gN_sI, gK_cp, gR_cp, gX_cp, gN_cp, rtZ_0, rtZ_1, if_true, reduceIte, and_self, true_and, and_true, K, N1, nI_le']
/-- the best rate -/
def brS (T : Int32 → Int32) (i : Nat) (s : Int32) : Int32 := if T (nI (i + 1)) ≤ T s then s else nI (i + 1)
def br (T : Int32 → Int32) : Int32 := fo (brS T) 0 99 0
theorem op_rate (b : Nat) : B_rate (Inv b) b (b + 131) := by
  intro h I v
  have I0 := I
  obtain ⟨s, cd, c_stat, c_realm, c_book, c_law, c_kin, c_shi, c_roa, c_ord, c_han, c_wei, c_bag, c_pri, c_cnt, c_led, c_yea, c_log, c_rdr, c_msc, c_img⟩ := I
  have K0 : gK h b = (0, 8) := s.K 0 (by decide) rfl
  have K1 : gK h (b + 1) = (0, 1) := s.K 1 (by decide) rfl
  have K2 : gK h (b + 2) = (0, 5) := s.K 2 (by decide) rfl
  have K5 : gK h (b + 5) = (1, 12) := s.K 5 (by decide) rfl
  have K6 : gK h (b + 6) = (1, 12) := s.K 6 (by decide) rfl
  have K131 : gK h (b + 131) = (0, 9) := s.K 131 (by decide) rfl
  have K132 : gK h (b + 132) = (1, 79) := s.K 132 (by decide) rfl
  have R0_0 : gR h b 0 = some (b + 1) := s.R 0 0 rfl
  have R1_0 : gR h (b + 1) 0 = some (b + 2) := s.R 1 0 rfl
  have R2_4 : gR h (b + 2) 4 = some (b + 5) := s.R 2 4 rfl
  have R2_5 : gR h (b + 2) 5 = some (b + 6) := s.R 2 5 rfl
  have R131_1 : gR h (b + 131) 1 = some (b + 132) := s.R 131 1 rfl
  have cr := c_realm
  obtain ⟨⟨hnt, hno⟩, ro, F1, F9, F0, F15, F16, F17, F18, F19, F14, F7, F8, RT, RO⟩ := cr
  have RT : ∀ t, t < ntOf h b → gI h (b + 3) t = gI h (b + 135) t ∧ gI h (b + 4) t = gI h (b + 136) t ∧ gI h (b + 5) t = gI h (b + 132) (7 + t) ∧ gI h (b + 6) t = gI h (b + 132) (19 + t) ∧ gI h (b + 7) t = gI h (b + 132) (31 + t) - 1 := RT
  have RO : ∀ o, o < noOf h b → gI h (b + 8) o = gI h (b + 132) (67 + o) ∧ gI h (b + 9) o = gI h (b + 137) o ∧ gI h (b + 10) o = gI h (b + 138) o ∧ gI h (b + 11) o = gI h (b + 132) (73 + o) := RO
  have hN6 : gI h (b + 131) 6 = nI (ntOf h b) := c_stat.1
  have hN7 : gI h (b + 131) 7 = nI (noOf h b) := c_stat.2.1
  obtain ⟨T, hT⟩ : ∃ T, T = tk (fun t => gI h (b + 132) (7 + t)) (fun t => gI h (b + 132) (19 + t)) (fun t => gI h (b + 132) (43 + t)) (ntOf h b) := ⟨_, rfl⟩
  have T0 : T 0 = 0 := by rw [hT]; exact tk_0 _ _ _ _
  have ec : ∀ r, f_Realm_takenAt (b + 2) r h = some (T r, h) := fun r => by
    rw [rl_takenAt (ou := fun t => gI h (b + 132) (43 + t)) K2 R2_4 R2_5 K5 K6 F1 F7 (fun i hi => (ro.2.2.2.1 i hi).2.2.2.1) hnt r, hT]
    rw [tk_cg (fun i hi => ⟨(RT i hi).2.2.1, (RT i hi).2.2.2.1, rfl⟩) r]
  obtain ⟨g, hg⟩ : ∃ g, g = sI h (b + 131) 0 0 := ⟨_, rfl⟩
  have em : ∀ r, f_Mo_takenAt (b + 131) r g = some (T r, g) := fun r => by
    have e6 : gI g (b + 131) 6 = nI (ntOf h b) := by rw [hg]; simp (disch := omega) only [gI_q, gI_n1, gI_n2]; exact hN6
    rw [mo_takenAt (by rw [hg]; exact K131) (by rw [hg]; exact R131_1) (by rw [hg]; exact K132) e6 hnt r, hT]
    rw [tk_cg (fun i hi => ⟨?_, ?_, ?_⟩) r]
    · rw [hg]; simp (disch := omega) only [gI_q, gI_n1, gI_n2]
    · rw [hg]; simp (disch := omega) only [gI_q, gI_n1, gI_n2]
    · rw [hg]; simp (disch := omega) only [gI_q, gI_n1, gI_n2]
  have bc : f_Realm_bestRate (b + 2) h = some (br T, h) := by
    have key := lp (fun N (s : Int32 × Int32) i => f_Realm_bestRate_6 N (b + 2) s.1 s.2 (nI (i + 1)) h) (fun i s => (brS T i s.1, T (brS T i s.1))) (fun _ s => s.2 = T s.1) 99 (fun s => some (s.1, h))
      (fun N i s hi q => by
        have e1 : ¬ 99 < i + 1 := by omega
        rw [f_Realm_bestRate_6]
        by_cases q2 : T (nI (i + 1)) ≤ T s.1
        · simp (disch := omega) [↓ob_eq, ob_some, ldI, ldR, ldO, stI, stZ, stR, isO, wrA_n, rdA_n, wrA_l, rdA_l, gK_sI, gR_sI, gX_sI, gN_sI, gK_cp, gR_cp, gX_cp, gN_cp, rtZ_0, rtZ_1, if_true, reduceIte, and_self, true_and, and_true, K2, ec, e1, q, q2, brS, L_ltn, nI_addL]
        · simp (disch := omega) [↓ob_eq, ob_some, ldI, ldR, ldO, stI, stZ, stR, isO, wrA_n, rdA_n, wrA_l, rdA_l, gK_sI, gR_sI, gX_sI, gN_sI, gK_cp, gR_cp, gX_cp, gN_cp, rtZ_0, rtZ_1, if_true, reduceIte, and_self, true_and, and_true, K2, ec, e1, q, q2, brS, L_ltn, nI_addL])
      (fun i s hi q => rfl)
      (fun N s q => by
        rw [f_Realm_bestRate_6]
        have e1 : (99 : Int32) < nI (99 + 1) := by decide
        simp [e1])
      99 0 (0, 0) FU (by omega) T0.symm (by rw [FU_eq]; omega)
    refine key.1.trans ?_
    have := fo_rel (st := fun i s => (brS T i s.1, T (brS T i s.1))) (st' := brS T) (fun _ (s : Int32 × Int32) s' => s.1 = s') 99 (fun i s s' hi e => by subst e; rfl) 99 0 (0, 0) 0 (by omega) rfl
    rw [this, br]
  have bm : f_Mo_rate_21 FU (b + 131) v 0 1 g = if v = 0 then some (br T, g) else some (T (br T), g) := by
    refine lp0 (fun N (s : Int32) i => f_Mo_rate_21 N (b + 131) v s (nI (i + 1)) g) (brS T) 99 (fun s => if v = 0 then some (s, g) else some (T s, g)) 0 FU (by rw [FU_eq]; omega) (fun N i s hi => ?_) (fun N s => ?_)
    · have e1 : ¬ 99 < i + 1 := by omega
      have K : gK g (b + 131) = (0, 9) := by rw [hg]; exact K131
      rw [f_Mo_rate_21]
      by_cases q2 : T (nI (i + 1)) ≤ T s
      · simp (disch := omega) [↓ob_eq, ob_some, ldI, ldR, ldO, stI, stZ, stR, isO, wrA_n, rdA_n, wrA_l, rdA_l, gK_sI, gR_sI, gX_sI, gN_sI, gK_cp, gR_cp, gX_cp, gN_cp, rtZ_0, rtZ_1, if_true, reduceIte, and_self, true_and, and_true, K, em, e1, q2, brS, L_ltn, nI_addL]
      · simp (disch := omega) [↓ob_eq, ob_some, ldI, ldR, ldO, stI, stZ, stR, isO, wrA_n, rdA_n, wrA_l, rdA_l, gK_sI, gR_sI, gX_sI, gN_sI, gK_cp, gR_cp, gX_cp, gN_cp, rtZ_0, rtZ_1, if_true, reduceIte, and_self, true_and, and_true, K, em, e1, q2, brS, L_ltn, nI_addL]
    · have e1 : (99 : Int32) < nI (99 + 1) := by decide
      have K : gK g (b + 131) = (0, 9) := by rw [hg]; exact K131
      rw [f_Mo_rate_21]
      simp [↓ob_eq, ob_some, ldI, ldR, ldO, stI, stZ, stR, isO, wrA_n, rdA_n, wrA_l, rdA_l, gK_sI, gR_sI, gX_sI, gN_sI, gK_cp, gR_cp, gX_cp, gN_cp, rtZ_0, rtZ_1, if_true, reduceIte, and_self, true_and, and_true, e1, em, K]
  rcases in_cases v 1 1 rfl (by omega) with ⟨k, l1, rfl, w1, i1⟩ | ⟨w1, i1⟩
  · have K : gK g (b + 131) = (0, 9) := by rw [hg]; exact K131
    by_cases h0 : nI k = 0
    · have h0' : (nI k = 0) = True := eq_true h0
      exact both_ref I0 (r := br T) (by simp [f_Tc_rate, w1, h0', ↓ob_eq, ob_some, ldI, ldR, ldO, stI, stZ, stR, isO, wrA_n, rdA_n, wrA_l, rdA_l, gK_sI, gR_sI, gX_sI, gN_sI, gK_cp, gR_cp, gX_cp, gN_cp, rtZ_0, rtZ_1, if_true, reduceIte, and_self, true_and, and_true, K0, K1, K2, R0_0, R1_0, bc]) (by rw [← hg]; rw [if_pos h0] at bm; simp [f_Mo_rate, i1, ↓ob_eq, ob_some, ldI, ldR, ldO, stI, stZ, stR, isO, wrA_n, rdA_n, wrA_l, rdA_l, gK_sI, gR_sI, gX_sI, gN_sI, gK_cp, gR_cp, gX_cp, gN_cp, rtZ_0, rtZ_1, if_true, reduceIte, and_self, true_and, and_true, K131, K, ← hg, bm])
    · exact both_ref I0 (r := T (br T)) (by simp [f_Tc_rate, w1, h0, ↓ob_eq, ob_some, ldI, ldR, ldO, stI, stZ, stR, isO, wrA_n, rdA_n, wrA_l, rdA_l, gK_sI, gR_sI, gX_sI, gN_sI, gK_cp, gR_cp, gX_cp, gN_cp, rtZ_0, rtZ_1, if_true, reduceIte, and_self, true_and, and_true, K0, K1, K2, R0_0, R1_0, bc, ec]) (by rw [← hg]; rw [if_neg h0] at bm; simp [f_Mo_rate, i1, ↓ob_eq, ob_some, ldI, ldR, ldO, stI, stZ, stR, isO, wrA_n, rdA_n, wrA_l, rdA_l, gK_sI, gR_sI, gX_sI, gN_sI, gK_cp, gR_cp, gX_cp, gN_cp, rtZ_0, rtZ_1, if_true, reduceIte, and_self, true_and, and_true, K131, K, ← hg, bm])
  · exact both_ref I0 (r := -1) (by simp [f_Tc_rate, w1, ↓ob_eq, ob_some, ldI, ldR, ldO, stI, stZ, stR, isO, wrA_n, rdA_n, wrA_l, rdA_l, gK_sI, gR_sI, gX_sI, gN_sI, gK_cp, gR_cp, gX_cp, gN_cp, rtZ_0, rtZ_1, if_true, reduceIte, and_self, true_and, and_true]) (by simp [f_Mo_rate, i1, ↓ob_eq, ob_some, ldI, ldR, ldO, stI, stZ, stR, isO, wrA_n, rdA_n, wrA_l, rdA_l, gK_sI, gR_sI, gX_sI, gN_sI, gK_cp, gR_cp, gX_cp, gN_cp, rtZ_0, rtZ_1, if_true, reduceIte, and_self, true_and, and_true, K131])
/-- votes of a set of gates -/
def vtS (ga so : Nat → Int32) (set : Int32) (i : Nat) (s : Int32) : Int32 := if jshr set (ga i) &&& 1 = 1 then s + (so i + 1) else s
def vt (ga so : Nat → Int32) (n : Nat) (set : Int32) : Int32 := fo (vtS ga so set) 0 n 0
theorem vt_cg {ga so ga' so' : Nat → Int32} {n : Nat} (h : ∀ i, i < n → ga i = ga' i ∧ so i = so' i) (r : Int32) : vt ga so n r = vt ga' so' n r := by
  unfold vt
  refine fo_cg n (fun i s hi => ?_) 0
  unfold vtS
  rw [(h i hi).1, (h i hi).2]
theorem rl_votesOf {h : PH} {a c w n : Nat} (K : gK h a = (0, 5)) (R10 : gR h a 10 = some c) (R12 : gR h a 12 = some w) (Kc : gK h c = (1, 6)) (Kw : gK h w = (1, 6)) (N9 : gI h a 9 = nI n) (hn : n ≤ 6) (r : Int32) : f_Realm_votesOf a r h = some (vt (gI h c) (gI h w) n r, h) := by
  refine lp0 (fun N (s : Int32) i => f_Realm_votesOf_4 N a r s (nI i) h) (vtS (gI h c) (gI h w) r) n (fun s => some (s, h)) 0 FU (by rw [FU_eq]; omega) (fun N i s hi => ?_) (fun N s => ?_)
  · have e1 : i < 6 := by omega
    have e2 : ¬ n ≤ i := by omega
    rw [f_Realm_votesOf_4]
    unfold vtS
    by_cases q : jshr r (gI h c i) &&& 1 = 1
    · simp (disch := omega) [↓ob_eq, ob_some, ldI, ldR, ldO, stI, stZ, stR, isO, wrA_n, rdA_n, wrA_l, rdA_l, gK_sI, gR_sI, gX_sI, gN_sI, gK_cp, gR_cp, gX_cp, gN_cp, rtZ_0, rtZ_1, if_true, reduceIte, and_self, true_and, and_true, K, R10, R12, Kc, Kw, N9, e1, e2, q, nI_le', nI_addL]
    · simp (disch := omega) [↓ob_eq, ob_some, ldI, ldR, ldO, stI, stZ, stR, isO, wrA_n, rdA_n, wrA_l, rdA_l, gK_sI, gR_sI, gX_sI, gN_sI, gK_cp, gR_cp, gX_cp, gN_cp, rtZ_0, rtZ_1, if_true, reduceIte, and_self, true_and, and_true, K, R10, R12, Kc, Kw, N9, e1, e2, q, nI_le', nI_addL]
  · rw [f_Realm_votesOf_4]
    simp (disch := omega) [↓ob_eq, ob_some, ldI, ldR, ldO, stI, stZ, stR, isO, wrA_n, rdA_n, wrA_l, rdA_l, gK_sI, gR_sI, gX_sI, gN_sI, gK_cp, gR_cp, gX_cp, gN_cp, rtZ_0, rtZ_1, if_true, reduceIte, and_self, true_and, and_true, K, N9, nI_le']
theorem mo_votesIn {h : PH} {a c w n : Nat} (K : gK h a = (0, 9)) (R1 : gR h a 1 = some c) (R11 : gR h a 11 = some w) (Kc : gK h c = (1, 79)) (Kw : gK h w = (1, 6)) (N7 : gI h a 7 = nI n) (hn : n ≤ 6) (r : Int32) : f_Mo_votesIn a r h = some (vt (fun o => gI h c (67 + o)) (gI h w) n r, h) := by
  refine lp0 (fun N (s : Int32) i => f_Mo_votesIn_4 N a r s (nI i) h) (vtS (fun o => gI h c (67 + o)) (gI h w) r) n (fun s => some (s, h)) 0 FU (by rw [FU_eq]; omega) (fun N i s hi => ?_) (fun N s => ?_)
  · have e1 : i < 6 := by omega
    have e3 : 67 + i < 79 := by omega
    have e2 : ¬ n ≤ i := by omega
    rw [f_Mo_votesIn_4]
    unfold vtS
    by_cases q : jshr r (gI h c (67 + i)) &&& 1 = 1
    · simp (disch := omega) [f_Mo_has, ↓ob_eq, ob_some, ldI, ldR, ldO, stI, stZ, stR, isO, wrA_n, rdA_n, wrA_l, rdA_l, gK_sI, gR_sI, gX_sI, gN_sI, gK_cp, gR_cp, gX_cp, gN_cp, rtZ_0, rtZ_1, if_true, reduceIte, and_self, true_and, and_true, K, R1, R11, Kc, Kw, N7, e1, e2, e3, q, nI_le', nI_addL, L_addn, Int32.add_assoc]
    · simp (disch := omega) [f_Mo_has, ↓ob_eq, ob_some, ldI, ldR, ldO, stI, stZ, stR, isO, wrA_n, rdA_n, wrA_l, rdA_l, gK_sI, gR_sI, gX_sI, gN_sI, gK_cp, gR_cp, gX_cp, gN_cp, rtZ_0, rtZ_1, if_true, reduceIte, and_self, true_and, and_true, K, R1, R11, Kc, Kw, N7, e1, e2, e3, q, nI_le', nI_addL, L_addn]
  · rw [f_Mo_votesIn_4]
    simp (disch := omega) [↓ob_eq, ob_some, ldI, ldR, ldO, stI, stZ, stR, isO, wrA_n, rdA_n, wrA_l, rdA_l, gK_sI, gR_sI, gX_sI, gN_sI, gK_cp, gR_cp, gX_cp, gN_cp, rtZ_0, rtZ_1, if_true, reduceIte, and_self, true_and, and_true, K, N7, nI_le']
/-- in how many sets a gate weighs -/
def wgS (V : Int32 → Int32) (g : Int32) (i : Nat) (s : Int32) : Int32 := if jshr (nI i) g &&& 1 = 0 then (if V 15 < 2 * V (nI i) then s else if 2 * V (nI i ||| jshl 1 g) ≤ V 15 then s else s + 1) else s
theorem jbit01 (x y : Int32) : (jshr x y &&& 1 = 1) ↔ ¬ (jshr x y &&& 1 = 0) := by
  obtain ⟨j, hj, e⟩ := pk_andE (jshr x y) (m := 1) 1 rfl
  rw [e]
  have : j = 0 ∨ j = 1 := by omega
  rcases this with rfl | rfl <;> decide
theorem op_votes (b : Nat) : B_votes (Inv b) b (b + 131) := by
  intro h I v w
  have I0 := I
  obtain ⟨s, cd, c_stat, c_realm, c_book, c_law, c_kin, c_shi, c_roa, c_ord, c_han, c_wei, c_bag, c_pri, c_cnt, c_led, c_yea, c_log, c_rdr, c_msc, c_img⟩ := I
  have K0 : gK h b = (0, 8) := s.K 0 (by decide) rfl
  have K1 : gK h (b + 1) = (0, 1) := s.K 1 (by decide) rfl
  have K2 : gK h (b + 2) = (0, 5) := s.K 2 (by decide) rfl
  have K8 : gK h (b + 8) = (1, 6) := s.K 8 (by decide) rfl
  have K10 : gK h (b + 10) = (1, 6) := s.K 10 (by decide) rfl
  have K131 : gK h (b + 131) = (0, 9) := s.K 131 (by decide) rfl
  have K132 : gK h (b + 132) = (1, 79) := s.K 132 (by decide) rfl
  have K138 : gK h (b + 138) = (1, 6) := s.K 138 (by decide) rfl
  have R0_0 : gR h b 0 = some (b + 1) := s.R 0 0 rfl
  have R1_0 : gR h (b + 1) 0 = some (b + 2) := s.R 1 0 rfl
  have R2_10 : gR h (b + 2) 10 = some (b + 8) := s.R 2 10 rfl
  have R2_12 : gR h (b + 2) 12 = some (b + 10) := s.R 2 12 rfl
  have R131_1 : gR h (b + 131) 1 = some (b + 132) := s.R 131 1 rfl
  have R131_11 : gR h (b + 131) 11 = some (b + 138) := s.R 131 11 rfl
  have cr := c_realm
  obtain ⟨⟨hnt, hno⟩, ro, F1, F9, F0, F15, F16, F17, F18, F19, F14, F7, F8, RT, RO⟩ := cr
  have RT : ∀ t, t < ntOf h b → gI h (b + 3) t = gI h (b + 135) t ∧ gI h (b + 4) t = gI h (b + 136) t ∧ gI h (b + 5) t = gI h (b + 132) (7 + t) ∧ gI h (b + 6) t = gI h (b + 132) (19 + t) ∧ gI h (b + 7) t = gI h (b + 132) (31 + t) - 1 := RT
  have RO : ∀ o, o < noOf h b → gI h (b + 8) o = gI h (b + 132) (67 + o) ∧ gI h (b + 9) o = gI h (b + 137) o ∧ gI h (b + 10) o = gI h (b + 138) o ∧ gI h (b + 11) o = gI h (b + 132) (73 + o) := RO
  have hN6 : gI h (b + 131) 6 = nI (ntOf h b) := c_stat.1
  have hN7 : gI h (b + 131) 7 = nI (noOf h b) := c_stat.2.1
  obtain ⟨V, hV⟩ : ∃ V, V = vt (fun o => gI h (b + 132) (67 + o)) (gI h (b + 138)) (noOf h b) := ⟨_, rfl⟩
  have ec : ∀ r, f_Realm_votesOf (b + 2) r h = some (V r, h) := fun r => by
    rw [rl_votesOf K2 R2_10 R2_12 K8 K10 F9 hno r, hV]
    rw [vt_cg (fun i hi => ⟨(RO i hi).1, (RO i hi).2.2.1⟩) r]
  obtain ⟨g, hg⟩ : ∃ g, g = sI h (b + 131) 0 0 := ⟨_, rfl⟩
  have K : gK g (b + 131) = (0, 9) := by rw [hg]; exact K131
  have em : ∀ r, f_Mo_votesIn (b + 131) r g = some (V r, g) := fun r => by
    have e7 : gI g (b + 131) 7 = nI (noOf h b) := by rw [hg]; simp (disch := omega) only [gI_q, gI_n1, gI_n2]; exact hN7
    rw [mo_votesIn K (by rw [hg]; exact R131_1) (by rw [hg]; exact R131_11) (by rw [hg]; exact K132) (by rw [hg]; exact K138) e7 hno r, hV]
    rw [vt_cg (fun i hi => ⟨?_, ?_⟩) r]
    · rw [hg]; simp (disch := omega) only [gI_q, gI_n1, gI_n2]
    · rw [hg]; simp (disch := omega) only [gI_q, gI_n1, gI_n2]
  have bc : ∀ y, f_Realm_weighsOf_12 FU (b + 2) y (V 15) 0 0 h = some (fo (wgS V y) 0 16 0, h) := fun y => by
    refine lp0 (fun N (s : Int32) i => f_Realm_weighsOf_12 N (b + 2) y (V 15) s (nI i) h) (wgS V y) 16 (fun s => some (s, h)) 0 FU (by rw [FU_eq]; omega) (fun N i s hi => ?_) (fun N s => ?_)
    · have e1 : ¬ 16 ≤ i := by omega
      rw [f_Realm_weighsOf_12]
      unfold wgS
      by_cases q : jshr (nI i) y &&& 1 = 0
      · by_cases q2 : V 15 < 2 * V (nI i)
        · simp (disch := omega) [f_Realm_weighsOf_33, ↓ob_eq, ob_some, ldI, ldR, ldO, stI, stZ, stR, isO, wrA_n, rdA_n, wrA_l, rdA_l, gK_sI, gR_sI, gX_sI, gN_sI, gK_cp, gR_cp, gX_cp, gN_cp, rtZ_0, rtZ_1, if_true, reduceIte, and_self, true_and, and_true, K2, ec, e1, q, q2, L_len, nI_addL]
        · by_cases q3 : 2 * V (nI i ||| jshl 1 y) ≤ V 15
          · simp (disch := omega) [f_Realm_weighsOf_33, ↓ob_eq, ob_some, ldI, ldR, ldO, stI, stZ, stR, isO, wrA_n, rdA_n, wrA_l, rdA_l, gK_sI, gR_sI, gX_sI, gN_sI, gK_cp, gR_cp, gX_cp, gN_cp, rtZ_0, rtZ_1, if_true, reduceIte, and_self, true_and, and_true, K2, ec, e1, q, q2, q3, L_len, nI_addL]
          · simp (disch := omega) [f_Realm_weighsOf_33, ↓ob_eq, ob_some, ldI, ldR, ldO, stI, stZ, stR, isO, wrA_n, rdA_n, wrA_l, rdA_l, gK_sI, gR_sI, gX_sI, gN_sI, gK_cp, gR_cp, gX_cp, gN_cp, rtZ_0, rtZ_1, if_true, reduceIte, and_self, true_and, and_true, K2, ec, e1, q, q2, q3, L_len, nI_addL]
      · simp (disch := omega) [f_Realm_weighsOf_33, ↓ob_eq, ob_some, ldI, ldR, ldO, stI, stZ, stR, isO, wrA_n, rdA_n, wrA_l, rdA_l, gK_sI, gR_sI, gX_sI, gN_sI, gK_cp, gR_cp, gX_cp, gN_cp, rtZ_0, rtZ_1, if_true, reduceIte, and_self, true_and, and_true, K2, ec, e1, q, L_len, nI_addL]
    · have e1 : (16 : Int32) ≤ nI 16 := by decide
      rw [f_Realm_weighsOf_12]
      simp [e1]
  have bm : ∀ y, f_Mo_votes_42 FU (b + 131) y 0 0 g = some (fo (wgS V y) 0 16 0, g) := fun y => by
    refine lp0 (fun N (s : Int32) i => f_Mo_votes_42 N (b + 131) y s (nI i) g) (wgS V y) 16 (fun s => some (s, g)) 0 FU (by rw [FU_eq]; omega) (fun N i s hi => ?_) (fun N s => ?_)
    · have e1 : ¬ 16 ≤ i := by omega
      rw [f_Mo_votes_42]
      unfold wgS
      by_cases q : jshr (nI i) y &&& 1 = 0
      · have q1 : ¬ jshr (nI i) y &&& 1 = 1 := fun z => (jbit01 _ _).mp z q
        by_cases q2 : V 15 < 2 * V (nI i)
        · have q4 : ¬ 2 * V (nI i) ≤ V 15 := (fa_of_lt q2).2.1
          simp (disch := omega) [f_Mo_has, f_Mo_isMore, ↓ob_eq, ob_some, ldI, ldR, ldO, stI, stZ, stR, isO, wrA_n, rdA_n, wrA_l, rdA_l, gK_sI, gR_sI, gX_sI, gN_sI, gK_cp, gR_cp, gX_cp, gN_cp, rtZ_0, rtZ_1, if_true, reduceIte, and_self, true_and, and_true, K, em, e1, q, q1, q2, q4, L_len, nI_addL]
        · have q4 : 2 * V (nI i) ≤ V 15 := fa_of_nlt q2
          by_cases q3 : 2 * V (nI i ||| jshl 1 y) ≤ V 15
          · simp (disch := omega) [f_Mo_has, f_Mo_isMore, ↓ob_eq, ob_some, ldI, ldR, ldO, stI, stZ, stR, isO, wrA_n, rdA_n, wrA_l, rdA_l, gK_sI, gR_sI, gX_sI, gN_sI, gK_cp, gR_cp, gX_cp, gN_cp, rtZ_0, rtZ_1, if_true, reduceIte, and_self, true_and, and_true, K, em, e1, q, q1, q2, q3, q4, L_len, nI_addL]
          · simp (disch := omega) [f_Mo_has, f_Mo_isMore, ↓ob_eq, ob_some, ldI, ldR, ldO, stI, stZ, stR, isO, wrA_n, rdA_n, wrA_l, rdA_l, gK_sI, gR_sI, gX_sI, gN_sI, gK_cp, gR_cp, gX_cp, gN_cp, rtZ_0, rtZ_1, if_true, reduceIte, and_self, true_and, and_true, K, em, e1, q, q1, q2, q3, q4, L_len, nI_addL]
      · have q1 : jshr (nI i) y &&& 1 = 1 := (jbit01 _ _).mpr q
        simp (disch := omega) [f_Mo_has, ↓ob_eq, ob_some, ldI, ldR, ldO, stI, stZ, stR, isO, wrA_n, rdA_n, wrA_l, rdA_l, gK_sI, gR_sI, gX_sI, gN_sI, gK_cp, gR_cp, gX_cp, gN_cp, rtZ_0, rtZ_1, if_true, reduceIte, and_self, true_and, and_true, K, em, e1, q, q1, L_len, nI_addL]
    · have e1 : (16 : Int32) ≤ nI 16 := by decide
      rw [f_Mo_votes_42]
      simp [e1]
  have hgate : ∀ k, k ≤ 3 → f_Mo_isGate (b + 131) (nI k) g = some (1, g) := fun k hk => by
    have e0 : ¬ nI k < 0 := nI_pos (by omega)
    have e1 : ¬ 4 ≤ k := by omega
    simp (disch := omega) [f_Mo_isGate, e0, e1, L_len, rtZ_1]
  rcases in_cases v 3 3 rfl (by omega) with ⟨k, l1, rfl, w1, i1⟩ | ⟨w1, i1⟩
  · rcases in_cases w 1 1 rfl (by omega) with ⟨k2, l2, rfl, w2, i2⟩ | ⟨w2, i2⟩
    · by_cases h0 : nI k2 = 0
      · have h0' : (nI k2 = 0) = True := eq_true h0
        exact both_ref I0 (r := V (jshl 1 (nI k))) (by simp [f_Tc_votes, w1, w2, h0', ↓ob_eq, ob_some, ldI, ldR, ldO, stI, stZ, stR, isO, wrA_n, rdA_n, wrA_l, rdA_l, gK_sI, gR_sI, gX_sI, gN_sI, gK_cp, gR_cp, gX_cp, gN_cp, rtZ_0, rtZ_1, if_true, reduceIte, and_self, true_and, and_true, K0, K1, K2, R0_0, R1_0, ec]) (by rw [← hg]; simp [f_Mo_votes, hgate k l1, i2, h0', ↓ob_eq, ob_some, ldI, ldR, ldO, stI, stZ, stR, isO, wrA_n, rdA_n, wrA_l, rdA_l, gK_sI, gR_sI, gX_sI, gN_sI, gK_cp, gR_cp, gX_cp, gN_cp, rtZ_0, rtZ_1, if_true, reduceIte, and_self, true_and, and_true, K131, K, ← hg, em])
      · exact both_ref I0 (r := fo (wgS V (nI k)) 0 16 0) (by simp [f_Tc_votes, f_Realm_weighsOf, w1, w2, h0, ↓ob_eq, ob_some, ldI, ldR, ldO, stI, stZ, stR, isO, wrA_n, rdA_n, wrA_l, rdA_l, gK_sI, gR_sI, gX_sI, gN_sI, gK_cp, gR_cp, gX_cp, gN_cp, rtZ_0, rtZ_1, if_true, reduceIte, and_self, true_and, and_true, K0, K1, K2, R0_0, R1_0, ec, bc]) (by rw [← hg]; simp [f_Mo_votes, hgate k l1, i2, h0, ↓ob_eq, ob_some, ldI, ldR, ldO, stI, stZ, stR, isO, wrA_n, rdA_n, wrA_l, rdA_l, gK_sI, gR_sI, gX_sI, gN_sI, gK_cp, gR_cp, gX_cp, gN_cp, rtZ_0, rtZ_1, if_true, reduceIte, and_self, true_and, and_true, K131, K, ← hg, bm])
    · exact both_ref I0 (r := -1) (by simp [f_Tc_votes, w1, w2, ↓ob_eq, ob_some, ldI, ldR, ldO, stI, stZ, stR, isO, wrA_n, rdA_n, wrA_l, rdA_l, gK_sI, gR_sI, gX_sI, gN_sI, gK_cp, gR_cp, gX_cp, gN_cp, rtZ_0, rtZ_1, if_true, reduceIte, and_self, true_and, and_true]) (by rw [← hg]; simp [f_Mo_votes, hgate k l1, i2, ↓ob_eq, ob_some, ldI, ldR, ldO, stI, stZ, stR, isO, wrA_n, rdA_n, wrA_l, rdA_l, gK_sI, gR_sI, gX_sI, gN_sI, gK_cp, gR_cp, gX_cp, gN_cp, rtZ_0, rtZ_1, if_true, reduceIte, and_self, true_and, and_true, K131, K, ← hg])
  · have hng : f_Mo_isGate (b + 131) v g = some (0, g) := by
      have := i1 (b + 131) g
      unfold f_Mo_isIn at this
      unfold f_Mo_isGate
      by_cases e0 : v < 0
      · rw [if_pos e0, rtZ_0]
      · rw [if_neg e0] at this ⊢
        by_cases e1 : (3 : Int32) < v
        · have e4 : (4 : Int32) ≤ v := by
            rw [fa_le]; rw [fa_lt] at e1
            have e3 : (3 : Int32).toInt = 3 := rfl
            have e4 : (4 : Int32).toInt = 4 := rfl
            omega
          rw [if_pos e4, rtZ_0]
        · rw [if_neg e1, rtZ_1] at this
          cases this
    exact both_ref I0 (r := -1) (by simp [f_Tc_votes, w1, ↓ob_eq, ob_some, ldI, ldR, ldO, stI, stZ, stR, isO, wrA_n, rdA_n, wrA_l, rdA_l, gK_sI, gR_sI, gX_sI, gN_sI, gK_cp, gR_cp, gX_cp, gN_cp, rtZ_0, rtZ_1, if_true, reduceIte, and_self, true_and, and_true]) (by rw [← hg]; simp [f_Mo_votes, hng, ↓ob_eq, ob_some, ldI, ldR, ldO, stI, stZ, stR, isO, wrA_n, rdA_n, wrA_l, rdA_l, gK_sI, gR_sI, gX_sI, gN_sI, gK_cp, gR_cp, gX_cp, gN_cp, rtZ_0, rtZ_1, if_true, reduceIte, and_self, true_and, and_true, K131, K, ← hg])
