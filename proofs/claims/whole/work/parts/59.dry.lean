/-! ===== dry, altered ===== -/
/-- how long it is dry up to a year -/
def rn (x : Nat) : Nat → Nat
  | 0 => 0
  | k + 1 => if x.testBit k then 0 else rn x k + 1
def lg (x : Nat) : Nat → Nat
  | 0 => 0
  | k + 1 => Nat.max (lg x k) (rn x (k + 1))
def bg (x : Nat) : Nat → Int32
  | 0 => -1
  | k + 1 => if lg x k < rn x (k + 1) then nI (k + 1 - rn x (k + 1)) else bg x k
theorem rn_le (x : Nat) : ∀ k, rn x k ≤ k
  | 0 => Nat.le_refl _
  | k + 1 => by
    have := rn_le x k
    rw [rn]
    split <;> omega
theorem lg_le (x : Nat) : ∀ k, lg x k ≤ k
  | 0 => Nat.le_refl _
  | k + 1 => Nat.max_le.mpr ⟨Nat.le_trans (lg_le x k) (by omega), rn_le x (k + 1)⟩
theorem lg_bg (x : Nat) : ∀ n, (∀ j, j < n → rn x (j + 1) ≤ lg x n) ∧ ((lg x n = 0 ∧ bg x n = -1) ∨ (0 < lg x n ∧ ∃ k0, k0 < n ∧ rn x (k0 + 1) = lg x n ∧ (∀ j, j < k0 → rn x (j + 1) < lg x n) ∧ bg x n = nI (k0 + 1 - lg x n)))
  | 0 => ⟨fun j hj => absurd hj (by omega), Or.inl ⟨rfl, rfl⟩⟩
  | n + 1 => by
    obtain ⟨h1, h2⟩ := lg_bg x n
    have hm : lg x (n + 1) = Nat.max (lg x n) (rn x (n + 1)) := rfl
    have hb : bg x (n + 1) = if lg x n < rn x (n + 1) then nI (n + 1 - rn x (n + 1)) else bg x n := rfl
    by_cases c : lg x n < rn x (n + 1)
    · have hm2 : lg x (n + 1) = rn x (n + 1) := hm.trans (Nat.max_eq_right (by omega))
      rw [if_pos c] at hb
      refine ⟨fun j hj => ?_, Or.inr ⟨by omega, n, by omega, hm2.symm, fun j hj => ?_, by rw [hm2]; exact hb⟩⟩
      · by_cases e : j = n
        · subst e; omega
        · have := h1 j (by omega); omega
      · have := h1 j hj; omega
    · have hm2 : lg x (n + 1) = lg x n := hm.trans (Nat.max_eq_left (by omega))
      rw [if_neg c] at hb
      rw [hm2, hb]
      refine ⟨fun j hj => ?_, ?_⟩
      · by_cases e : j = n
        · subst e; omega
        · exact h1 j (by omega)
      · rcases h2 with h2 | ⟨a1, k0, a2, a3, a4, a5⟩
        · exact Or.inl h2
        · exact Or.inr ⟨a1, k0, by omega, a3, a4, a5⟩
theorem jmaxN {a c : Nat} (ha : a < 2147483648) (hc : c < 2147483648) : jmax (nI a) (nI c) = nI (Nat.max a c) := by
  unfold jmax
  by_cases q : a < c
  · rw [if_pos ((nI_ltI ha hc).mpr q)]; exact congrArg nI (Nat.max_eq_right (by omega)).symm
  · rw [if_neg (fun z => q ((nI_ltI ha hc).mp z))]; exact congrArg nI (Nat.max_eq_left (by omega)).symm
theorem jminN {a c : Nat} (ha : a < 2147483648) (hc : c < 2147483648) : jmin (nI a) (nI c) = nI (Nat.min a c) := by
  unfold jmin
  by_cases q : c < a
  · rw [if_pos ((nI_ltI hc ha).mpr q)]; exact congrArg nI (Nat.min_eq_right (by omega)).symm
  · rw [if_neg (fun z => q ((nI_ltI hc ha).mp z))]; exact congrArg nI (Nat.min_eq_left (by omega)).symm
theorem sub_add1 {k r : Nat} (h : r ≤ k + 1) (hk : k < 1000000) : nI k - nI r + 1 = nI (k + 1 - r) := by
  have e1 : (nI k - nI r).toInt = (k : Int) - r := pk_sub_toInt (by omega) (by omega)
  have e2 : (1 : Int32).toInt = 1 := rfl
  have e3 : (nI (k + 1 - r)).toInt = ((k + 1 - r : Nat) : Int) := nI_toInt (by omega)
  rw [fa_eq, fb_addI (by omega) (by omega), e1, e2, e3]
  omega
theorem tl_longest {h : PH} {a n x : Nat} (K : gK h a = (0, 7)) (N8 : gI h a 8 = nI n) (N9 : gI h a 9 = nI x) (hn : n ≤ 30) (hx : x < 2 ^ n) : f_Told_longestDry a h = some (nI (lg x n), h) := by
  have hx31 : x < 2 ^ 31 := Nat.lt_of_lt_of_le hx (Nat.pow_le_pow_right (by decide) (by omega))
  refine (lp (fun N (s : Nat × Nat) i => f_Told_longestDry_6 N a (nI s.1) (nI s.2) (nI i) h) (fun i _ => (lg x (i + 1), rn x (i + 1))) (fun i s => s = (lg x i, rn x i)) n (fun s => some (nI (lg x n), h)) (fun N i s hi q => ?_) (fun i s hi q => rfl) (fun N s q => ?_) n 0 (0, 0) FU (by omega) rfl (by rw [FU_eq]; omega)).1
  · subst q
    have e2 : ¬ n ≤ i := by omega
    have r1 := rn_le x i
    have r2 := rn_le x (i + 1)
    have l1 := lg_le x i
    rw [f_Told_longestDry_6]
    by_cases q : x.testBit i = true
    · have hb : ¬ jshr (nI x) (nI i) &&& 1 = 0 := fun z => by rw [jbit0 (by omega) hx31, q] at z; cases z
      have er : rn x (i + 1) = 0 := by rw [rn, if_pos q]
      simp (disch := omega) [f_Told_longestDry_32, ↓ob_eq, ob_some, ldI, ldR, ldO, stI, stZ, stR, isO, wrA_n, rdA_n, wrA_l, rdA_l, gK_sI, gR_sI, gX_sI, gN_sI, gK_cp, gR_cp, gX_cp, gN_cp, rtZ_0, rtZ_1, if_true, reduceIte, and_self, true_and, and_true, K, N8, N9, e2, hb, nI_le', nI_addL, er]
      have e0 : jmax (nI (lg x i)) 0 = nI (lg x (i + 1)) := by
        refine (jmaxN (c := 0) (by omega) (by omega)).trans ?_
        rw [lg, er]
      rw [e0]; rfl
    · have hb : jshr (nI x) (nI i) &&& 1 = 0 := by rw [jbit0 (by omega) hx31]; simpa using q
      have er : rn x (i + 1) = rn x i + 1 := by rw [rn, if_neg q]
      have e0 : jmax (nI (lg x i)) (nI (rn x i + 1)) = nI (lg x (i + 1)) := by
        rw [jmaxN (by omega) (by omega), lg, er]
      simp (disch := omega) [f_Told_longestDry_32, ↓ob_eq, ob_some, ldI, ldR, ldO, stI, stZ, stR, isO, wrA_n, rdA_n, wrA_l, rdA_l, gK_sI, gR_sI, gX_sI, gN_sI, gK_cp, gR_cp, gX_cp, gN_cp, rtZ_0, rtZ_1, if_true, reduceIte, and_self, true_and, and_true, K, N8, N9, e2, hb, nI_le', nI_addL, er, e0]
  · subst q
    rw [f_Told_longestDry_6]
    simp (disch := omega) [↓ob_eq, ob_some, ldI, ldR, ldO, stI, stZ, stR, isO, wrA_n, rdA_n, wrA_l, rdA_l, gK_sI, gR_sI, gX_sI, gN_sI, gK_cp, gR_cp, gX_cp, gN_cp, rtZ_0, rtZ_1, if_true, reduceIte, and_self, true_and, and_true, K, N8, nI_le']
theorem tl_begin {h : PH} {a n x : Nat} (K : gK h a = (0, 7)) (N8 : gI h a 8 = nI n) (N9 : gI h a 9 = nI x) (hn : n ≤ 30) (hx : x < 2 ^ n) : f_Told_dryBegin a (nI (lg x n)) h = some (bg x n, h) := by
  have hx31 : x < 2 ^ 31 := Nat.lt_of_lt_of_le hx (Nat.pow_le_pow_right (by decide) (by omega))
  have hl := lg_le x n
  have key : f_Told_dryBegin a (nI (lg x n)) h = fox (fun i _ => decide (0 < rn x (i + 1) ∧ rn x (i + 1) = lg x n)) (fun i _ => some (nI (i + 1 - rn x (i + 1)), h)) (fun i _ => rn x (i + 1)) (fun _ => some (-1, h)) 0 n 0 := by
    refine lpx (fun N (s : Nat) i => f_Told_dryBegin_4 N a (nI (lg x n)) (nI s) (nI i) h) _ _ _ (fun i s => s = rn x i) n _ (fun N i s hi q w => ?_) (fun N i s hi q w => ?_) (fun i s hi q w => rfl) (fun N s q => ?_) n 0 0 FU (by omega) rfl (by rw [FU_eq]; omega)
    · subst q
      have e2 : ¬ n ≤ i := by omega
      have r1 := rn_le x i
      obtain ⟨w1, w2⟩ := of_decide_eq_true w
      have q : ¬ x.testBit i = true := fun q => by rw [rn, if_pos q] at w1; omega
      have hb : jshr (nI x) (nI i) &&& 1 = 0 := by rw [jbit0 (by omega) hx31]; simpa using q
      have er : rn x (i + 1) = rn x i + 1 := by rw [rn, if_neg q]
      have e3 : ¬ nI (rn x i + 1) ≤ 0 := by rw [nI_leL (n := 0) (by omega) (by decide)]; simp
      have e4 : nI i - nI (rn x i + 1) + 1 = nI (i + 1 - (rn x i + 1)) := sub_add1 (by omega) (by omega)
      rw [f_Told_dryBegin_4]
      simp (disch := omega) [f_Told_dryBegin_30, ↓ob_eq, ob_some, ldI, ldR, ldO, stI, stZ, stR, isO, wrA_n, rdA_n, wrA_l, rdA_l, gK_sI, gR_sI, gX_sI, gN_sI, gK_cp, gR_cp, gX_cp, gN_cp, rtZ_0, rtZ_1, if_true, reduceIte, and_self, true_and, and_true, K, N8, N9, e2, e3, hb, nI_le', nI_addL, er, ← w2, e4]
    · subst q
      have e2 : ¬ n ≤ i := by omega
      have r1 := rn_le x i
      have w1 := of_decide_eq_false w
      rw [f_Told_dryBegin_4]
      by_cases q : x.testBit i = true
      · have hb : ¬ jshr (nI x) (nI i) &&& 1 = 0 := fun z => by rw [jbit0 (by omega) hx31, q] at z; cases z
        have er : rn x (i + 1) = 0 := by rw [rn, if_pos q]
        have e3 : (0 : Int32) ≤ 0 := by decide
        simp (disch := omega) [f_Told_dryBegin_30, ↓ob_eq, ob_some, ldI, ldR, ldO, stI, stZ, stR, isO, wrA_n, rdA_n, wrA_l, rdA_l, gK_sI, gR_sI, gX_sI, gN_sI, gK_cp, gR_cp, gX_cp, gN_cp, rtZ_0, rtZ_1, if_true, reduceIte, and_self, true_and, and_true, K, N8, N9, e2, e3, hb, nI_le', nI_addL, er]
        rfl
      · have hb : jshr (nI x) (nI i) &&& 1 = 0 := by rw [jbit0 (by omega) hx31]; simpa using q
        have er : rn x (i + 1) = rn x i + 1 := by rw [rn, if_neg q]
        have e3 : ¬ nI (rn x i + 1) ≤ 0 := by rw [nI_leL (n := 0) (by omega) (by decide)]; simp
        have e4 : ¬ rn x i + 1 = lg x n := fun z => w1 ⟨by omega, by omega⟩
        simp (disch := omega) [f_Told_dryBegin_30, ↓ob_eq, ob_some, ldI, ldR, ldO, stI, stZ, stR, isO, wrA_n, rdA_n, wrA_l, rdA_l, gK_sI, gR_sI, gX_sI, gN_sI, gK_cp, gR_cp, gX_cp, gN_cp, rtZ_0, rtZ_1, if_true, reduceIte, and_self, true_and, and_true, K, N8, N9, e2, e3, hb, nI_le', nI_addL, nI_eq', er, e4]
    · rw [f_Told_dryBegin_4]
      simp (disch := omega) [↓ob_eq, ob_some, ldI, ldR, ldO, stI, stZ, stR, isO, wrA_n, rdA_n, wrA_l, rdA_l, gK_sI, gR_sI, gX_sI, gN_sI, gK_cp, gR_cp, gX_cp, gN_cp, rtZ_0, rtZ_1, if_true, reduceIte, and_self, true_and, and_true, K, N8, nI_le']
  rw [key]
  obtain ⟨h1, h2⟩ := lg_bg x n
  rcases h2 with ⟨a1, a2⟩ | ⟨a1, k0, a2, a3, a4, a5⟩
  · rw [fox_no n 0 0 (fun j hj => decide_eq_false (fun z => by omega)), a2]
  · have := fox_at (ex := fun i (_ : Nat) => decide (0 < rn x (i + 1) ∧ rn x (i + 1) = lg x n)) (out := fun i _ => some (nI (i + 1 - rn x (i + 1)), h)) (st := fun i _ => rn x (i + 1)) (fin := fun _ => some (-1, h)) n 0 0 k0 a2 (fun j hj => decide_eq_false (fun z => by have := a4 j hj; rw [Nat.zero_add] at z; omega)) (decide_eq_true (by rw [Nat.zero_add]; omega))
    rw [this, Nat.zero_add, a3, a5]
theorem mo_dry {h : PH} {a n x : Nat} {v : Int32} (K : gK h a = (0, 9)) (N8 : gI h a 68 = nI n) (N9 : gI h a 69 = nI x) (hn : n ≤ 30) (hx : x < 2 ^ n) : f_Mo_dry_27 FU a v 0 0 (-1) 0 h = if v = 0 then some (nI (lg x n), h) else some (bg x n, h) := by
  have hx31 : x < 2 ^ 31 := Nat.lt_of_lt_of_le hx (Nat.pow_le_pow_right (by decide) (by omega))
  refine (lp (fun N (s : Nat × Nat × Int32) i => f_Mo_dry_27 N a v (nI s.2.1) (nI s.1) s.2.2 (nI i) h) (fun i _ => (lg x (i + 1), rn x (i + 1), bg x (i + 1))) (fun i s => s = (lg x i, rn x i, bg x i)) n (fun s => if v = 0 then some (nI (lg x n), h) else some (bg x n, h)) (fun N i s hi q => ?_) (fun i s hi q => rfl) (fun N s q => ?_) n 0 (0, 0, -1) FU (by omega) rfl (by rw [FU_eq]; omega)).1
  · subst q
    have e2 : ¬ n ≤ i := by omega
    have r1 := rn_le x i
    have r2 := rn_le x (i + 1)
    have l1 := lg_le x i
    rw [f_Mo_dry_27]
    by_cases q : x.testBit i = true
    · have hb : jshr (nI x) (nI i) &&& 1 = 1 := by rw [jbit1 (by omega) hx31]; exact q
      have er : rn x (i + 1) = 0 := by rw [rn, if_pos q]
      have e1 : lg x (i + 1) = lg x i := by rw [lg, er]; exact Nat.max_eq_left (by omega)
      have e3 : bg x (i + 1) = bg x i := by rw [bg, er, if_neg (by omega)]
      have e4 : ¬ nI (lg x i) < 0 := nI_pos (by omega)
      simp (disch := omega) [f_Mo_has, f_Mo_dry_56, ↓ob_eq, ob_some, ldI, ldR, ldO, stI, stZ, stR, isO, wrA_n, rdA_n, wrA_l, rdA_l, gK_sI, gR_sI, gX_sI, gN_sI, gK_cp, gR_cp, gX_cp, gN_cp, rtZ_0, rtZ_1, if_true, reduceIte, and_self, true_and, and_true, K, N8, N9, e2, hb, nI_le', nI_addL, er, e1, e3, e4]
      rfl
    · have hb : ¬ jshr (nI x) (nI i) &&& 1 = 1 := fun z => q ((jbit1 (by omega) hx31).mp z)
      have er : rn x (i + 1) = rn x i + 1 := by rw [rn, if_neg q]
      have e4 : nI i - nI (rn x i + 1) + 1 = nI (i + 1 - (rn x i + 1)) := sub_add1 (by omega) (by omega)
      by_cases c : lg x i < rn x i + 1
      · have e1 : lg x (i + 1) = rn x i + 1 := by rw [lg, er]; exact Nat.max_eq_right (by omega)
        have e3 : bg x (i + 1) = nI (i + 1 - (rn x i + 1)) := by rw [bg, er, if_pos c]
        simp (disch := omega) [f_Mo_has, f_Mo_dry_56, ↓ob_eq, ob_some, ldI, ldR, ldO, stI, stZ, stR, isO, wrA_n, rdA_n, wrA_l, rdA_l, gK_sI, gR_sI, gX_sI, gN_sI, gK_cp, gR_cp, gX_cp, gN_cp, rtZ_0, rtZ_1, if_true, reduceIte, and_self, true_and, and_true, K, N8, N9, e2, hb, nI_le', nI_lt', nI_addL, er, e1, e3, e4, c]
      · have e1 : lg x (i + 1) = lg x i := by rw [lg, er]; exact Nat.max_eq_left (by omega)
        have e3 : bg x (i + 1) = bg x i := by rw [bg, er, if_neg c]
        simp (disch := omega) [f_Mo_has, f_Mo_dry_56, ↓ob_eq, ob_some, ldI, ldR, ldO, stI, stZ, stR, isO, wrA_n, rdA_n, wrA_l, rdA_l, gK_sI, gR_sI, gX_sI, gN_sI, gK_cp, gR_cp, gX_cp, gN_cp, rtZ_0, rtZ_1, if_true, reduceIte, and_self, true_and, and_true, K, N8, N9, e2, hb, nI_le', nI_lt', nI_addL, er, e1, e3, c]
  · subst q
    rw [f_Mo_dry_27]
    simp (disch := omega) [↓ob_eq, ob_some, ldI, ldR, ldO, stI, stZ, stR, isO, wrA_n, rdA_n, wrA_l, rdA_l, gK_sI, gR_sI, gX_sI, gN_sI, gK_cp, gR_cp, gX_cp, gN_cp, rtZ_0, rtZ_1, if_true, reduceIte, and_self, true_and, and_true, K, N8, nI_le']
theorem op_dry (b : Nat) : B_dry (Inv b) b (b + 131) := by
  intro h I v
  have I0 := I
  obtain ⟨s, cd, c_stat, c_realm, c_book, c_law, c_kin, c_shi, c_roa, c_ord, c_han, c_wei, c_bag, c_pri, c_cnt, c_led, c_yea, c_log, c_rdr, c_msc, c_img⟩ := I
  have K0 : gK h b = (0, 8) := s.K 0 (by decide) rfl
  have K1 : gK h (b + 1) = (0, 1) := s.K 1 (by decide) rfl
  have K25 : gK h (b + 25) = (0, 7) := s.K 25 (by decide) rfl
  have K131 : gK h (b + 131) = (0, 9) := s.K 131 (by decide) rfl
  have R0_0 : gR h b 0 = some (b + 1) := s.R 0 0 rfl
  have R1_6 : gR h (b + 1) 6 = some (b + 25) := s.R 1 6 rfl
  obtain ⟨n, x, hn, hx, y1, y2, y3, y4⟩ := c_yea
  have c1 := tl_longest K25 y1 y3 hn hx
  have c2 := tl_begin K25 y1 y3 hn hx
  obtain ⟨g, hg⟩ : ∃ g, g = sI h (b + 131) 0 0 := ⟨_, rfl⟩
  have K : gK g (b + 131) = (0, 9) := by rw [hg]; exact K131
  have c3 := mo_dry (h := g) (a := b + 131) (v := v) K (by rw [hg]; simp (disch := omega) only [gI_q, gI_n1, gI_n2]; exact y2) (by rw [hg]; simp (disch := omega) only [gI_q, gI_n1, gI_n2]; exact y4) hn hx
  rcases in_cases v 1 1 rfl (by omega) with ⟨k, l1, rfl, w1, i1⟩ | ⟨w1, i1⟩
  · by_cases h0 : nI k = 0
    · have h0' : (nI k = 0) = True := eq_true h0
      rw [if_pos h0] at c3
      exact both_ref I0 (r := nI (lg x n)) (by simp [f_Tc_dry, w1, h0', ↓ob_eq, ob_some, ldI, ldR, ldO, stI, stZ, stR, isO, wrA_n, rdA_n, wrA_l, rdA_l, gK_sI, gR_sI, gX_sI, gN_sI, gK_cp, gR_cp, gX_cp, gN_cp, rtZ_0, rtZ_1, if_true, reduceIte, and_self, true_and, and_true, K0, K1, K25, R0_0, R1_6, c1]) (by rw [← hg]; simp [f_Mo_dry, i1, ↓ob_eq, ob_some, ldI, ldR, ldO, stI, stZ, stR, isO, wrA_n, rdA_n, wrA_l, rdA_l, gK_sI, gR_sI, gX_sI, gN_sI, gK_cp, gR_cp, gX_cp, gN_cp, rtZ_0, rtZ_1, if_true, reduceIte, and_self, true_and, and_true, K131, K, ← hg, c3])
    · rw [if_neg h0] at c3
      exact both_ref I0 (r := bg x n) (by simp [f_Tc_dry, w1, h0, ↓ob_eq, ob_some, ldI, ldR, ldO, stI, stZ, stR, isO, wrA_n, rdA_n, wrA_l, rdA_l, gK_sI, gR_sI, gX_sI, gN_sI, gK_cp, gR_cp, gX_cp, gN_cp, rtZ_0, rtZ_1, if_true, reduceIte, and_self, true_and, and_true, K0, K1, K25, R0_0, R1_6, c1, c2]) (by rw [← hg]; simp [f_Mo_dry, i1, ↓ob_eq, ob_some, ldI, ldR, ldO, stI, stZ, stR, isO, wrA_n, rdA_n, wrA_l, rdA_l, gK_sI, gR_sI, gX_sI, gN_sI, gK_cp, gR_cp, gX_cp, gN_cp, rtZ_0, rtZ_1, if_true, reduceIte, and_self, true_and, and_true, K131, K, ← hg, c3])
  · exact both_ref I0 (r := -1) (by simp [f_Tc_dry, w1, ↓ob_eq, ob_some, ldI, ldR, ldO, stI, stZ, stR, isO, wrA_n, rdA_n, wrA_l, rdA_l, gK_sI, gR_sI, gX_sI, gN_sI, gK_cp, gR_cp, gX_cp, gN_cp, rtZ_0, rtZ_1, if_true, reduceIte, and_self, true_and, and_true]) (by simp [f_Mo_dry, i1, ↓ob_eq, ob_some, ldI, ldR, ldO, stI, stZ, stR, isO, wrA_n, rdA_n, wrA_l, rdA_l, gK_sI, gR_sI, gX_sI, gN_sI, gK_cp, gR_cp, gX_cp, gN_cp, rtZ_0, rtZ_1, if_true, reduceIte, and_self, true_and, and_true, K131])
/-- by how much a line of the ledger is above its sum -/
def off (f : Nat → Int32) (base lw cw l : Nat) : Int32 := (f (l * lw) + f (l * lw + cw) + f (l * lw + 2 * cw) + f (l * lw + 3 * cw)) - f (base + l)
theorem off_cg {f g : Nat → Int32} (e : ∀ j, j < 24 → f j = g j) {base lw cw l : Nat} (h1 : l * lw + 3 * cw < 24) (h2 : base + l < 24) : off f base lw cw l = off g base lw cw l := by
  unfold off
  rw [e _ (by omega), e _ (by omega), e _ (by omega), e _ h1, e _ h2]
theorem tl_above {h : PH} {a c base lw cw l : Nat} (K : gK h a = (0, 7)) (R : gR h a 7 = some c) (Kc : gK h c = (1, 24)) (hl : l < 4) (h1 : l * lw + 3 * cw < 16) (h2 : base + l < 24) : f_Told_aboveSum a (nI base) (nI l) (nI lw) (nI cw) h = some (off (gI h c) base lw cw l, h) := by
  have e0 : ¬ nI l < 0 := nI_pos (by omega)
  have e1 : ¬ 4 ≤ l := by omega
  have e5 : f_Told_aboveSum a (nI base) (nI l) (nI lw) (nI cw) h = f_Told_aboveSum_27 FU a (nI l) (nI lw) (nI cw) (- gI h c (base + l)) 0 h := by
    simp (disch := omega) [f_Told_aboveSum, f_Told_aboveSum_22, ↓ob_eq, ob_some, ldI, ldR, ldO, stI, stZ, stR, isO, wrA_n, rdA_n, wrA_l, rdA_l, gK_sI, gR_sI, gX_sI, gN_sI, gK_cp, gR_cp, gX_cp, gN_cp, rtZ_0, rtZ_1, if_true, reduceIte, and_self, true_and, and_true, K, R, Kc, e0, e1, h2, L_len, nI_add]
  rw [e5]
  refine (lp0 (fun N (s : Int32) i => f_Told_aboveSum_27 N a (nI l) (nI lw) (nI cw) s (nI i) h) (fun i s => s + gI h c (l * lw + i * cw)) 4 (fun s => some (s, h)) _ FU (by rw [FU_eq]; omega) (fun N i s hi => ?_) (fun N s => ?_)).trans ?_
  · have e2 : ¬ 4 ≤ i := by omega
    have e3 : i * cw ≤ 3 * cw := Nat.mul_le_mul_right cw (by omega)
    have e4 : l * lw + i * cw < 24 := by omega
    have e6 : f_Tc_within (nI (l * lw + i * cw)) 15 h = some (1, h) := by
      have e7 : ¬ nI (l * lw + i * cw) < 0 := nI_pos (by omega)
      have e8 : ¬ 15 < l * lw + i * cw := by omega
      simp (disch := omega) [f_Tc_within, e7, e8, L_ltn, rtZ_1]
    rw [f_Told_aboveSum_27]
    simp (disch := omega) [f_Told_aboveSum_67, ↓ob_eq, ob_some, ldI, ldR, ldO, stI, stZ, stR, isO, wrA_n, rdA_n, wrA_l, rdA_l, gK_sI, gR_sI, gX_sI, gN_sI, gK_cp, gR_cp, gX_cp, gN_cp, rtZ_0, rtZ_1, if_true, reduceIte, and_self, true_and, and_true, K, R, Kc, e2, e4, e6, L_len, nI_add, pk_mul, nI_addL]
  · have e1 : (4 : Int32) ≤ nI 4 := by decide
    rw [f_Told_aboveSum_27]
    simp [e1]
  · simp only [fo, off, Nat.zero_mul, Nat.one_mul, Nat.add_zero, Nat.zero_add, Option.some.injEq, Prod.mk.injEq, and_true, Int32.sub_eq_add_neg]
    ac_rfl
theorem mo_off {h : PH} {a c l : Nat} (K : gK h a = (0, 9)) (R : gR h a 67 = some c) (Kc : gK h c = (1, 24)) (hl : l < 4) (z : Int32) : f_Mo_offOf a (nI l) z h = some (if z = 0 then off (gI h c) 16 4 1 l else off (gI h c) 20 1 4 l, h) := by
  refine (lp0 (fun N (s : Int32) i => f_Mo_offOf_5 N a (nI l) z s (nI i) h) (fun i s => s + if z = 0 then gI h c (4 * l + i) else gI h c (4 * i + l)) 4 (fun s => some (s - if z = 0 then gI h c (16 + l) else gI h c (20 + l), h)) _ FU (by rw [FU_eq]; omega) (fun N i s hi => ?_) (fun N s => ?_)).trans ?_
  · have e2 : ¬ 4 ≤ i := by omega
    have e3 : 4 * l + i < 24 := by omega
    have e4 : 4 * i + l < 24 := by omega
    rw [f_Mo_offOf_5]
    by_cases q : z = 0
    · simp (disch := omega) [f_Mo_offOf_35, ↓ob_eq, ob_some, ldI, ldR, ldO, stI, stZ, stR, isO, wrA_n, rdA_n, wrA_l, rdA_l, gK_sI, gR_sI, gX_sI, gN_sI, gK_cp, gR_cp, gX_cp, gN_cp, rtZ_0, rtZ_1, if_true, reduceIte, and_self, true_and, and_true, K, R, Kc, e2, e3, e4, q, L_len, nI_add, L_muln, nI_addL]
    · simp (disch := omega) [f_Mo_offOf_35, ↓ob_eq, ob_some, ldI, ldR, ldO, stI, stZ, stR, isO, wrA_n, rdA_n, wrA_l, rdA_l, gK_sI, gR_sI, gX_sI, gN_sI, gK_cp, gR_cp, gX_cp, gN_cp, rtZ_0, rtZ_1, if_true, reduceIte, and_self, true_and, and_true, K, R, Kc, e2, e3, e4, q, L_len, nI_add, L_muln, nI_addL]
  · have e1 : (4 : Int32) ≤ nI 4 := by decide
    have e3 : 16 + l < 24 := by omega
    have e4 : 20 + l < 24 := by omega
    rw [f_Mo_offOf_5]
    by_cases q : z = 0
    · simp (disch := omega) [f_Mo_offOf_60, ↓ob_eq, ob_some, ldI, ldR, ldO, stI, stZ, stR, isO, wrA_n, rdA_n, wrA_l, rdA_l, gK_sI, gR_sI, gX_sI, gN_sI, gK_cp, gR_cp, gX_cp, gN_cp, rtZ_0, rtZ_1, if_true, reduceIte, and_self, true_and, and_true, K, R, Kc, e1, e3, e4, q, L_addn]
    · simp (disch := omega) [f_Mo_offOf_60, ↓ob_eq, ob_some, ldI, ldR, ldO, stI, stZ, stR, isO, wrA_n, rdA_n, wrA_l, rdA_l, gK_sI, gR_sI, gX_sI, gN_sI, gK_cp, gR_cp, gX_cp, gN_cp, rtZ_0, rtZ_1, if_true, reduceIte, and_self, true_and, and_true, K, R, Kc, e1, e3, e4, q, L_addn]
  · by_cases q : z = 0
    · simp [fo, off, q, Nat.mul_comm]
    · simp [fo, off, q, Nat.add_comm]
/-- the only wrong line -/
def wl (o : Nat → Int32) : Int32 := if o 0 = 0 then (if o 1 = 0 then (if o 2 = 0 then (if o 3 = 0 then -1 else nI 3) else (if o 3 = 0 then nI 2 else -1)) else (if o 2 = 0 then (if o 3 = 0 then nI 1 else -1) else -1)) else (if o 1 = 0 then (if o 2 = 0 then (if o 3 = 0 then nI 0 else -1) else -1) else -1)
theorem wl_cases (o : Nat → Int32) : wl o = -1 ∨ ∃ l, l < 4 ∧ wl o = nI l := by
  unfold wl
  repeat' split
  all_goals first | exact Or.inl rfl | exact Or.inr ⟨0, by omega, rfl⟩ | exact Or.inr ⟨1, by omega, rfl⟩ | exact Or.inr ⟨2, by omega, rfl⟩ | exact Or.inr ⟨3, by omega, rfl⟩
theorem tl_wrong {h : PH} {a : Nat} {x1 x2 x3 : Int32} {o : Nat → Int32} (K : gK h a = (0, 7)) (ho : ∀ l, l < 4 → f_Told_aboveSum a x1 (nI l) x2 x3 h = some (o l, h)) : f_Told_wrongLine a x1 x2 x3 h = some (wl o, h) := by
  refine (lpx0 (fun N (s : Int32) i => f_Told_wrongLine_6 N a x1 x2 x3 s (nI i) h) (fun i s => decide (¬ o i = 0 ∧ ¬ s = -1)) (fun _ _ => some (-1, h)) (fun i s => if o i = 0 then s else nI i) 4 (fun s => some (s, h)) (-1) FU (by rw [FU_eq]; omega) (fun N i s hi w => ?_) (fun N i s hi w => ?_) (fun N s => ?_)).trans ?_
  · have e2 : ¬ 4 ≤ i := by omega
    obtain ⟨w1, w2⟩ := of_decide_eq_true w
    rw [f_Told_wrongLine_6]
    simp (disch := omega) [↓ob_eq, ob_some, ldI, ldR, ldO, stI, stZ, stR, isO, wrA_n, rdA_n, wrA_l, rdA_l, gK_sI, gR_sI, gX_sI, gN_sI, gK_cp, gR_cp, gX_cp, gN_cp, rtZ_0, rtZ_1, if_true, reduceIte, and_self, true_and, and_true, K, e2, ho i hi, w1, w2, L_len]
  · have e2 : ¬ 4 ≤ i := by omega
    have w1 := of_decide_eq_false w
    rw [f_Told_wrongLine_6]
    by_cases q : o i = 0
    · simp (disch := omega) [↓ob_eq, ob_some, ldI, ldR, ldO, stI, stZ, stR, isO, wrA_n, rdA_n, wrA_l, rdA_l, gK_sI, gR_sI, gX_sI, gN_sI, gK_cp, gR_cp, gX_cp, gN_cp, rtZ_0, rtZ_1, if_true, reduceIte, and_self, true_and, and_true, K, e2, ho i hi, q, L_len, nI_addL]
    · have q2 : s = -1 := Decidable.byContradiction fun z => w1 ⟨q, z⟩
      subst q2
      simp (disch := omega) [↓ob_eq, ob_some, ldI, ldR, ldO, stI, stZ, stR, isO, wrA_n, rdA_n, wrA_l, rdA_l, gK_sI, gR_sI, gX_sI, gN_sI, gK_cp, gR_cp, gX_cp, gN_cp, rtZ_0, rtZ_1, if_true, reduceIte, and_self, true_and, and_true, K, e2, ho i hi, q, L_len, nI_addL]
  · have e1 : (4 : Int32) ≤ nI 4 := by decide
    rw [f_Told_wrongLine_6]
    simp [e1]
  · have e0 : ¬ nI 0 = -1 := by decide
    have e1 : ¬ nI 1 = -1 := by decide
    have e2 : ¬ nI 2 = -1 := by decide
    by_cases q0 : o 0 = 0 <;> by_cases q1 : o 1 = 0 <;> by_cases q2 : o 2 = 0 <;> by_cases q3 : o 3 = 0 <;> simp [fox, wl, q0, q1, q2, q3, e0, e1, e2]
theorem mo_wrong {h : PH} {a : Nat} {z : Int32} {o : Nat → Int32} (K : gK h a = (0, 9)) (ho : ∀ l, l < 4 → f_Mo_offOf a (nI l) z h = some (o l, h)) : f_Mo_wrongLine a z h = some (wl o, h) := by
  refine (lp0 (fun N (s : Int32 × Nat) i => f_Mo_wrongLine_7 N a z s.1 (nI s.2) (nI i) h) (fun i s => if o i = 0 then s else (nI i, s.2 + 1)) 4 (fun s => if nI s.2 = 1 then some (s.1, h) else some (-1, h)) (-1, 0) FU (by rw [FU_eq]; omega) (fun N i s hi => ?_) (fun N s => ?_)).trans ?_
  · have e2 : ¬ 4 ≤ i := by omega
    rw [f_Mo_wrongLine_7]
    by_cases q : o i = 0
    · simp (disch := omega) [↓ob_eq, ob_some, ldI, ldR, ldO, stI, stZ, stR, isO, wrA_n, rdA_n, wrA_l, rdA_l, gK_sI, gR_sI, gX_sI, gN_sI, gK_cp, gR_cp, gX_cp, gN_cp, rtZ_0, rtZ_1, if_true, reduceIte, and_self, true_and, and_true, K, e2, ho i hi, q, L_len, nI_addL]
    · simp (disch := omega) [↓ob_eq, ob_some, ldI, ldR, ldO, stI, stZ, stR, isO, wrA_n, rdA_n, wrA_l, rdA_l, gK_sI, gR_sI, gX_sI, gN_sI, gK_cp, gR_cp, gX_cp, gN_cp, rtZ_0, rtZ_1, if_true, reduceIte, and_self, true_and, and_true, K, e2, ho i hi, q, L_len, nI_addL]
  · have e1 : (4 : Int32) ≤ nI 4 := by decide
    rw [f_Mo_wrongLine_7]
    simp [e1]
  · have e0 : ¬ nI 0 = 1 := by decide
    have e1 : nI 1 = 1 := by decide
    have e2 : ¬ nI 2 = 1 := by decide
    have e3 : ¬ nI 3 = 1 := by decide
    have e4 : ¬ nI 4 = 1 := by decide
    by_cases q0 : o 0 = 0 <;> by_cases q1 : o 1 = 0 <;> by_cases q2 : o 2 = 0 <;> by_cases q3 : o 3 = 0 <;> simp [fo, wl, q0, q1, q2, q3, e0, e1, e2, e3, e4]
theorem op_altered (b : Nat) : B_altered (Inv b) b (b + 131) := by
  intro h I v
  have I0 := I
  obtain ⟨s, cd, c_stat, c_realm, c_book, c_law, c_kin, c_shi, c_roa, c_ord, c_han, c_wei, c_bag, c_pri, c_cnt, c_led, c_yea, c_log, c_rdr, c_msc, c_img⟩ := I
  have K0 : gK h b = (0, 8) := s.K 0 (by decide) rfl
  have K1 : gK h (b + 1) = (0, 1) := s.K 1 (by decide) rfl
  have K25 : gK h (b + 25) = (0, 7) := s.K 25 (by decide) rfl
  have K39 : gK h (b + 39) = (1, 24) := s.K 39 (by decide) rfl
  have K131 : gK h (b + 131) = (0, 9) := s.K 131 (by decide) rfl
  have K172 : gK h (b + 172) = (1, 24) := s.K 172 (by decide) rfl
  have R0_0 : gR h b 0 = some (b + 1) := s.R 0 0 rfl
  have R1_6 : gR h (b + 1) 6 = some (b + 25) := s.R 1 6 rfl
  have R25_7 : gR h (b + 25) 7 = some (b + 39) := s.R 25 7 rfl
  have R131_67 : gR h (b + 131) 67 = some (b + 172) := s.R 131 67 rfl
  obtain ⟨g, hg⟩ : ∃ g, g = sI h (b + 131) 0 0 := ⟨_, rfl⟩
  have K : gK g (b + 131) = (0, 9) := by rw [hg]; exact K131
  have ef : ∀ j, j < 24 → gI g (b + 172) j = gI h (b + 39) j := fun j hj => by
    obtain ⟨x, _, x1, x2⟩ := c_led j hj
    rw [x1, hg]; simp (disch := omega) only [gI_q, gI_n1, gI_n2]; exact x2
  have eR : ∀ l, l < 4 → f_Told_aboveSum (b + 25) 16 (nI l) 4 1 h = some (off (gI h (b + 39)) 16 4 1 l, h) := fun l hl => tl_above (base := 16) (lw := 4) (cw := 1) K25 R25_7 K39 hl (by omega) (by omega)
  have eC : ∀ l, l < 4 → f_Told_aboveSum (b + 25) 20 (nI l) 1 4 h = some (off (gI h (b + 39)) 20 1 4 l, h) := fun l hl => tl_above (base := 20) (lw := 1) (cw := 4) K25 R25_7 K39 hl (by omega) (by omega)
  have eR2 : ∀ l, l < 4 → f_Mo_offOf (b + 131) (nI l) 0 g = some (off (gI h (b + 39)) 16 4 1 l, g) := fun l hl => by
    rw [mo_off K (by rw [hg]; exact R131_67) (by rw [hg]; exact K172) hl, if_pos rfl, off_cg ef (by omega) (by omega)]
  have eC2 : ∀ l, l < 4 → f_Mo_offOf (b + 131) (nI l) 1 g = some (off (gI h (b + 39)) 20 1 4 l, g) := fun l hl => by
    rw [mo_off K (by rw [hg]; exact R131_67) (by rw [hg]; exact K172) hl, if_neg (by decide), off_cg ef (by omega) (by omega)]
  have wR := tl_wrong K25 eR
  have wC := tl_wrong K25 eC
  have wR2 := mo_wrong K eR2
  have wC2 := mo_wrong K eC2
  rcases in_cases v 1 1 rfl (by omega) with ⟨k, l1, rfl, w1, i1⟩ | ⟨w1, i1⟩
  · rcases wl_cases (off (gI h (b + 39)) 16 4 1) with qr | ⟨lr, hlr, qr⟩
    · exact both_ref I0 (r := -10000) (by simp [f_Tc_altered, w1, ↓ob_eq, ob_some, ldI, ldR, ldO, stI, stZ, stR, isO, wrA_n, rdA_n, wrA_l, rdA_l, gK_sI, gR_sI, gX_sI, gN_sI, gK_cp, gR_cp, gX_cp, gN_cp, rtZ_0, rtZ_1, if_true, reduceIte, and_self, true_and, and_true, K0, K1, K25, R0_0, R1_6, wR, wC, qr]) (by rw [← hg]; simp [f_Mo_altered, f_Mo_altered_52, i1, ↓ob_eq, ob_some, ldI, ldR, ldO, stI, stZ, stR, isO, wrA_n, rdA_n, wrA_l, rdA_l, gK_sI, gR_sI, gX_sI, gN_sI, gK_cp, gR_cp, gX_cp, gN_cp, rtZ_0, rtZ_1, if_true, reduceIte, and_self, true_and, and_true, K131, K, ← hg, wR2, wC2, qr])
    · have nr : ¬ nI lr = -1 := nI_ne_m1 (by omega)
      rcases wl_cases (off (gI h (b + 39)) 20 1 4) with qc | ⟨lc, hlc, qc⟩
      · exact both_ref I0 (r := -10000) (by simp [f_Tc_altered, w1, ↓ob_eq, ob_some, ldI, ldR, ldO, stI, stZ, stR, isO, wrA_n, rdA_n, wrA_l, rdA_l, gK_sI, gR_sI, gX_sI, gN_sI, gK_cp, gR_cp, gX_cp, gN_cp, rtZ_0, rtZ_1, if_true, reduceIte, and_self, true_and, and_true, K0, K1, K25, R0_0, R1_6, wR, wC, qr, qc, nr]) (by rw [← hg]; simp [f_Mo_altered, f_Mo_altered_52, i1, ↓ob_eq, ob_some, ldI, ldR, ldO, stI, stZ, stR, isO, wrA_n, rdA_n, wrA_l, rdA_l, gK_sI, gR_sI, gX_sI, gN_sI, gK_cp, gR_cp, gX_cp, gN_cp, rtZ_0, rtZ_1, if_true, reduceIte, and_self, true_and, and_true, K131, K, ← hg, wR2, wC2, qr, qc, nr])
      · have nc : ¬ nI lc = -1 := nI_ne_m1 (by omega)
        by_cases e : off (gI h (b + 39)) 16 4 1 lr = off (gI h (b + 39)) 20 1 4 lc
        · by_cases h0 : nI k = 0
          · have h0' : (nI k = 0) = True := eq_true h0
            exact both_ref I0 (r := nI (4 * lr + lc)) (by simp [f_Tc_altered, w1, h0', ↓ob_eq, ob_some, ldI, ldR, ldO, stI, stZ, stR, isO, wrA_n, rdA_n, wrA_l, rdA_l, gK_sI, gR_sI, gX_sI, gN_sI, gK_cp, gR_cp, gX_cp, gN_cp, rtZ_0, rtZ_1, if_true, reduceIte, and_self, true_and, and_true, K0, K1, K25, R0_0, R1_6, wR, wC, qr, qc, nr, nc, eR lr hlr, eC lc hlc, e, nI_mulL, nI_add, Nat.mul_comm]) (by rw [← hg]; simp [f_Mo_altered, f_Mo_altered_52, i1, h0', ↓ob_eq, ob_some, ldI, ldR, ldO, stI, stZ, stR, isO, wrA_n, rdA_n, wrA_l, rdA_l, gK_sI, gR_sI, gX_sI, gN_sI, gK_cp, gR_cp, gX_cp, gN_cp, rtZ_0, rtZ_1, if_true, reduceIte, and_self, true_and, and_true, K131, K, ← hg, wR2, wC2, qr, qc, nr, nc, eR2 lr hlr, eC2 lc hlc, e, L_muln, nI_add])
          · exact both_ref I0 (r := off (gI h (b + 39)) 16 4 1 lr) (by simp [f_Tc_altered, w1, h0, ↓ob_eq, ob_some, ldI, ldR, ldO, stI, stZ, stR, isO, wrA_n, rdA_n, wrA_l, rdA_l, gK_sI, gR_sI, gX_sI, gN_sI, gK_cp, gR_cp, gX_cp, gN_cp, rtZ_0, rtZ_1, if_true, reduceIte, and_self, true_and, and_true, K0, K1, K25, R0_0, R1_6, wR, wC, qr, qc, nr, nc, eR lr hlr, eC lc hlc, e]) (by rw [← hg]; simp [f_Mo_altered, f_Mo_altered_52, i1, h0, ↓ob_eq, ob_some, ldI, ldR, ldO, stI, stZ, stR, isO, wrA_n, rdA_n, wrA_l, rdA_l, gK_sI, gR_sI, gX_sI, gN_sI, gK_cp, gR_cp, gX_cp, gN_cp, rtZ_0, rtZ_1, if_true, reduceIte, and_self, true_and, and_true, K131, K, ← hg, wR2, wC2, qr, qc, nr, nc, eR2 lr hlr, eC2 lc hlc, e])
        · exact both_ref I0 (r := -10000) (by simp [f_Tc_altered, w1, ↓ob_eq, ob_some, ldI, ldR, ldO, stI, stZ, stR, isO, wrA_n, rdA_n, wrA_l, rdA_l, gK_sI, gR_sI, gX_sI, gN_sI, gK_cp, gR_cp, gX_cp, gN_cp, rtZ_0, rtZ_1, if_true, reduceIte, and_self, true_and, and_true, K0, K1, K25, R0_0, R1_6, wR, wC, qr, qc, nr, nc, eR lr hlr, eC lc hlc, e]) (by rw [← hg]; simp [f_Mo_altered, f_Mo_altered_52, i1, ↓ob_eq, ob_some, ldI, ldR, ldO, stI, stZ, stR, isO, wrA_n, rdA_n, wrA_l, rdA_l, gK_sI, gR_sI, gX_sI, gN_sI, gK_cp, gR_cp, gX_cp, gN_cp, rtZ_0, rtZ_1, if_true, reduceIte, and_self, true_and, and_true, K131, K, ← hg, wR2, wC2, qr, qc, nr, nc, eR2 lr hlr, eC2 lc hlc, e])
  · exact both_ref I0 (r := -10000) (by simp [f_Tc_altered, w1, ↓ob_eq, ob_some, ldI, ldR, ldO, stI, stZ, stR, isO, wrA_n, rdA_n, wrA_l, rdA_l, gK_sI, gR_sI, gX_sI, gN_sI, gK_cp, gR_cp, gX_cp, gN_cp, rtZ_0, rtZ_1, if_true, reduceIte, and_self, true_and, and_true]) (by rw [← hg]; simp [f_Mo_altered, f_Mo_altered_52, i1, ↓ob_eq, ob_some, ldI, ldR, ldO, stI, stZ, stR, isO, wrA_n, rdA_n, wrA_l, rdA_l, gK_sI, gR_sI, gX_sI, gN_sI, gK_cp, gR_cp, gX_cp, gN_cp, rtZ_0, rtZ_1, if_true, reduceIte, and_self, true_and, and_true, K131, K, ← hg, wR2, wC2])
