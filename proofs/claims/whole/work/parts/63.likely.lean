/-! ===== likely ===== -/
/-- how likely, of a million, with the looks that were seen -/
def oal (f : Nat → Nat) (c : Nat) : Nat := 4 + f (4 * c) + f (4 * c + 1) + f (4 * c + 2) + f (4 * c + 3)
def odS (f : Nat → Nat) (c x : Nat) (i q : Nat) : Nat := if x.testBit i then q * (f (4 * c + i) + 1) / oal f c else q
def od (f : Nat → Nat) (c x : Nat) : Nat := fo (odS f c x) 0 4 166666
theorem oal_le (f : Nat → Nat) (c i : Nat) (hi : i < 4) : f (4 * c + i) + 1 ≤ oal f c := by
  unfold oal
  have : i = 0 ∨ i = 1 ∨ i = 2 ∨ i = 3 := by omega
  rcases this with rfl | rfl | rfl | rfl
  · show f (4 * c) + 1 ≤ _; omega
  all_goals omega
theorem odS_le (f : Nat → Nat) (c x i q : Nat) (hi : i < 4) (hq : q ≤ 166666) : odS f c x i q ≤ 166666 := by
  unfold odS
  split
  · refine Nat.div_le_of_le_mul ?_
    rw [Nat.mul_comm]
    exact Nat.mul_le_mul (oal_le f c i hi) hq
  · exact hq
theorem od_le (f : Nat → Nat) (c x : Nat) : od f c x ≤ 166666 := by
  unfold od
  exact fo_inv (fun _ q => q ≤ 166666) 4 (fun i s hi hs => odS_le f c x i s hi hs) 4 0 166666 (by omega) (Nat.le_refl _)
theorem dk_chance {h : PH} {a d c x : Nat} {f : Nat → Nat} (Kd : gK h d = (1, 24)) (hf : ∀ j, j < 24 → f j ≤ 999 ∧ gI h d j = nI (f j)) (hc : c < 6) (hx : x < 16) : f_Desk_chance a d (nI c) (nI x) h = some (lN (od f c x), h) := by
  have e0 : ¬ nI c < 0 := nI_pos (by omega)
  have e1 : ¬ 5 < c := by omega
  have a1 : f_Desk_chance a d (nI c) (nI x) h = f_Desk_chance_25 FU d (nI c) (nI x) 4 0 h := by
    have w : f_Tc_within (nI c) 5 h = some (1, h) := by
      simp (disch := omega) [f_Tc_within, e0, e1, L_ltn, rtZ_1]
    have e24 : (24 : Int32) ≤ nI 24 := by decide
    simp (disch := omega) [f_Desk_chance, w, lnA, ↓ob_eq, ob_some, ldI, ldR, ldO, stI, stZ, stR, isO, wrA_n, rdA_n, wrA_l, rdA_l, gK_sI, gR_sI, gX_sI, gN_sI, gK_cp, gR_cp, gX_cp, gN_cp, rtZ_0, rtZ_1, if_true, reduceIte, and_self, true_and, and_true, Kd, e24]
  have a2 : f_Desk_chance_25 FU d (nI c) (nI x) 4 0 h = f_Desk_chance_59 FU d (nI c) (nI x) (lN (oal f c)) 166666 0 h := by
    refine (lp0 (fun N (s : Nat) i => f_Desk_chance_25 N d (nI c) (nI x) (lN s) (nI i) h) (fun i s => s + f (4 * c + i)) 4 (fun s => f_Desk_chance_59 FU d (nI c) (nI x) (lN s) 166666 0 h) 4 FU (by rw [FU_eq]; omega) (fun N i s hi => ?_) (fun N s => ?_)).trans ?_
    · have e2 : ¬ 4 ≤ i := by omega
      have e3 : c * 4 + i < 24 := by omega
      have hd := hf (c * 4 + i) e3
      have e4 : (gI h d (c * 4 + i)).toInt64 = lN (f (c * 4 + i)) := by rw [hd.2]; exact nI_l (by omega)
      rw [f_Desk_chance_25]
      simp (disch := omega) [↓ob_eq, ob_some, ldI, ldR, ldO, stI, stZ, stR, isO, wrA_n, rdA_n, wrA_l, rdA_l, gK_sI, gR_sI, gX_sI, gN_sI, gK_cp, gR_cp, gX_cp, gN_cp, rtZ_0, rtZ_1, if_true, reduceIte, and_self, true_and, and_true, Kd, e2, e3, e4, L_len, nI_mulL, nI_add, nI_addL, lN_add, Nat.mul_comm]
    · have e1 : (4 : Int32) ≤ nI 4 := by decide
      rw [f_Desk_chance_25]
      simp [e1]
    · rfl
  have hal : ∀ i, i < 4 → f (4 * c + i) + 1 ≤ oal f c := fun i hi => oal_le f c i hi
  have hal2 : oal f c ≤ 4000 := by
    unfold oal
    have b0 := (hf (4 * c) (by omega)).1
    have b1 := (hf (4 * c + 1) (by omega)).1
    have b2 := (hf (4 * c + 2) (by omega)).1
    have b3 := (hf (4 * c + 3) (by omega)).1
    omega
  have hal0 : 0 < oal f c := by have := hal 0 (by omega); omega
  have a3 : f_Desk_chance_59 FU d (nI c) (nI x) (lN (oal f c)) 166666 0 h = some (lN (od f c x), h) := by
    refine (lp (fun N (s : Nat) i => f_Desk_chance_59 N d (nI c) (nI x) (lN (oal f c)) (lN s) (nI i) h) (odS f c x) (fun _ s => s ≤ 166666) 4 (fun s => some (lN s, h)) (fun N i s hi hs => ?_) (fun i s hi hs => odS_le f c x i s hi hs) (fun N s _ => ?_) 4 0 166666 FU (by omega) (Nat.le_refl _) (by rw [FU_eq]; omega)).1
    · have e2 : ¬ 4 ≤ i := by omega
      have e3 : c * 4 + i < 24 := by omega
      have hd := hf (c * 4 + i) e3
      have e5 : (gI h d (c * 4 + i) + 1).toInt64 = lN (f (c * 4 + i) + 1) := by rw [hd.2, nI_addL]; exact nI_l (by omega)
      have e6 : ¬ lg_cmp (lN (oal f c)) 0 ≤ 0 := by
        rw [lg_cmp_le]
        have : (0 : Int64) = lN 0 := rfl
        rw [this, lN_le (by omega) (by omega)]
        omega
      have e7 : ¬ lN (oal f c) = 0 := by
        have : (0 : Int64) = lN 0 := rfl
        rw [this, lN_eq (by omega) (by omega)]
        omega
      have hm : s * (f (c * 4 + i) + 1) ≤ 166666 * 1000 := Nat.mul_le_mul hs (by omega)
      rw [f_Desk_chance_59]
      unfold odS
      by_cases q : x.testBit i = true
      · have hb : jshr (nI x) (nI i) &&& 1 = 1 := by rw [jbit1 (by omega) (by omega)]; exact q
        have e8 : lN (s * (f (c * 4 + i) + 1)) / lN (oal f c) = lN (s * (f (c * 4 + i) + 1) / oal f c) := pk_lDiv (by omega) hal0 (by omega)
        simp (disch := omega) [dvL, ↓ob_eq, ob_some, ldI, ldR, ldO, stI, stZ, stR, isO, wrA_n, rdA_n, wrA_l, rdA_l, gK_sI, gR_sI, gX_sI, gN_sI, gK_cp, gR_cp, gX_cp, gN_cp, rtZ_0, rtZ_1, if_true, reduceIte, and_self, true_and, and_true, Kd, e2, e3, e5, e6, e7, hb, q, L_len, nI_mulL, nI_add, nI_addL, lN_mul, e8]
        rw [Nat.mul_comm c 4]
      · have hb : ¬ jshr (nI x) (nI i) &&& 1 = 1 := fun z => q ((jbit1 (by omega) (by omega)).mp z)
        simp (disch := omega) [↓ob_eq, ob_some, ldI, ldR, ldO, stI, stZ, stR, isO, wrA_n, rdA_n, wrA_l, rdA_l, gK_sI, gR_sI, gX_sI, gN_sI, gK_cp, gR_cp, gX_cp, gN_cp, rtZ_0, rtZ_1, if_true, reduceIte, and_self, true_and, and_true, e2, hb, q, L_len, nI_addL]
    · have e1 : (4 : Int32) ≤ nI 4 := by decide
      rw [f_Desk_chance_59]
      simp [e1]
  rw [a1, a2, a3]
theorem mo_odds {h : PH} {a d c x : Nat} {f : Nat → Nat} (K : gK h a = (0, 9)) (R : gR h a 62 = some d) (Kd : gK h d = (1, 24)) (hf : ∀ j, j < 24 → f j ≤ 999 ∧ gI h d j = nI (f j)) (hc : c < 6) (hx : x < 16) : f_Mo_oddsOf a (nI c) (nI x) h = some (nI (od f c x), h) := by
  have a2 : f_Mo_oddsOf a (nI c) (nI x) h = f_Mo_oddsOf_39 FU a (nI c) (nI x) (nI (oal f c)) 166666 0 h := by
    refine (lp0 (fun N (s : Nat) i => f_Mo_oddsOf_5 N a (nI c) (nI x) (nI s) (nI i) h) (fun i s => s + f (4 * c + i)) 4 (fun s => f_Mo_oddsOf_39 FU a (nI c) (nI x) (nI s) 166666 0 h) 4 FU (by rw [FU_eq]; omega) (fun N i s hi => ?_) (fun N s => ?_)).trans ?_
    · have e2 : ¬ 4 ≤ i := by omega
      have e3 : 4 * c + i < 24 := by omega
      have hd := hf (4 * c + i) e3
      rw [f_Mo_oddsOf_5]
      simp (disch := omega) [↓ob_eq, ob_some, ldI, ldR, ldO, stI, stZ, stR, isO, wrA_n, rdA_n, wrA_l, rdA_l, gK_sI, gR_sI, gX_sI, gN_sI, gK_cp, gR_cp, gX_cp, gN_cp, rtZ_0, rtZ_1, if_true, reduceIte, and_self, true_and, and_true, K, R, Kd, e2, e3, hd.2, L_len, L_muln, nI_add, nI_addL]
    · have e1 : (4 : Int32) ≤ nI 4 := by decide
      rw [f_Mo_oddsOf_5]
      simp [e1]
    · rfl
  have hal : ∀ i, i < 4 → f (4 * c + i) + 1 ≤ oal f c := fun i hi => oal_le f c i hi
  have hal2 : oal f c ≤ 4000 := by
    unfold oal
    have b0 := (hf (4 * c) (by omega)).1
    have b1 := (hf (4 * c + 1) (by omega)).1
    have b2 := (hf (4 * c + 2) (by omega)).1
    have b3 := (hf (4 * c + 3) (by omega)).1
    omega
  have hal0 : 0 < oal f c := by have := hal 0 (by omega); omega
  rw [a2]
  refine (lp (fun N (s : Nat) i => f_Mo_oddsOf_39 N a (nI c) (nI x) (nI (oal f c)) (nI s) (nI i) h) (odS f c x) (fun _ s => s ≤ 166666) 4 (fun s => some (nI s, h)) (fun N i s hi hs => ?_) (fun i s hi hs => odS_le f c x i s hi hs) (fun N s _ => ?_) 4 0 166666 FU (by omega) (Nat.le_refl _) (by rw [FU_eq]; omega)).1
  · have e2 : ¬ 4 ≤ i := by omega
    have e3 : 4 * c + i < 24 := by omega
    have hd := hf (4 * c + i) e3
    have e7 : ¬ nI (oal f c) = 0 := by rw [nI_eqL (n := 0) (by omega) (by decide)]; exact Nat.ne_of_gt hal0
    have hm : s * (f (4 * c + i) + 1) ≤ 166666 * 1000 := Nat.mul_le_mul hs (by omega)
    rw [f_Mo_oddsOf_39]
    unfold odS
    by_cases q : x.testBit i = true
    · have hb : jshr (nI x) (nI i) &&& 1 = 1 := by rw [jbit1 (by omega) (by omega)]; exact q
      have e8 : nI (s * (f (4 * c + i) + 1)) / nI (oal f c) = nI (s * (f (4 * c + i) + 1) / oal f c) := pk_div (by omega) hal0 (by omega)
      simp (disch := omega) [f_Mo_has, dvI, ↓ob_eq, ob_some, ldI, ldR, ldO, stI, stZ, stR, isO, wrA_n, rdA_n, wrA_l, rdA_l, gK_sI, gR_sI, gX_sI, gN_sI, gK_cp, gR_cp, gX_cp, gN_cp, rtZ_0, rtZ_1, if_true, reduceIte, and_self, true_and, and_true, K, R, Kd, e2, e3, hd.2, e7, hb, q, L_len, L_muln, nI_add, nI_addL, pk_mul, e8]
    · have hb : ¬ jshr (nI x) (nI i) &&& 1 = 1 := fun z => q ((jbit1 (by omega) (by omega)).mp z)
      simp (disch := omega) [f_Mo_has, ↓ob_eq, ob_some, ldI, ldR, ldO, stI, stZ, stR, isO, wrA_n, rdA_n, wrA_l, rdA_l, gK_sI, gR_sI, gX_sI, gN_sI, gK_cp, gR_cp, gX_cp, gN_cp, rtZ_0, rtZ_1, if_true, reduceIte, and_self, true_and, and_true, K, e2, hb, q, L_len, nI_addL]
  · have e1 : (4 : Int32) ≤ nI 4 := by decide
    rw [f_Mo_oddsOf_39]
    simp [e1]
/-- a share, digit by digit -/
theorem mo_share {h : PH} {a o l : Nat} (hl : 0 < l) (hl2 : l ≤ 1000000) (ho : o ≤ l) : f_Mo_shareOf a (nI o) (nI l) h = some (nI (o * 1000000 / l), h) := by
  have e7 : ¬ nI l = 0 := by rw [nI_eqL (n := 0) (by omega) (by decide)]; exact Nat.ne_of_gt hl
  have e8 : nI o / nI l = nI (o / l) := pk_div (by omega) hl (by omega)
  have e9 : jrem (nI o) (nI l) = nI (o % l) := pk_rem (by omega) hl (by omega)
  have a1 : f_Mo_shareOf a (nI o) (nI l) h = f_Mo_shareOf_12 FU (nI l) (nI (o / l)) (nI (o % l)) 0 h := by
    simp [f_Mo_shareOf, dvI, rmI, ↓ob_eq, ob_some, ldI, ldR, ldO, stI, stZ, stR, isO, wrA_n, rdA_n, wrA_l, rdA_l, gK_sI, gR_sI, gX_sI, gN_sI, gK_cp, gR_cp, gX_cp, gN_cp, rtZ_0, rtZ_1, if_true, reduceIte, and_self, true_and, and_true, e7, e8, e9]
  rw [a1]
  have key := lp (fun N (s : Nat × Nat) i => f_Mo_shareOf_12 N (nI l) (nI s.1) (nI s.2) (nI i) h) (fun i s => (10 * s.1 + s.2 * 10 / l, s.2 * 10 % l)) (fun i s => s.2 < l ∧ o * 10 ^ i = s.1 * l + s.2) 6 (fun s => some (nI s.1, h))
    (fun N i s hi hs => by
      have e2 : ¬ 6 ≤ i := by omega
      have f8 : nI (s.2 * 10) / nI l = nI (s.2 * 10 / l) := pk_div (by omega) hl (by omega)
      have f9 : jrem (nI (s.2 * 10)) (nI l) = nI (s.2 * 10 % l) := pk_rem (by omega) hl (by omega)
      rw [f_Mo_shareOf_12]
      simp (disch := omega) [dvI, rmI, ↓ob_eq, ob_some, ldI, ldR, ldO, stI, stZ, stR, isO, wrA_n, rdA_n, wrA_l, rdA_l, gK_sI, gR_sI, gX_sI, gN_sI, gK_cp, gR_cp, gX_cp, gN_cp, rtZ_0, rtZ_1, if_true, reduceIte, and_self, true_and, and_true, e2, e7, L_len, nI_mulL, L_muln, nI_add, nI_addL, f8, f9])
    (fun i s hi hs => by
      refine ⟨Nat.mod_lt _ hl, ?_⟩
      have hd := Nat.div_add_mod (s.2 * 10) l
      rw [Nat.pow_succ, ← Nat.mul_assoc, hs.2, Nat.add_mul, Nat.add_mul]
      have e1 : s.1 * l * 10 = 10 * s.1 * l := by rw [Nat.mul_comm (s.1 * l), Nat.mul_assoc]
      have e2 : l * (s.2 * 10 / l) = s.2 * 10 / l * l := Nat.mul_comm _ _
      omega)
    (fun N s _ => by
      have e1 : (6 : Int32) ≤ nI 6 := by decide
      rw [f_Mo_shareOf_12]
      simp [e1])
    6 0 (o / l, o % l) FU (by omega) ⟨Nat.mod_lt _ hl, by rw [Nat.pow_zero, Nat.mul_one, Nat.mul_comm (o / l) l]; exact (Nat.div_add_mod o l).symm⟩ (by rw [FU_eq]; omega)
  refine key.1.trans ?_
  obtain ⟨k1, k2⟩ := key.2
  congr 2
  congr 1
  have k3 : o * 1000000 = (fo (fun i s => (10 * s.1 + s.2 * 10 / l, s.2 * 10 % l)) 0 6 (o / l, o % l)).1 * l + (fo (fun i s => (10 * s.1 + s.2 * 10 / l, s.2 * 10 % l)) 0 6 (o / l, o % l)).2 := k2
  rw [k3, Nat.mul_comm _ l, Nat.mul_add_div hl, Nat.div_eq_of_lt k1, Nat.add_zero]
/-- the likeliest, and all together -/
def mlS (O : Nat → Nat) (i s : Nat) : Nat := if O i ≤ O s then s else i
def sumN (O : Nat → Nat) : Nat := fo (fun i s => s + O i) 0 6 0
theorem op_likely (b : Nat) : B_likely (Inv b) b (b + 131) := by
  intro h I v w
  have I0 := I
  obtain ⟨s, cd, c_stat, c_realm, c_book, c_law, c_kin, c_shi, c_roa, c_ord, c_han, c_wei, c_bag, c_pri, c_cnt, c_led, c_yea, c_log, c_rdr, c_msc, c_img⟩ := I
  have K0 : gK h b = (0, 8) := s.K 0 (by decide) rfl
  have K1 : gK h (b + 1) = (0, 1) := s.K 1 (by decide) rfl
  have K25 : gK h (b + 25) = (0, 7) := s.K 25 (by decide) rfl
  have K38 : gK h (b + 38) = (1, 24) := s.K 38 (by decide) rfl
  have K124 : gK h (b + 124) = (0, 0) := s.K 124 (by decide) rfl
  have K131 : gK h (b + 131) = (0, 9) := s.K 131 (by decide) rfl
  have K168 : gK h (b + 168) = (1, 24) := s.K 168 (by decide) rfl
  have R0_0 : gR h b 0 = some (b + 1) := s.R 0 0 rfl
  have R0_4 : gR h b 4 = some (b + 124) := s.R 0 4 rfl
  have R1_6 : gR h (b + 1) 6 = some (b + 25) := s.R 1 6 rfl
  have R25_6 : gR h (b + 25) 6 = some (b + 38) := s.R 25 6 rfl
  have R131_62 : gR h (b + 131) 62 = some (b + 168) := s.R 131 62 rfl
  obtain ⟨f, hf0⟩ : ∃ f : Nat → Nat, ∀ j, f j = (gI h (b + 38) j).toNatClampNeg := ⟨_, fun j => rfl⟩
  have D : ∀ j, j < 24 → f j ≤ 999 ∧ gI h (b + 38) j = nI (f j) ∧ gI h (b + 168) j = nI (f j) := fun j hj => by
    obtain ⟨x, a1, a2, a3⟩ := c_cnt j hj
    rw [if_pos hj] at a1
    rw [hf0, a2, a3, tn_nI (by omega)]
    exact ⟨a1, rfl, rfl⟩
  obtain ⟨g, hg⟩ : ∃ g, g = sI h (b + 131) 0 0 := ⟨_, rfl⟩
  have K : gK g (b + 131) = (0, 9) := by rw [hg]; exact K131
  have R62 : gR g (b + 131) 62 = some (b + 168) := by rw [hg]; exact R131_62
  have Kd : gK g (b + 168) = (1, 24) := by rw [hg]; exact K168
  have Dg : ∀ j, j < 24 → f j ≤ 999 ∧ gI g (b + 168) j = nI (f j) := fun j hj => ⟨(D j hj).1, by rw [hg]; simp (disch := omega) only [gI_q, gI_n1, gI_n2]; exact (D j hj).2.2⟩
  rcases in_cases w 15 15 rfl (by omega) with ⟨x, l2, rfl, w2, i2⟩ | ⟨w2, i2⟩
  · have hx : x < 16 := by omega
    obtain ⟨O, hO⟩ : ∃ O : Nat → Nat, ∀ c, O c = od f c x := ⟨_, fun c => rfl⟩
    have O1 : ∀ c, O c ≤ 166666 := fun c => by rw [hO]; exact od_le f c x
    have cc : ∀ c, c < 6 → f_Desk_chance (b + 124) (b + 38) (nI c) (nI x) h = some (lN (O c), h) := fun c hc => by
      rw [hO]; exact dk_chance K38 (fun j hj => ⟨(D j hj).1, (D j hj).2.1⟩) hc hx
    have cm : ∀ c, c < 6 → f_Mo_oddsOf (b + 131) (nI c) (nI x) g = some (nI (O c), g) := fun c hc => by
      rw [hO]; exact mo_odds K R62 Kd Dg hc hx
    have ml6 : ∀ i s, i < 6 → s < 6 → mlS O i s < 6 := fun i s hi hs => by unfold mlS; split <;> omega
    have c1 : f_Desk_mostLikely (b + 124) (b + 38) (nI x) h = some (nI (fo (mlS O) 0 6 0), h) := by
      have e0 : mlS O 0 0 = 0 := by unfold mlS; rw [if_pos (Nat.le_refl _)]
      have := (lp (fun N (s : Nat) i => f_Desk_mostLikely_5 N (b + 124) (b + 38) (nI x) (nI s) (nI i) h) (mlS O) (fun _ s => s < 6) 6 (fun s => some (nI s, h)) (fun N i s hi hs => by
        have e2 : ¬ 6 ≤ i := by omega
        have z : (lg_cmp (lN (O i)) (lN (O s)) ≤ 0) ↔ O i ≤ O s := by
          rw [lg_cmp_le, lN_le (by have := O1 i; omega) (by have := O1 s; omega)]
        rw [f_Desk_mostLikely_5]
        unfold mlS
        by_cases q : O i ≤ O s
        · simp (disch := omega) [↓ob_eq, ob_some, ldI, ldR, ldO, stI, stZ, stR, isO, wrA_n, rdA_n, wrA_l, rdA_l, gK_sI, gR_sI, gX_sI, gN_sI, gK_cp, gR_cp, gX_cp, gN_cp, rtZ_0, rtZ_1, if_true, reduceIte, and_self, true_and, and_true, K124, e2, cc i hi, cc s hs, z, q, L_len, nI_addL]
        · simp (disch := omega) [↓ob_eq, ob_some, ldI, ldR, ldO, stI, stZ, stR, isO, wrA_n, rdA_n, wrA_l, rdA_l, gK_sI, gR_sI, gX_sI, gN_sI, gK_cp, gR_cp, gX_cp, gN_cp, rtZ_0, rtZ_1, if_true, reduceIte, and_self, true_and, and_true, K124, e2, cc i hi, cc s hs, z, q, L_len, nI_addL]) (fun i s hi hs => ml6 i s hi hs) (fun N s _ => by
        have e1 : (6 : Int32) ≤ nI 6 := by decide
        rw [f_Desk_mostLikely_5]
        simp [e1]) 5 1 0 FU (by omega) (by omega) (by rw [FU_eq]; omega)).1
      refine (show f_Desk_mostLikely (b + 124) (b + 38) (nI x) h = _ from this).trans ?_
      rw [show fo (mlS O) 0 6 0 = fo (mlS O) 1 5 (mlS O 0 0) from rfl, e0]
    have c2 : ∀ c, c < 6 → f_Desk_ofMillion (b + 124) (b + 38) (nI c) (nI x) h = some (if sumN O = 0 then 0 else nI (O c * 1000000 / sumN O), h) := fun c hc => by
      have key := (lp (fun N (s : Nat) i => f_Desk_ofMillion_6 N (b + 124) (b + 38) (nI c) (nI x) (lN s) (nI i) h) (fun i s => s + O i) (fun i s => s ≤ 166666 * i) 6 (fun s => some (if s = 0 then 0 else nI (O c * 1000000 / s), h)) (fun N i s hi hs => by
        have e2 : ¬ 6 ≤ i := by omega
        rw [f_Desk_ofMillion_6]
        simp (disch := omega) [↓ob_eq, ob_some, ldI, ldR, ldO, stI, stZ, stR, isO, wrA_n, rdA_n, wrA_l, rdA_l, gK_sI, gR_sI, gX_sI, gN_sI, gK_cp, gR_cp, gX_cp, gN_cp, rtZ_0, rtZ_1, if_true, reduceIte, and_self, true_and, and_true, K124, e2, cc i hi, L_len, nI_addL, lN_add]) (fun i s hi hs => by have := O1 i; rw [Nat.mul_add]; omega) (fun N s hs => by
        have e1 : (6 : Int32) ≤ nI 6 := by decide
        have z : (lg_cmp (lN s) 0 = 0) ↔ s = 0 := by
          rw [lg_cmp_eq, show (0 : Int64) = lN 0 from rfl, lN_eq (by omega) (by omega)]
        rw [f_Desk_ofMillion_6]
        by_cases q : s = 0
        · rw [if_pos e1, if_pos (z.mpr q), if_pos q]
        · have e7 : ¬ lN s = 0 := by rw [show (0 : Int64) = lN 0 from rfl, lN_eq (by omega) (by omega)]; exact q
          have em : lN (O c) * 1000000 = lN (O c * 1000000) := lN_mul _ 1000000
          have eo := O1 c
          have e8 : lN (O c * 1000000) / lN s = lN (O c * 1000000 / s) := pk_lDiv (by omega) (by omega) (by omega)
          simp [↓ob_eq, ob_some, ldI, ldR, ldO, stI, stZ, stR, isO, wrA_n, rdA_n, wrA_l, rdA_l, gK_sI, gR_sI, gX_sI, gN_sI, gK_cp, gR_cp, gX_cp, gN_cp, rtZ_0, rtZ_1, if_true, reduceIte, and_self, true_and, and_true, K124, e1, z, q, cc c hc, dvL, e7, em, e8, lN_i]) 6 0 0 FU (by omega) (Nat.zero_le _) (by rw [FU_eq]; omega)).1
      exact key
    have sum1 : sumN O ≤ 1000000 := by
      unfold sumN
      have := fo_inv (fun i s => s ≤ 166666 * i) 6 (fun i s hi hs => by have := O1 i; show s + O i ≤ 166666 * (i + 1); rw [Nat.mul_add]; omega) 6 0 0 (by omega) (Nat.le_refl _) (st := fun i s => s + O i)
      omega
    have sum2 : ∀ c, c < 6 → O c ≤ sumN O := fun c hc => by
      unfold sumN
      refine (fo_inv (fun i s => c < i → O c ≤ s) 6 (fun i s hi hs hci => ?_) 6 0 0 (by omega) (fun z => absurd z (by omega)) (st := fun i s => s + O i)) hc
      by_cases e : c = i
      · subst e; show O c ≤ s + O c; omega
      · have := hs (by omega); show O c ≤ s + O i; omega
    have m1 : ∀ z : Int32, (z = -1 ∨ ∃ c, c < 6 ∧ z = nI c) → f_Mo_likely_36 FU (b + 131) z (nI x) 0 0 0 g = some (if z = -1 then nI (fo (mlS O) 0 6 0) else if sumN O = 0 then 0 else nI (O z.toNatClampNeg * 1000000 / sumN O), g) := fun z hz => by
      have key := lp (fun N (s : Nat × Nat) i => f_Mo_likely_36 N (b + 131) z (nI x) (nI s.1) (nI s.2) (nI i) g) (fun i s => (s.1 + O i, mlS O i s.2)) (fun _ s => s.2 < 6) 6 (fun s => if z = -1 then some (nI s.2, g) else if nI s.1 = 0 then some (0, g) else (f_Mo_oddsOf (b + 131) z (nI x) g).bind fun p => (f_Mo_shareOf (b + 131) p.1 (nI s.1) p.2).bind fun p => some (p.1, p.2)) (fun N i s hi hs => by
        have e2 : ¬ 6 ≤ i := by omega
        have zz : (nI (O i) ≤ nI (O s.2)) ↔ O i ≤ O s.2 := nI_leI (by have := O1 i; omega) (by have := O1 s.2; omega)
        rw [f_Mo_likely_36]
        unfold mlS
        by_cases q : O i ≤ O s.2
        · simp (disch := omega) [f_Mo_likely_77, ↓ob_eq, ob_some, ldI, ldR, ldO, stI, stZ, stR, isO, wrA_n, rdA_n, wrA_l, rdA_l, gK_sI, gR_sI, gX_sI, gN_sI, gK_cp, gR_cp, gX_cp, gN_cp, rtZ_0, rtZ_1, if_true, reduceIte, and_self, true_and, and_true, K, e2, cm i hi, cm s.2 hs, zz, q, L_len, nI_add, nI_addL]
        · simp (disch := omega) [f_Mo_likely_77, ↓ob_eq, ob_some, ldI, ldR, ldO, stI, stZ, stR, isO, wrA_n, rdA_n, wrA_l, rdA_l, gK_sI, gR_sI, gX_sI, gN_sI, gK_cp, gR_cp, gX_cp, gN_cp, rtZ_0, rtZ_1, if_true, reduceIte, and_self, true_and, and_true, K, e2, cm i hi, cm s.2 hs, zz, q, L_len, nI_add, nI_addL]) (fun i s hi hs => ml6 i s.2 hi hs) (fun N s _ => by
        have e1 : (6 : Int32) ≤ nI 6 := by decide
        rw [f_Mo_likely_36]
        by_cases q : z = -1
        · simp [e1, q]
        · by_cases q2 : nI s.1 = 0
          · simp [e1, q, q2]
          · obtain ⟨c, hc, rfl⟩ : ∃ c, c < 6 ∧ z = nI c := hz.resolve_left q
            simp [e1, q, q2, isO, K, bind_some', cm c hc]) 6 0 (0, 0) FU (by omega) (by omega) (by rw [FU_eq]; omega)
      refine key.1.trans ?_
      have e1 := fo_rel (st := fun i (s : Nat × Nat) => (s.1 + O i, mlS O i s.2)) (st' := fun i s => s + O i) (fun _ s s' => s.1 = s') 6 (fun i s s' hi e => by subst e; rfl) 6 0 (0, 0) 0 (by omega) rfl
      have e2 := fo_rel (st := fun i (s : Nat × Nat) => (s.1 + O i, mlS O i s.2)) (st' := mlS O) (fun _ s s' => s.2 = s') 6 (fun i s s' hi e => by subst e; rfl) 6 0 (0, 0) 0 (by omega) rfl
      rw [e1, e2]
      by_cases q : z = -1
      · rw [if_pos q, if_pos q]
      · obtain ⟨c, hc, rfl⟩ : ∃ c, c < 6 ∧ z = nI c := hz.resolve_left q
        rw [if_neg q, if_neg q, tn_nI (by omega)]
        have zs : (nI (fo (fun i s => s + O i) 0 6 0) = 0) ↔ sumN O = 0 := nI_eqL (n := 0) (by have := sum1; unfold sumN at this; omega) (by decide)
        by_cases q2 : sumN O = 0
        · rw [if_pos (zs.mpr q2), if_pos q2]
        · rw [if_neg (fun z => q2 (zs.mp z)), if_neg q2, cm c hc, bind_some']
          have := mo_share (h := g) (a := b + 131) (o := O c) (l := sumN O) (by omega) sum1 (sum2 c hc)
          unfold sumN at this ⊢
          rw [this, bind_some']
    by_cases h1 : v = -1
    · subst h1
      have i1 : f_Mo_isIn (b + 131) (-1) (-1) 5 g = some (1, g) := by
        unfold f_Mo_isIn; rw [if_neg (by decide), if_neg (by decide), rtZ_1]
      have mm := m1 (-1) (Or.inl rfl)
      rw [if_pos rfl] at mm
      exact both_ref I0 (r := nI (fo (mlS O) 0 6 0)) (by simp [f_Tc_likely, w2, ↓ob_eq, ob_some, ldI, ldR, ldO, stI, stZ, stR, isO, wrA_n, rdA_n, wrA_l, rdA_l, gK_sI, gR_sI, gX_sI, gN_sI, gK_cp, gR_cp, gX_cp, gN_cp, rtZ_0, rtZ_1, if_true, reduceIte, and_self, true_and, and_true, K0, K1, K25, K124, R0_0, R0_4, R1_6, R25_6, c1]) (by rw [← hg]; simp [f_Mo_likely, i1, i2, ↓ob_eq, ob_some, ldI, ldR, ldO, stI, stZ, stR, isO, wrA_n, rdA_n, wrA_l, rdA_l, gK_sI, gR_sI, gX_sI, gN_sI, gK_cp, gR_cp, gX_cp, gN_cp, rtZ_0, rtZ_1, if_true, reduceIte, and_self, true_and, and_true, K131, K, ← hg, mm])
    · rcases in_cases v 5 5 rfl (by omega) with ⟨c, l1, rfl, w1, i1⟩ | ⟨w1, i1⟩
      · have hc : c < 6 := by omega
        have i3 : f_Mo_isIn (b + 131) (nI c) (-1) 5 g = some (1, g) := by
          have a1 : ¬ nI c < -1 := by
            rw [fa_lt, nI_toInt (by omega), show (-1 : Int32).toInt = -1 from rfl]; omega
          have a2 : ¬ (5 : Int32) < nI c := by rw [L_ltn (n := 5) (by omega) (by decide)]; simpa using l1
          unfold f_Mo_isIn; rw [if_neg a1, if_neg a2, rtZ_1]
        have mm := m1 (nI c) (Or.inr ⟨c, hc, rfl⟩)
        rw [if_neg h1, tn_nI (by omega)] at mm
        exact both_ref I0 (r := if sumN O = 0 then 0 else nI (O c * 1000000 / sumN O)) (by simp [f_Tc_likely, h1, w1, w2, ↓ob_eq, ob_some, ldI, ldR, ldO, stI, stZ, stR, isO, wrA_n, rdA_n, wrA_l, rdA_l, gK_sI, gR_sI, gX_sI, gN_sI, gK_cp, gR_cp, gX_cp, gN_cp, rtZ_0, rtZ_1, if_true, reduceIte, and_self, true_and, and_true, K0, K1, K25, K124, R0_0, R0_4, R1_6, R25_6, c2 c hc]) (by rw [← hg]; simp [f_Mo_likely, i3, i2, ↓ob_eq, ob_some, ldI, ldR, ldO, stI, stZ, stR, isO, wrA_n, rdA_n, wrA_l, rdA_l, gK_sI, gR_sI, gX_sI, gN_sI, gK_cp, gR_cp, gX_cp, gN_cp, rtZ_0, rtZ_1, if_true, reduceIte, and_self, true_and, and_true, K131, K, ← hg, mm])
      · have i3 : f_Mo_isIn (b + 131) v (-1) 5 g = some (0, g) := by
          have := i1 (b + 131) g
          unfold f_Mo_isIn at this ⊢
          by_cases a0 : v < -1
          · rw [if_pos a0, rtZ_0]
          · rw [if_neg a0]
            by_cases a1 : (5 : Int32) < v
            · rw [if_pos a1, rtZ_0]
            · have a2 : v < 0 := Decidable.byContradiction fun z => by
                rw [if_neg z, if_neg a1, rtZ_1] at this; cases this
              exfalso
              apply h1
              rw [fa_eq]
              rw [fa_lt] at a0 a2
              have z1 : (-1 : Int32).toInt = -1 := rfl
              have z0 : (0 : Int32).toInt = 0 := rfl
              omega
        exact both_ref I0 (r := -1) (by simp [f_Tc_likely, h1, w1, w2, ↓ob_eq, ob_some, ldI, ldR, ldO, stI, stZ, stR, isO, wrA_n, rdA_n, wrA_l, rdA_l, gK_sI, gR_sI, gX_sI, gN_sI, gK_cp, gR_cp, gX_cp, gN_cp, rtZ_0, rtZ_1, if_true, reduceIte, and_self, true_and, and_true]) (by rw [← hg]; simp [f_Mo_likely, i3, ↓ob_eq, ob_some, ldI, ldR, ldO, stI, stZ, stR, isO, wrA_n, rdA_n, wrA_l, rdA_l, gK_sI, gR_sI, gX_sI, gN_sI, gK_cp, gR_cp, gX_cp, gN_cp, rtZ_0, rtZ_1, if_true, reduceIte, and_self, true_and, and_true, K131, K, ← hg])
  · refine both_ref I0 (r := -1) (by simp [f_Tc_likely, w2, ↓ob_eq, ob_some, ldI, ldR, ldO, stI, stZ, stR, isO, wrA_n, rdA_n, wrA_l, rdA_l, gK_sI, gR_sI, gX_sI, gN_sI, gK_cp, gR_cp, gX_cp, gN_cp, rtZ_0, rtZ_1, if_true, reduceIte, and_self, true_and, and_true]) ?_
    rw [← hg]
    by_cases q : f_Mo_isIn (b + 131) v (-1) 5 g = some (1, g)
    · simp [f_Mo_likely, q, i2, ↓ob_eq, ob_some, ldI, ldR, ldO, stI, stZ, stR, isO, wrA_n, rdA_n, wrA_l, rdA_l, gK_sI, gR_sI, gX_sI, gN_sI, gK_cp, gR_cp, gX_cp, gN_cp, rtZ_0, rtZ_1, if_true, reduceIte, and_self, true_and, and_true, K131, K, ← hg]
    · have q2 : f_Mo_isIn (b + 131) v (-1) 5 g = some (0, g) := by
        unfold f_Mo_isIn at q ⊢
        by_cases a0 : v < -1
        · rw [if_pos a0, rtZ_0]
        · rw [if_neg a0] at q ⊢
          by_cases a1 : (5 : Int32) < v
          · rw [if_pos a1, rtZ_0]
          · rw [if_neg a1, rtZ_1] at q; exact absurd rfl q
      simp [f_Mo_likely, q2, ↓ob_eq, ob_some, ldI, ldR, ldO, stI, stZ, stR, isO, wrA_n, rdA_n, wrA_l, rdA_l, gK_sI, gR_sI, gX_sI, gN_sI, gK_cp, gR_cp, gX_cp, gN_cp, rtZ_0, rtZ_1, if_true, reduceIte, and_self, true_and, and_true, K131, K, ← hg]
