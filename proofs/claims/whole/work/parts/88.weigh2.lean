theorem bs_set {n t : Nat} (p : Nat → Bool) (ht : t < n) : bs n (fun s => if s = t then true else p s) = bs n p ||| 2 ^ t := by
  apply Nat.eq_of_testBit_eq
  intro i
  rw [bs_bit, Nat.testBit_or, bs_bit, Nat.testBit_two_pow]
  by_cases q : i = t
  · subst q; simp [ht]
  · have q2 : ¬ t = i := fun z => q z.symm
    simp [q, q2]
theorem bs_clr {n t : Nat} (p : Nat → Bool) : bs n (fun s => if s = t then false else p s) = bs n p ^^^ (bs n p &&& 2 ^ t) := by
  apply Nat.eq_of_testBit_eq
  intro i
  rw [bs_bit, Nat.testBit_xor, Nat.testBit_and, bs_bit, Nat.testBit_two_pow]
  by_cases q : i = t
  · subst q; simp
  · have q2 : ¬ t = i := fun z => q z.symm
    simp [q, q2]
theorem upr_set {G : Nat → Int32} {base t n : Nat} : bs n (fun s => upr G (base + t) 1 (base + s) == 1) = bs n (fun s => if s = t then true else G (base + s) == 1) := bs_cg (fun k _ => by
  by_cases q : k = t
  · subst q; rw [upr_q, if_pos rfl]; rfl
  · rw [upr_n (by omega), if_neg q])
theorem upr_clr {G : Nat → Int32} {base t n : Nat} : bs n (fun s => upr G (base + t) 0 (base + s) == 1) = bs n (fun s => if s = t then false else G (base + s) == 1) := bs_cg (fun k _ => by
  by_cases q : k = t
  · subst q; rw [upr_q, if_pos rfl]; rfl
  · rw [upr_n (by omega), if_neg q])
theorem cl_243 {h hx : PH} {b r t o hb : Nat} {G B : Nat → Int32} {W C P : Int32} {th bn un : Bool} (I : Inv b h) (td : Sn DYN b h hx) (hr : r = 2 ∨ r = 114) (rl : Rl h hx b r G) (ht : t < ntOf h b) (ho : o < noOf h b) (rb : RowB hb (ntOf h b) (noOf h b) (upr (upr G (19 + t) 0) (73 + o) (jmin 9 (G (73 + o) + 1)))) (bk : Bk hx (b + 12) B) (hun : un = (!bn && (decide (C = 0) && !decide (W ≤ 0)))) : ∃ h', Sn (WC r) b hx h' ∧ Rl h h' b r (if th then upr (upr G (19 + t) 0) (73 + o) (jmin 9 (G (73 + o) + 1)) else bkR (upr (upr G (19 + t) 0) (73 + o) (jmin 9 (G (73 + o) + 1)))) ∧ Bk h' (b + 12) (if th then B else bkB (upr (upr G (19 + t) 0) (73 + o) (jmin 9 (G (73 + o) + 1))) B (if bn then 1 else if un then 2 else 0) (nI t) (if un then W else P)) ∧ f_Land_weighOne_243 (b + 1) (b + r) (nI t) (nI o) (if th then 1 else 0) W C (if bn then 1 else 0) P hx = some (P, h') := by
  have I0 := I
  obtain ⟨s, cd, c_stat, c_realm, c_book, c_law, c_kin, c_shi, c_roa, c_ord, c_han, c_wei, c_bag, c_pri, c_cnt, c_led, c_yea, c_log, c_rdr, c_msc, c_img⟩ := I
  have K1 : gK h (b + 1) = (0, 1) := s.K 1 (by decide) rfl
  obtain ⟨⟨hnt, hno⟩, _⟩ := c_realm
  obtain ⟨⟨k0, k1, k2, k3, k4, k5, k6, k7, k8, k9⟩, q2, q3, q4, q5, q6, q10, q11, q12, q13⟩ := RS_r s td hr
  have t12 : t < 12 := by omega
  have o6 : o < 6 := by omega
  have rl1 := (rl.wet (w := 0) I0 hr ht).tired (w := jmin 9 (G (73 + o) + 1)) I0 hr ho
  obtain ⟨F1, F9, F0, F15, F16, F17, F18, F19, F14, F7, F8, RT, RO⟩ := rl
  have r9 := (RO o ho).2.2.2
  obtain ⟨hy, hhy⟩ : ∃ hy, hy = sI (sI hx (b + (r + 4)) t 0) (b + (r + 9)) o (jmin 9 (G (73 + o) + 1)) := ⟨_, rfl⟩
  rw [← hhy] at rl1
  have ty : Sn (RC r) b hx hy := by rw [hhy]; exact (Sn.rf.put (r + 4) t _ (RC_t t12).2.1).put (r + 9) o _ (RC_o o6).2
  have tyd : Sn DYN b h hy := td.tr (ty.up (by rcases hr with rfl | rfl <;> decide))
  have tyw : Sn (WC r) b hx hy := ty.up (by rcases hr with rfl | rfl <;> decide)
  have bky : Bk hy (b + 12) B := by rw [hhy]; exact (bk.n1 (by omega)).n1 (by omega)
  have r9' : gI (sI hx (b + (r + 4)) t 0) (b + (r + 9)) o = G (73 + o) := by rw [gI_n1 (by omega)]; exact r9
  have e10 : ¬ (1 : Int32) = 0 := by decide
  have e20 : ¬ (2 : Int32) = 0 := by decide
  have ky : gK hy (b + 1) = (0, 1) := by rw [tyd.1]; exact K1
  have pre : ∀ x4 x10, f_Land_weighOne_243 (b + 1) (b + r) (nI t) (nI o) x4 W C x10 P hx = if x4 = 0 then (if x10 = 0 then (if C = 0 then (if W ≤ 0 then f_Land_weighOne_293 (b + 1) (b + r) (nI t) W x10 P hy else f_Land_weighOne_294 (b + 1) (b + r) (nI t) W x10 P 1 hy) else f_Land_weighOne_293 (b + 1) (b + r) (nI t) W x10 P hy) else f_Land_weighOne_293 (b + 1) (b + r) (nI t) W x10 P hy) else some (P, hy) := fun x4 x10 => by
    simp (disch := omega) only [f_Land_weighOne_243, ↓ob_eq, ob_so, ldI, ldR, ldO, stI, stZ, stR, isO, wrA_n, rdA_n, wrA_l, rdA_l, gK_sI, gR_sI, gX_sI, gN_sI, gK_cp, gR_cp, gX_cp, gN_cp, rtZ_0, rtZ_1, if_true, reduceIte, and_self, true_and, and_true, k0, k4, k9, q5, q13, t12, o6, r9', ← hhy]
  rw [pre]
  cases th
  · -- written in the book
    obtain ⟨h', t', rl', bk', e'⟩ := cl_book (what := if bn then 1 else if un then 2 else 0) (who := nI t) (much := if un then W else P) I0 tyd hr rl1 rb bky
    refine ⟨h', tyw.tr t', rl', bk', ?_⟩
    have z : (if (false : Bool) = true then (1 : Int32) else 0) = 0 := rfl
    rw [z, if_pos rfl]
    cases bn
    · have zb : (if (false : Bool) = true then (1 : Int32) else 0) = 0 := rfl
      rw [zb, if_pos rfl]
      rw [if_neg (by decide)] at e'
      by_cases qC : C = 0
      · by_cases qW : W ≤ 0
        · have hu : un = false := by rw [hun]; simp [qW]
          rw [hu] at e'
          rw [if_neg (by decide), if_neg (by decide)] at e'
          rw [if_pos qC, if_pos qW]
          simp only [f_Land_weighOne_293, f_Land_weighOne_294, f_Land_weighOne_317, f_Land_weighOne_330, ↓ob_eq, ob_so, ldI, ldR, ldO, stI, stZ, stR, isO, wrA_n, rdA_n, wrA_l, rdA_l, gK_sI, gR_sI, gX_sI, gN_sI, gK_cp, gR_cp, gX_cp, gN_cp, rtZ_0, rtZ_1, if_true, reduceIte, and_self, true_and, and_true, ky, e']
        · have hu : un = true := by rw [hun]; simp [qW, qC]
          rw [hu] at e'
          rw [if_pos rfl, if_pos rfl] at e'
          rw [if_pos qC, if_neg qW]
          simp only [f_Land_weighOne_294, f_Land_weighOne_317, f_Land_weighOne_330, ↓ob_eq, ob_so, ldI, ldR, ldO, stI, stZ, stR, isO, wrA_n, rdA_n, wrA_l, rdA_l, gK_sI, gR_sI, gX_sI, gN_sI, gK_cp, gR_cp, gX_cp, gN_cp, rtZ_0, rtZ_1, if_true, reduceIte, and_self, true_and, and_true, ky, e', e10, if_false]
      · have hu : un = false := by rw [hun]; simp [qC]
        rw [hu] at e'
        rw [if_neg (by decide), if_neg (by decide)] at e'
        rw [if_neg qC]
        simp only [f_Land_weighOne_293, f_Land_weighOne_294, f_Land_weighOne_317, f_Land_weighOne_330, ↓ob_eq, ob_so, ldI, ldR, ldO, stI, stZ, stR, isO, wrA_n, rdA_n, wrA_l, rdA_l, gK_sI, gR_sI, gX_sI, gN_sI, gK_cp, gR_cp, gX_cp, gN_cp, rtZ_0, rtZ_1, if_true, reduceIte, and_self, true_and, and_true, ky, e']
    · have zb : (if (true : Bool) = true then (1 : Int32) else 0) = 1 := rfl
      have hu : un = false := by rw [hun]; rfl
      rw [zb, if_neg e10]
      rw [hu] at e'
      rw [if_pos rfl, if_neg (by decide)] at e'
      simp only [f_Land_weighOne_293, f_Land_weighOne_294, f_Land_weighOne_317, f_Land_weighOne_330, ↓ob_eq, ob_so, ldI, ldR, ldO, stI, stZ, stR, isO, wrA_n, rdA_n, wrA_l, rdA_l, gK_sI, gR_sI, gX_sI, gN_sI, gK_cp, gR_cp, gX_cp, gN_cp, rtZ_0, rtZ_1, if_true, reduceIte, and_self, true_and, and_true, ky, e', e10, if_false]
  · refine ⟨hy, tyw, rl1, bky, ?_⟩
    have z : (if (true : Bool) = true then (1 : Int32) else 0) = 1 := rfl
    rw [z, if_neg e10]
theorem cl_weigh {h hh : PH} {b r t o hb : Nat} {g B : Nat → Int32} {th : Bool} (I : Inv b h) (td : Sn DYN b h hh) (hr : r = 2 ∨ r = 114) (rl : Rl h hh b r g) (rb : RowB hb (ntOf h b) (noOf h b) g) (ht : t < ntOf h b) (ho : o < noOf h b) (hin : g (43 + t) = 0) (bk : Bk hh (b + 12) B) : ∃ h', Sn (WC r) b hh h' ∧ Rl h h' b r (wgR h b g t o th) ∧ Bk h' (b + 12) (wgB h b g B t o th) ∧ f_Land_weighOne (b + 1) (b + r) (nI t) (nI o) (if th then 1 else 0) hh = some (pay h b g t o th, h') := by
  have I0 := I
  have rb6 := wd6_RowB (th := th) I ht ho rb
  obtain ⟨c, p, x, c1, c2, x1, x2, px, p2, hbn⟩ := pay_bd (th := th) I ht ho rb
  obtain ⟨⟨fv, fv1, fv2⟩, rv, rv1, rv2⟩ := wF_bd (g := g) I ht ho
  obtain ⟨s, cd, c_stat, c_realm, c_book, c_law, c_kin, c_shi, c_roa, c_ord, c_han, c_wei, c_bag, c_pri, c_cnt, c_led, c_yea, c_log, c_rdr, c_msc, c_img⟩ := I
  have K1 : gK h (b + 1) = (0, 1) := s.K 1 (by decide) rfl
  obtain ⟨⟨hnt, hno⟩, _⟩ := c_realm
  obtain ⟨⟨k0, k1, k2, k3, k4, k5, k6, k7, k8, k9⟩, q2, q3, q4, q5, q6, q10, q11, q12, q13⟩ := RS_r s td hr
  have t12 : t < 12 := by omega
  have o6 : o < 6 := by omega
  have e10 : ¬ (1 : Int32) = 0 := by decide
  have hos : ∀ o', some o = some o' → o' < noOf h b := fun o' z => by cases z; exact ho
  -- asked twice
  obtain ⟨h1, t1, e1⟩ := land_tells (w := 2) I0 td hr rl ht hos (by omega)
  have d1 : Sn DYN b h h1 := td.tr (t1.up (by decide))
  have nr : ∀ p ∈ ([(17, 0, 10), (18, 0, 32)] : SL), p.1 < r ∨ r + 10 ≤ p.1 := fun p hp => by
    simp only [List.mem_cons, List.not_mem_nil, or_false] at hp
    rcases hp with rfl | rfl <;> dsimp only <;> omega
  have rl1 := rl.sn I0 t1 nr
  obtain ⟨h2, t2, e2⟩ := land_tells (w := 1) I0 d1 hr rl1 ht hos (by omega)
  have d2 : Sn DYN b h h2 := d1.tr (t2.up (by decide))
  have rl2 := rl1.sn I0 t2 nr
  have bk2 : Bk h2 (b + 12) B := (bk.sn t1 (by decide)).sn t2 (by decide)
  have e1 : f_Land_tells (b + 1) (b + r) 2 (nI t) (nI o) hh = some (wF h b g t o, h1) := e1
  have e2 : f_Land_tells (b + 1) (b + r) 1 (nI t) (nI o) h1 = some (wR h b g t o, h2) := e2
  have tw2 : Sn (WC r) b hh h2 := (t1.up (by rcases hr with rfl | rfl <;> decide)).tr (t2.up (by rcases hr with rfl | rfl <;> decide))
  -- drawn
  obtain ⟨h3, t3, rl3, bk3, tw3, dr⟩ : ∃ h3, Sn DYN b h h3 ∧ Rl h h3 b r (wd1 g th) ∧ Bk h3 (b + 12) B ∧ Sn (WC r) b hh h3 ∧ f_Land_weighOne (b + 1) (b + r) (nI t) (nI o) (if th then 1 else 0) hh = f_Land_weighOne_84 (b + 1) (b + r) (nI t) (nI o) (if th then 1 else 0) (wR h b g t o) (g (19 + t)) (if fnd h b g t o th then 1 else 0) h3 := by
    have ins := rl_inside (i := t) k0 rl.1 rl.2.2.2.2.2.2.2.2.2.1 hnt ht
    have zi : (g (43 + t) == 1) = false := by rw [hin]; decide
    rw [zi] at ins
    have ins : f_Realm_isInside (b + r) (nI t) hh = some (1, hh) := ins
    have f0 : ¬ nI o < 0 := nI_pos (by omega)
    have f1 : ¬ noOf h b ≤ o := by omega
    have F9 : gI hh (b + r) 9 = nI (noOf h b) := rl.2.1
    have iO : f_Realm_isOfficer (b + r) (nI o) hh = some (1, hh) := by
      simp (disch := omega) [f_Realm_isOfficer, ↓ob_eq, ob_so, ldI, ldR, ldO, stI, stZ, stR, isO, wrA_n, rdA_n, wrA_l, rdA_l, gK_sI, gR_sI, gX_sI, gN_sI, gK_cp, gR_cp, gX_cp, gN_cp, rtZ_0, rtZ_1, if_true, reduceIte, and_self, true_and, and_true, k0, F9, f0, f1, nI_le']
    have ka : gK hh (b + 1) = (0, 1) ∧ gK h1 (b + 1) = (0, 1) := ⟨by rw [td.1]; exact K1, by rw [d1.1]; exact K1⟩
    obtain ⟨⟨l0, l1, l2, l3, l4, l5, l6, l7, l8, l9⟩, m2, m3, m4, m5, m6, m10, m11, m12, m13⟩ := RS_r s d2 hr
    have wv : gI h2 (b + (r + 4)) t = g (19 + t) := (rl2.2.2.2.2.2.2.2.2.2.2.2.1 t ht).2.2.2.1
    cases th
    · have z0 : (if (false : Bool) = true then (1 : Int32) else 0) = 0 := rfl
      have f2 : gI h2 (b + r) 0 = g 1 := rl2.2.2.1
      have z1 : ¬ (1000 : Int32) ≤ 0 := by decide
      have hd : f_Realm_draw (b + r) 1000 h2 = some (jrem (jush (dS g) 8) 1000, sI h2 (b + r) 0 (dS g)) := by
        have g0 : gI (sI h2 (b + r) 0 (dS g)) (b + r) 0 = dS g := gI_q rfl rfl
        have ed : g 1 * 1664525 + 1013904223 = dS g := rfl
        have rm : rmI (jush (dS g) 8) 1000 = some (jrem (jush (dS g) 8) 1000) := by unfold rmI; rw [if_neg (by decide)]
        simp only [f_Realm_draw, ↓ob_eq, ob_so, ldI, ldR, ldO, stI, stZ, stR, isO, wrA_n, rdA_n, wrA_l, rdA_l, gK_sI, gR_sI, gX_sI, gN_sI, gK_cp, gR_cp, gX_cp, gN_cp, rtZ_0, rtZ_1, if_true, reduceIte, and_self, true_and, and_true, l0, f2, ed, g0, z1, rm, if_false]
      refine ⟨sI h2 (b + r) 0 (dS g), d2.tr ((Sn.rf.put r 0 (dS g) (RC_0 (by omega))).up (by rcases hr with rfl | rfl <;> decide)), rl2.draws I0 hr, bk2.n1 (by omega), tw2.put r 0 _ (WC_r (RC_0 (by omega))), ?_⟩
      have ef : fnd h b g t o false = !decide (wF h b g t o ≤ jrem (jush (dS g) 8) 1000) := rfl
      rw [z0, ef]
      by_cases q : wF h b g t o ≤ jrem (jush (dS g) 8) 1000
      · rw [decide_eq_true q]
        simp (disch := omega) only [f_Land_weighOne, ↓ob_eq, ob_so, ldI, ldR, ldO, stI, stZ, stR, isO, wrA_n, rdA_n, wrA_l, rdA_l, gK_sI, gR_sI, gX_sI, gN_sI, gK_cp, gR_cp, gX_cp, gN_cp, rtZ_0, rtZ_1, if_true, reduceIte, and_self, true_and, and_true, k0, l0, l4, m5, ka, ins, iO, e1, e2, t12, wv, hd, q, e10, if_false, Bool.not_true, Bool.false_eq_true]
      · rw [decide_eq_false q]
        simp (disch := omega) only [f_Land_weighOne, ↓ob_eq, ob_so, ldI, ldR, ldO, stI, stZ, stR, isO, wrA_n, rdA_n, wrA_l, rdA_l, gK_sI, gR_sI, gX_sI, gN_sI, gK_cp, gR_cp, gX_cp, gN_cp, rtZ_0, rtZ_1, if_true, reduceIte, and_self, true_and, and_true, k0, l0, l4, m5, ka, ins, iO, e1, e2, t12, wv, hd, q, e10, if_false, Bool.not_false]
    · have z0 : (if (true : Bool) = true then (1 : Int32) else 0) = 1 := rfl
      refine ⟨h2, d2, rl2, bk2, tw2, ?_⟩
      have ef : fnd h b g t o true = !decide (wF h b g t o < 500) := rfl
      rw [z0, ef]
      by_cases q : wF h b g t o < 500
      · rw [decide_eq_true q]
        simp (disch := omega) only [f_Land_weighOne, ↓ob_eq, ob_so, ldI, ldR, ldO, stI, stZ, stR, isO, wrA_n, rdA_n, wrA_l, rdA_l, gK_sI, gR_sI, gX_sI, gN_sI, gK_cp, gR_cp, gX_cp, gN_cp, rtZ_0, rtZ_1, if_true, reduceIte, and_self, true_and, and_true, k0, l0, l4, m5, ka, ins, iO, e1, e2, t12, wv, q, e10, if_false, Bool.not_true, Bool.false_eq_true]
      · rw [decide_eq_false q]
        simp (disch := omega) only [f_Land_weighOne, ↓ob_eq, ob_so, ldI, ldR, ldO, stI, stZ, stR, isO, wrA_n, rdA_n, wrA_l, rdA_l, gK_sI, gR_sI, gX_sI, gN_sI, gK_cp, gR_cp, gX_cp, gN_cp, rtZ_0, rtZ_1, if_true, reduceIte, and_self, true_and, and_true, k0, l0, l4, m5, ka, ins, iO, e1, e2, t12, wv, q, e10, if_false, Bool.not_false]
  rw [dr]
  obtain ⟨⟨l0, l1, l2, l3, l4, l5, l6, l7, l8, l9⟩, m2, m3, m4, m5, m6, m10, m11, m12, m13⟩ := RS_r s t3 hr
  have w1 : ∀ k, k ≠ 1 → wd1 g th k = g k := fun k hk => by
    unfold wd1
    cases th
    · rw [if_neg (by decide), upr_n hk]
    · rw [if_pos rfl]
  -- into the basin, or smuggled
  obtain ⟨h4, rl4, bk4, tw4, s4⟩ : ∃ h4, Rl h h4 b r (upr (wd1 g th) (wh h b g t o th) (g (wh h b g t o th) + g (19 + t))) ∧ Bk h4 (b + 12) B ∧ Sn (WC r) b h3 h4 ∧ f_Land_weighOne_84 (b + 1) (b + r) (nI t) (nI o) (if th then 1 else 0) (wR h b g t o) (g (19 + t)) (if fnd h b g t o th then 1 else 0) h3 = f_Land_weighOne_132 (b + 1) (b + r) (nI t) (nI o) (if th then 1 else 0) (g (19 + t)) (chg h b g t o th) h4 := by
    unfold wh chg
    cases fnd h b g t o th
    · have f17 : gI h3 (b + r) 17 = g 5 := by rw [rl3.2.2.2.2.2.1, w1 5 (by omega)]
      refine ⟨sI h3 (b + r) 17 (g 5 + g (19 + t)), ?_, bk3.n1 (by omega), Sn.rf.put r 17 _ (WC_r (RC_0 (by omega))), ?_⟩
      · rw [if_neg (by decide)]; exact rl3.smug I0 hr
      · simp only [f_Land_weighOne_84, f_Land_weighOne_100, ↓ob_eq, ob_so, ldI, ldR, ldO, stI, stZ, stR, isO, wrA_n, rdA_n, wrA_l, rdA_l, gK_sI, gR_sI, gX_sI, gN_sI, gK_cp, gR_cp, gX_cp, gN_cp, rtZ_0, rtZ_1, if_true, reduceIte, and_self, true_and, and_true, l0, f17, Bool.false_eq_true, if_false]
    · have f16 : gI h3 (b + r) 16 = g 4 := by rw [rl3.2.2.2.2.1, w1 4 (by omega)]
      refine ⟨sI h3 (b + r) 16 (g 4 + g (19 + t)), ?_, bk3.n1 (by omega), Sn.rf.put r 16 _ (WC_r (RC_0 (by omega))), ?_⟩
      · rw [if_pos rfl]; exact rl3.basin I0 hr
      · simp only [f_Land_weighOne_84, f_Land_weighOne_100, ↓ob_eq, ob_so, ldI, ldR, ldO, stI, stZ, stR, isO, wrA_n, rdA_n, wrA_l, rdA_l, gK_sI, gR_sI, gX_sI, gN_sI, gK_cp, gR_cp, gX_cp, gN_cp, rtZ_0, rtZ_1, if_true, reduceIte, and_self, true_and, and_true, l0, f16, e10, if_false]
  rw [s4]
  have d4 : Sn DYN b h h4 := t3.tr (tw4.up (by rcases hr with rfl | rfl <;> decide))
  obtain ⟨⟨n0, n1, n2, n3, n4, n5, n6, n7, n8, n9⟩, u2, u3, u4, u5, u6, u10, u11, u12, u13⟩ := RS_r s d4 hr
  obtain ⟨G4, hG4⟩ : ∃ G4, G4 = upr (wd1 g th) (wh h b g t o th) (g (wh h b g t o th) + g (19 + t)) := ⟨_, rfl⟩
  rw [← hG4] at rl4
  have whk : wh h b g t o th = 4 ∨ wh h b g t o th = 5 := by unfold wh; split; exact Or.inl rfl; exact Or.inr rfl
  have w4 : ∀ k, k ≠ 1 → k ≠ 4 → k ≠ 5 → G4 k = g k := fun k h1 h2 h3 => by rw [hG4, upr_n (by omega), w1 k h1]
  have cv : gI h4 (b + (r + 3)) t = g (7 + t) := by rw [(rl4.2.2.2.2.2.2.2.2.2.2.2.1 t ht).2.2.1, w4 _ (by omega) (by omega) (by omega)]
  -- paid
  have s5 : f_Land_weighOne_132 (b + 1) (b + r) (nI t) (nI o) (if th then 1 else 0) (g (19 + t)) (chg h b g t o th) h4 = f_Land_weighOne_166 (b + 1) (b + r) (nI t) (nI o) (if th then 1 else 0) (g (19 + t)) (chg h b g t o th) (if bnd h b g t o th then 1 else 0) (pay h b g t o th) h4 := by
    unfold pay bnd
    by_cases q : chg h b g t o th ≤ g (7 + t)
    · rw [decide_eq_true q]
      simp (disch := omega) only [f_Land_weighOne_132, f_Land_weighOne_148, ↓ob_eq, ob_so, ldI, ldR, ldO, stI, stZ, stR, isO, wrA_n, rdA_n, wrA_l, rdA_l, gK_sI, gR_sI, gX_sI, gN_sI, gK_cp, gR_cp, gX_cp, gN_cp, rtZ_0, rtZ_1, if_true, reduceIte, and_self, true_and, and_true, n0, n3, u4, t12, cv, q, Bool.not_true, Bool.false_eq_true, if_false]
    · rw [decide_eq_false q]
      simp (disch := omega) only [f_Land_weighOne_132, f_Land_weighOne_148, ↓ob_eq, ob_so, ldI, ldR, ldO, stI, stZ, stR, isO, wrA_n, rdA_n, wrA_l, rdA_l, gK_sI, gR_sI, gX_sI, gN_sI, gK_cp, gR_cp, gX_cp, gN_cp, rtZ_0, rtZ_1, if_true, reduceIte, and_self, true_and, and_true, n0, n3, u4, t12, cv, q, e10, Bool.not_false, if_false]
  rw [s5]
  have rl5 := (rl4.coin (w := g (7 + t) - pay h b g t o th) I0 hr ht).treas (w := g 3 + pay h b g t o th) I0 hr
  have eW3 : upr (upr G4 (7 + t) (g (7 + t) - pay h b g t o th)) 3 (g 3 + pay h b g t o th) = wd3 h b g t o th := by rw [hG4]; rfl
  rw [eW3] at rl5
  obtain ⟨h6, hh6⟩ : ∃ h6, h6 = sI (sI h4 (b + (r + 3)) t (g (7 + t) - pay h b g t o th)) (b + r) 15 (g 3 + pay h b g t o th) := ⟨_, rfl⟩
  rw [← hh6] at rl5
  have t6 : Sn (RC r) b h4 h6 := by rw [hh6]; exact (Sn.rf.put (r + 3) t _ (RC_t t12).1).put r 15 _ (RC_0 (by omega))
  have bk6 : Bk h6 (b + 12) B := by rw [hh6]; exact (bk4.n1 (by omega)).n1 (by omega)
  have k6' : gK h6 (b + r) = (0, 5) := by rw [t6.1]; exact n0
  have k65 : gK h6 (b + (r + 5)) = (1, 12) := by rw [t6.1]; exact n5
  have u66 : gR h6 (b + r) 6 = some (b + (r + 5)) := by rw [t6.2.1]; exact u6
  have f15 : gI (sI h4 (b + (r + 3)) t (g (7 + t) - pay h b g t o th)) (b + r) 15 = g 3 := by
    rw [gI_n1 (by omega), rl4.2.2.2.1, w4 3 (by omega) (by omega) (by omega)]
  have sh : jshl 1 (nI t) = nI (2 ^ t) := jshl1 t (by omega)
  have f8 : gI h6 (b + r) 8 = nI (bs (ntOf h b) (fun s => wd3 h b g t o th (55 + s) == 1)) := rl5.2.2.2.2.2.2.2.2.2.2.1
  have f7 : gI h6 (b + r) 7 = nI (bs (ntOf h b) (fun s => wd3 h b g t o th (43 + s) == 1)) := rl5.2.2.2.2.2.2.2.2.2.1
  -- bonded, or out
  obtain ⟨h7, rl7, bk7, tw7, s7⟩ : ∃ h7, Rl h h7 b r (wd4 h b g t o th) ∧ Bk h7 (b + 12) B ∧ Sn (WC r) b h4 h7 ∧ f_Land_weighOne_166 (b + 1) (b + r) (nI t) (nI o) (if th then 1 else 0) (g (19 + t)) (chg h b g t o th) (if bnd h b g t o th then 1 else 0) (pay h b g t o th) h4 = f_Land_weighOne_243 (b + 1) (b + r) (nI t) (nI o) (if th then 1 else 0) (g (19 + t)) (chg h b g t o th) (if bnd h b g t o th then 1 else 0) (pay h b g t o th) h7 := by
    have tw6 : Sn (WC r) b h4 h6 := t6.up (by rcases hr with rfl | rfl <;> decide)
    unfold wd4
    cases bnd h b g t o th
    · rw [if_neg (by decide)]
      have v8 : nI (bs (ntOf h b) (fun s => wd3 h b g t o th (55 + s) == 1)) &&& (nI (2 ^ t) ^^^ (-1)) = nI (bs (ntOf h b) (fun s => upr (wd3 h b g t o th) (55 + t) 0 (55 + s) == 1)) := by
        rw [andnot, fa_and, nI_xor, upr_clr, bs_clr]
      have ra := rl5.bond (w := 0) I0 hr ht v8
      have f7' : gI (sI h6 (b + r) 8 (nI (bs (ntOf h b) (fun s => wd3 h b g t o th (55 + s) == 1)) &&& (nI (2 ^ t) ^^^ (-1)))) (b + r) 7 = nI (bs (ntOf h b) (fun s => upr (wd3 h b g t o th) (55 + t) 0 (43 + s) == 1)) := ra.2.2.2.2.2.2.2.2.2.1
      have v7 : nI (bs (ntOf h b) (fun s => upr (wd3 h b g t o th) (55 + t) 0 (43 + s) == 1)) ||| nI (2 ^ t) = nI (bs (ntOf h b) (fun s => upr (upr (wd3 h b g t o th) (55 + t) 0) (43 + t) 1 (43 + s) == 1)) := by
        rw [fa_or, upr_set, bs_set _ ht]
      have rb' := (ra.out (w := 1) I0 hr ht v7).place (w := 0) I0 hr ht
      have em : (0 : Int32) - 1 = -1 := by decide
      rw [em] at rb'
      refine ⟨_, rb', ((bk6.n1 (by omega)).n1 (by omega)).n1 (by omega), ((tw6.put r 8 _ (WC_r (RC_0 (by omega)))).put r 7 _ (WC_r (RC_0 (by omega)))).put (r + 5) t _ (WC_r (RC_t t12).2.2), ?_⟩
      simp (disch := omega) only [f_Land_weighOne_166, ↓ob_eq, ob_so, ldI, ldR, ldO, stI, stZ, stR, isO, wrA_n, rdA_n, wrA_l, rdA_l, gK_sI, gR_sI, gX_sI, gN_sI, gK_cp, gR_cp, gX_cp, gN_cp, rtZ_0, rtZ_1, if_true, reduceIte, and_self, true_and, and_true, n0, n3, u4, t12, cv, f15, ← hh6, k6', k65, u66, sh, f8, f7', Bool.false_eq_true, if_false]
    · rw [if_pos rfl]
      have v8 : nI (bs (ntOf h b) (fun s => wd3 h b g t o th (55 + s) == 1)) ||| nI (2 ^ t) = nI (bs (ntOf h b) (fun s => upr (wd3 h b g t o th) (55 + t) 1 (55 + s) == 1)) := by
        rw [fa_or, upr_set, bs_set _ ht]
      have ra := rl5.bond (w := 1) I0 hr ht v8
      refine ⟨_, ra, bk6.n1 (by omega), tw6.put r 8 _ (WC_r (RC_0 (by omega))), ?_⟩
      simp (disch := omega) only [f_Land_weighOne_166, ↓ob_eq, ob_so, ldI, ldR, ldO, stI, stZ, stR, isO, wrA_n, rdA_n, wrA_l, rdA_l, gK_sI, gR_sI, gX_sI, gN_sI, gK_cp, gR_cp, gX_cp, gN_cp, rtZ_0, rtZ_1, if_true, reduceIte, and_self, true_and, and_true, n0, n3, u4, t12, cv, f15, ← hh6, k6', sh, f8, e10, if_false]
  rw [s7]
  have d7 : Sn DYN b h h7 := d4.tr (tw7.up (by rcases hr with rfl | rfl <;> decide))
  have e73 : wd4 h b g t o th (73 + o) = g (73 + o) := (wd_at t12 o6).2.2
  have e6 : upr (upr (wd4 h b g t o th) (19 + t) 0) (73 + o) (jmin 9 (wd4 h b g t o th (73 + o) + 1)) = wd6 h b g t o th := by rw [e73]; rfl
  obtain ⟨h8, t8, rl8, bk8, e8⟩ := cl_243 (W := g (19 + t)) (C := chg h b g t o th) (P := pay h b g t o th) (th := th) (bn := bnd h b g t o th) (un := unc h b g t o th) I0 d7 hr rl7 ht ho (by rw [e6]; exact rb6) bk7 rfl
  rw [e6] at rl8 bk8
  exact ⟨h8, tw3.tr (tw4.tr (tw7.tr t8)), rl8, bk8, e8⟩
