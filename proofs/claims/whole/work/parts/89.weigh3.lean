theorem mo_notes {h hx : PH} {b hb : Nat} {G B : Nat → Int32} {what who much : Int32} {th : Bool} (I : Inv b h) (td : Sn DYN b h hx) (rw' : Rw hx b G) (rb : RowB hb (ntOf h b) (noOf h b) G) (bk : Bk hx (b + 139) B) (fl : gI hx (b + 131) 5 = if th then 1 else 0) : ∃ h', Sn [(132, 0, 79), (139, 0, 600)] b hx h' ∧ Rw h' b (if th then G else bkR G) ∧ Bk h' (b + 139) (if th then B else bkB G B what who much) ∧ f_Mo_notes (b + 131) what who much hx = some h' := by
  obtain ⟨s, cd, c_stat, c_realm, c_book, c_law, c_kin, c_shi, c_roa, c_ord, c_han, c_wei, c_bag, c_pri, c_cnt, c_led, c_yea, c_log, c_rdr, c_msc, c_img⟩ := I
  have K131 : gK h (b + 131) = (0, 9) := s.K 131 (by decide) rfl
  have K132 : gK h (b + 132) = (1, 79) := s.K 132 (by decide) rfl
  have K139 : gK h (b + 139) = (1, 600) := s.K 139 (by decide) rfl
  have R131_1 : gR h (b + 131) 1 = some (b + 132) := s.R 131 1 rfl
  have R131_12 : gR h (b + 131) 12 = some (b + 139) := s.R 131 12 rfl
  have k131 : gK hx (b + 131) = (0, 9) := by rw [td.1]; exact K131
  have k132 : gK hx (b + 132) = (1, 79) := by rw [td.1]; exact K132
  have k139 : gK hx (b + 139) = (1, 600) := by rw [td.1]; exact K139
  have p1 : gR hx (b + 131) 1 = some (b + 132) := by rw [td.2.1]; exact R131_1
  have p12 : gR hx (b + 131) 12 = some (b + 139) := by rw [td.2.1]; exact R131_12
  have e10 : ¬ (1 : Int32) = 0 := by decide
  cases th
  · have fl : gI hx (b + 131) 5 = 0 := fl
    rw [if_neg (by decide), if_neg (by decide)]
    obtain ⟨l, l1, l2⟩ := rb.2.1
    have r2 : ∀ H, gK H = gK hx → ∀ x, gI H (b + 132) 2 = x → rdA H (b + 132) 2 = some x := fun H hH x hx' => rd_at (k := 2) (n := 79) (by rw [hH]; exact k132) (by decide) (by decide) hx'
    have r0 : rdA hx (b + 132) 0 = some (G 0) := rd_at (k := 0) k132 (by decide) (by decide) (rw' 0 (by omega))
    have rl2 : rdA hx (b + 132) 2 = some (nI l) := r2 hx rfl _ (by rw [rw' 2 (by omega)]; exact l2)
    unfold bkR bkB
    by_cases q : l = 150
    · have qg : G 2 = 150 := by rw [l2, q]; rfl
      have z : (nI l = 150) = True := eq_true (by rw [q]; rfl)
      rw [if_pos qg, if_pos qg]
      refine ⟨hx, Sn.rf, rw', bk, ?_⟩
      simp only [f_Mo_notes, rl2, ↓ob_eq, ob_so, ldI, ldR, ldO, stI, stZ, stR, isO, wrA_n, rdA_n, wrA_l, rdA_l, gK_sI, gR_sI, gX_sI, gN_sI, gK_cp, gR_cp, gX_cp, gN_cp, rtZ_0, rtZ_1, if_true, reduceIte, and_self, true_and, and_true, k131, p1, fl, z]
    · have qg : ¬ G 2 = 150 := fun z => q ((nI_eqL (n := 150) (by omega) (by decide)).mp (by rw [← l2]; exact z))
      have z : ¬ nI l = 150 := by rw [← l2]; exact qg
      have gl : (G 2).toNatClampNeg = l := by rw [l2, tn_nI (by omega)]
      rw [if_neg qg, if_neg qg, gl]
      have a0 : 4 * l < 600 := by omega
      have a1 : 4 * l + 1 < 600 := by omega
      have a2 : 4 * l + 2 < 600 := by omega
      have a3 : 4 * l + 3 < 600 := by omega
      obtain ⟨hy, hhy⟩ : ∃ hy, hy = sI (sI (sI (sI hx (b + 139) (4 * l) (G 0)) (b + 139) (4 * l + 1) what) (b + 139) (4 * l + 2) who) (b + 139) (4 * l + 3) much := ⟨_, rfl⟩
      have ty : Sn [(132, 0, 79), (139, 0, 600)] b hx hy := by rw [hhy]; exact (((Sn.rf.put 139 _ _ (inL_in (lo := 0) (hi := 600) (by decide) (by omega) a0)).put 139 _ _ (inL_in (lo := 0) (hi := 600) (by decide) (by omega) a1)).put 139 _ _ (inL_in (lo := 0) (hi := 600) (by decide) (by omega) a2)).put 139 _ _ (inL_in (lo := 0) (hi := 600) (by decide) (by omega) a3)
      have rwy : Rw hy b G := fun j hj => by rw [hhy, gI_n1 (by omega), gI_n1 (by omega), gI_n1 (by omega), gI_n1 (by omega)]; exact rw' j hj
      have bky : Bk hy (b + 139) (upr (upr (upr (upr B (4 * l) (G 0)) (4 * l + 1) what) (4 * l + 2) who) (4 * l + 3) much) := by rw [hhy]; exact ((bk.put.put).put).put
      have r2y : rdA hy (b + 132) 2 = some (nI l) := r2 hy ty.1 _ (by rw [rwy 2 (by omega)]; exact l2)
      have w2y : wrA hy (b + 132) 2 (nI l + 1) = some (sI hy (b + 132) 2 (nI l + 1)) := wr_at (k := 2) (n := 79) (by rw [ty.1]; exact k132) (by decide) (by decide)
      refine ⟨sI hy (b + 132) 2 (nI l + 1), ty.put 132 2 _ (by decide), by rw [l2]; exact rwy.put, bky.n1 (by omega), ?_⟩
      have ky : gK hy (b + 131) = (0, 9) := by rw [ty.1]; exact k131
      have py : gR hy (b + 131) 1 = some (b + 132) := by rw [ty.2.1]; exact p1
      simp (disch := omega) only [f_Mo_notes, rl2, r0, ↓ob_eq, ob_so, ldI, ldR, ldO, stI, stZ, stR, isO, wrA_n, rdA_n, wrA_l, rdA_l, gK_sI, gR_sI, gX_sI, gN_sI, gK_cp, gR_cp, gX_cp, gN_cp, rtZ_0, rtZ_1, if_true, reduceIte, and_self, true_and, and_true, k131, k139, p1, p12, fl, z, a0, a1, a2, a3, L_muln, nI_addL, ← hhy, if_false]
      simp only [↓ob_eq, ob_so, ldI, ldR, ldO, stI, stZ, stR, isO, wrA_n, rdA_n, wrA_l, rdA_l, gK_sI, gR_sI, gX_sI, gN_sI, gK_cp, gR_cp, gX_cp, gN_cp, rtZ_0, rtZ_1, if_true, reduceIte, and_self, true_and, and_true, ky, py, r2y, w2y]
      rw [nI_addL] at w2y
      simp only [nI_addL, w2y, ob_so]
  · have fl : gI hx (b + 131) 5 = 1 := fl
    refine ⟨hx, Sn.rf, rw', bk, ?_⟩
    simp only [f_Mo_notes, ↓ob_eq, ob_so, ldI, ldR, ldO, stI, stZ, stR, isO, wrA_n, rdA_n, wrA_l, rdA_l, gK_sI, gR_sI, gX_sI, gN_sI, gK_cp, gR_cp, gX_cp, gN_cp, rtZ_0, rtZ_1, if_true, reduceIte, and_self, true_and, and_true, k131, fl, e10, if_false]
theorem mo_weighs {h hh : PH} {b t o hb : Nat} {g B : Nat → Int32} {th : Bool} (I : Inv b h) (td : Sn DYN b h hh) (rw' : Rw hh b g) (rb : RowB hb (ntOf h b) (noOf h b) g) (ht : t < ntOf h b) (ho : o < noOf h b) (bk : Bk hh (b + 139) B) (fl : gI hh (b + 131) 5 = if th then 1 else 0) : ∃ h', Sn [(132, 0, 79), (139, 0, 600), (153, 0, 10), (154, 0, 420)] b hh h' ∧ Rw h' b (wgR h b g t o th) ∧ Bk h' (b + 139) (wgB h b g B t o th) ∧ f_Mo_weighs (b + 131) (nI t) (nI o) hh = some (pay h b g t o th, h') := by
  have I0 := I
  have rb6 := wd6_RowB (th := th) I ht ho rb
  obtain ⟨c, p, x, c1, c2, x1, x2, px, p2, hbn⟩ := pay_bd (th := th) I ht ho rb
  obtain ⟨⟨fv, fv1, fv2⟩, rv, rv1, rv2⟩ := wF_bd (g := g) I ht ho
  obtain ⟨s, cd, c_stat, c_realm, c_book, c_law, c_kin, c_shi, c_roa, c_ord, c_han, c_wei, c_bag, c_pri, c_cnt, c_led, c_yea, c_log, c_rdr, c_msc, c_img⟩ := I
  have K131 : gK h (b + 131) = (0, 9) := s.K 131 (by decide) rfl
  have K132 : gK h (b + 132) = (1, 79) := s.K 132 (by decide) rfl
  have R131_1 : gR h (b + 131) 1 = some (b + 132) := s.R 131 1 rfl
  obtain ⟨⟨hnt, hno⟩, _⟩ := c_realm
  have t12 : t < 12 := by omega
  have o6 : o < 6 := by omega
  have e10 : ¬ (1 : Int32) = 0 := by decide
  obtain ⟨⟨h1, t1, e1⟩, _⟩ := (mo_wt I0 td rw' ht).2 o ho
  have d1 : Sn DYN b h h1 := td.tr (t1.up (by decide))
  have rw1 : Rw h1 b g := rw'.sn t1 (by decide)
  obtain ⟨_, h2, t2, e2⟩ := (mo_wt I0 d1 rw1 ht).2 o ho
  have d2 : Sn DYN b h h2 := d1.tr (t2.up (by decide))
  have rw2 : Rw h2 b g := rw1.sn t2 (by decide)
  have bk2 : Bk h2 (b + 139) B := (bk.sn t1 (by decide)).sn t2 (by decide)
  have fl2 : gI h2 (b + 131) 5 = if th then 1 else 0 := by rw [t2.I (by decide), t1.I (by decide)]; exact fl
  have e1 : f_Mo_rateOf (b + 131) (nI t) (nI o) hh = some (wR h b g t o, h1) := e1
  have e2 : f_Mo_findOf (b + 131) (nI t) (nI o) h1 = some (wF h b g t o, h2) := e2
  have kx : ∀ H, Sn DYN b h H → gK H (b + 131) = (0, 9) ∧ gK H (b + 132) = (1, 79) ∧ gR H (b + 131) 1 = some (b + 132) := fun H tH => ⟨by rw [tH.1]; exact K131, by rw [tH.1]; exact K132, by rw [tH.2.1]; exact R131_1⟩
  have a7 : 7 + t < 79 := by omega
  have a19 : 19 + t < 79 := by omega
  have a31 : 31 + t < 79 := by omega
  have a43 : 43 + t < 79 := by omega
  have a55 : 55 + t < 79 := by omega
  have a73 : 73 + o < 79 := by omega
  have pt : ∀ H k v, k < 79 → Sn [(132, 0, 79)] b H (sI H (b + 132) k v) := fun H k v hk => Sn.rf.put 132 k v (inL_in (lo := 0) (hi := 79) (by decide) (by omega) hk)
  have dp : ∀ H k v, k < 79 → Sn DYN b h H → Sn DYN b h (sI H (b + 132) k v) := fun H k v hk tH => tH.tr ((pt H k v hk).up (by decide))
  have rdl : ∀ H k x, k < 79 → Sn DYN b h H → gI H (b + 132) k = x → rdA H (b + 132) (nI k) = some x := fun H k x hk tH hx' => rd_at (kx H tH).2.1 hk (by decide) hx'
  have wrl : ∀ H k v, k < 79 → Sn DYN b h H → wrA H (b + 132) (nI k) v = some (sI H (b + 132) k v) := fun H k v hk tH => wr_at (kx H tH).2.1 hk (by decide)
  obtain ⟨kh, kh2, ph⟩ := kx hh td
  obtain ⟨k1, k12, p1⟩ := kx h1 d1
  obtain ⟨k2, k22, pp2⟩ := kx h2 d2
  have wv : gI hh (b + 132) (19 + t) = g (19 + t) := rw' _ a19
  -- drawn
  obtain ⟨h3, d3, rw3, bk3, fl3, tw3, dr⟩ : ∃ h3, Sn DYN b h h3 ∧ Rw h3 b (wd1 g th) ∧ Bk h3 (b + 139) B ∧ (gI h3 (b + 131) 5 = if th then 1 else 0) ∧ Sn [(132, 0, 79), (139, 0, 600), (153, 0, 10), (154, 0, 420)] b hh h3 ∧ f_Mo_weighs (b + 131) (nI t) (nI o) hh = f_Mo_weighs_68 (b + 131) (nI t) (nI o) (g (19 + t)) (wR h b g t o) (if fnd h b g t o th then 1 else 0) h3 := by
    have tw2 : Sn [(132, 0, 79), (139, 0, 600), (153, 0, 10), (154, 0, 420)] b hh h2 := (t1.up (by decide)).tr (t2.up (by decide))
    cases th
    · have fl2 : gI h2 (b + 131) 5 = 0 := fl2
      have g1 : rdA h2 (b + 132) 1 = some (g 1) := rdl h2 1 _ (by omega) d2 (rw2 1 (by omega))
      have ed : (1664525 : Int32) * g 1 + 1013904223 = dS g := by unfold dS; rw [Int32.mul_comm]
      have w1 : wrA h2 (b + 132) 1 (dS g) = some (sI h2 (b + 132) 1 (dS g)) := wrl h2 1 _ (by omega) d2
      have d3 := dp h2 1 (dS g) (by omega) d2
      obtain ⟨k3, k32, p3⟩ := kx _ d3
      have g3 : rdA (sI h2 (b + 132) 1 (dS g)) (b + 132) 1 = some (dS g) := rdl _ 1 _ (by omega) d3 (gI_q rfl rfl)
      have rm : rmI (jush (dS g) 8) 1000 = some (jrem (jush (dS g) 8) 1000) := by unfold rmI; rw [if_neg (by decide)]
      have hd : f_Mo_draw (b + 131) 1000 h2 = some (jrem (jush (dS g) 8) 1000, sI h2 (b + 132) 1 (dS g)) := by
        simp only [f_Mo_draw, g1, ed, w1, g3, rm, ↓ob_eq, ob_so, ldI, ldR, ldO, stI, stZ, stR, isO, wrA_n, rdA_n, wrA_l, rdA_l, gK_sI, gR_sI, gX_sI, gN_sI, gK_cp, gR_cp, gX_cp, gN_cp, rtZ_0, rtZ_1, if_true, reduceIte, and_self, true_and, and_true, k2, pp2]
      refine ⟨sI h2 (b + 132) 1 (dS g), d3, rw2.put, bk2.n1 (by omega), by rw [gI_n1 (by omega)]; exact fl2, tw2.put 132 1 _ (by decide), ?_⟩
      have ef : fnd h b g t o false = !decide (wF h b g t o ≤ jrem (jush (dS g) 8) 1000) := rfl
      rw [ef]
      by_cases q : wF h b g t o ≤ jrem (jush (dS g) 8) 1000
      · rw [decide_eq_true q]
        simp (disch := omega) only [f_Mo_weighs, ↓ob_eq, ob_so, ldI, ldR, ldO, stI, stZ, stR, isO, wrA_n, rdA_n, wrA_l, rdA_l, gK_sI, gR_sI, gX_sI, gN_sI, gK_cp, gR_cp, gX_cp, gN_cp, rtZ_0, rtZ_1, if_true, reduceIte, and_self, true_and, and_true, kh, kh2, ph, k1, k2, a19, wv, e1, e2, fl2, hd, q, L_addn, Bool.not_true, Bool.false_eq_true, if_false]
      · rw [decide_eq_false q]
        simp (disch := omega) only [f_Mo_weighs, ↓ob_eq, ob_so, ldI, ldR, ldO, stI, stZ, stR, isO, wrA_n, rdA_n, wrA_l, rdA_l, gK_sI, gR_sI, gX_sI, gN_sI, gK_cp, gR_cp, gX_cp, gN_cp, rtZ_0, rtZ_1, if_true, reduceIte, and_self, true_and, and_true, kh, kh2, ph, k1, k2, a19, wv, e1, e2, fl2, hd, q, L_addn, Bool.not_false, if_false]
    · have fl2' : gI h2 (b + 131) 5 = 1 := fl2
      refine ⟨h2, d2, rw2, bk2, fl2, tw2, ?_⟩
      have ef : fnd h b g t o true = !decide (wF h b g t o < 500) := rfl
      rw [ef]
      have e5 : (2 * wF h b g t o < 1000) ↔ wF h b g t o < 500 := by
        rw [fv2, L_muln]
        have z1 : (nI (2 * fv) < 1000) ↔ 2 * fv < 1000 := nI_ltL (n := 1000) (by omega) (by decide)
        have z2 : (nI fv < 500) ↔ fv < 500 := nI_ltL (n := 500) (by omega) (by decide)
        rw [z2]
        refine Iff.trans z1 ?_
        omega
      by_cases q : wF h b g t o < 500
      · have q' := e5.mpr q
        rw [decide_eq_true q]
        simp (disch := omega) only [f_Mo_weighs, ↓ob_eq, ob_so, ldI, ldR, ldO, stI, stZ, stR, isO, wrA_n, rdA_n, wrA_l, rdA_l, gK_sI, gR_sI, gX_sI, gN_sI, gK_cp, gR_cp, gX_cp, gN_cp, rtZ_0, rtZ_1, if_true, reduceIte, and_self, true_and, and_true, kh, kh2, ph, k1, k2, a19, wv, e1, e2, fl2', q', L_addn, e10, Bool.not_true, Bool.false_eq_true, if_false]
      · have q' : ¬ 2 * wF h b g t o < 1000 := fun z => q (e5.mp z)
        rw [decide_eq_false q]
        simp (disch := omega) only [f_Mo_weighs, ↓ob_eq, ob_so, ldI, ldR, ldO, stI, stZ, stR, isO, wrA_n, rdA_n, wrA_l, rdA_l, gK_sI, gR_sI, gX_sI, gN_sI, gK_cp, gR_cp, gX_cp, gN_cp, rtZ_0, rtZ_1, if_true, reduceIte, and_self, true_and, and_true, kh, kh2, ph, k1, k2, a19, wv, e1, e2, fl2', q', L_addn, e10, Bool.not_false, if_false]
  rw [dr]
  have w1 : ∀ k, k ≠ 1 → wd1 g th k = g k := fun k hk => by
    unfold wd1
    cases th
    · rw [if_neg (by decide), upr_n hk]
    · rw [if_pos rfl]
  have whk : wh h b g t o th = 4 ∨ wh h b g t o th = 5 := by unfold wh; split; exact Or.inl rfl; exact Or.inr rfl
  have s4 : f_Mo_weighs_68 (b + 131) (nI t) (nI o) (g (19 + t)) (wR h b g t o) (if fnd h b g t o th then 1 else 0) h3 = f_Mo_weighs_95 (b + 131) (nI t) (nI o) (g (19 + t)) (chg h b g t o th) (nI (wh h b g t o th)) h3 := by
    unfold wh chg
    cases fnd h b g t o th
    · have e5 : nI 5 = 5 := rfl
      simp only [f_Mo_weighs_68, f_Mo_weighs_83, Bool.false_eq_true, if_true, if_false, e5]
    · have e4 : nI 4 = 4 := rfl
      simp only [f_Mo_weighs_68, f_Mo_weighs_83, e10, if_true, if_false, e4]
  rw [s4]
  -- the rows one after the other
  obtain ⟨k3, k32, p3⟩ := kx h3 d3
  obtain ⟨W, hW⟩ : ∃ W, W = wh h b g t o th := ⟨_, rfl⟩
  rw [← hW] at whk ⊢
  have W79 : W < 79 := by omega
  have v3 : gI h3 (b + 132) W = g W := by rw [rw3 W W79, w1 W (by omega)]
  obtain ⟨h4, hh4⟩ : ∃ h4, h4 = sI h3 (b + 132) W (g W + g (19 + t)) := ⟨_, rfl⟩
  have d4 : Sn DYN b h h4 := by rw [hh4]; exact dp h3 W _ W79 d3
  have rw4 : Rw h4 b (upr (wd1 g th) W (g W + g (19 + t))) := by rw [hh4]; exact rw3.put
  obtain ⟨k4, k42, p4⟩ := kx h4 d4
  have u4 : ∀ k, k ≠ 1 → k ≠ 4 → k ≠ 5 → upr (wd1 g th) W (g W + g (19 + t)) k = g k := fun k h1 h2 h3 => by rw [upr_n (by omega), w1 k h1]
  have v4 : gI h4 (b + 132) (7 + t) = g (7 + t) := by rw [rw4 _ a7, u4 _ (by omega) (by omega) (by omega)]
  have jm : jmin (chg h b g t o th) (g (7 + t)) = pay h b g t o th := by
    unfold pay
    rw [c2, x2]
    have e := jminN (a := c) (c := x) (by omega) (by omega)
    rw [e]
    by_cases q : x < c
    · rw [if_pos (hbn.mpr q)]; congr 1; exact Nat.min_eq_right (by omega)
    · rw [if_neg (fun z => q (hbn.mp z))]; congr 1; exact Nat.min_eq_left (by omega)
  obtain ⟨h5, hh5⟩ : ∃ h5, h5 = sI h4 (b + 132) (7 + t) (g (7 + t) - pay h b g t o th) := ⟨_, rfl⟩
  have d5 : Sn DYN b h h5 := by rw [hh5]; exact dp h4 _ _ a7 d4
  have rw5 : Rw h5 b (upr (upr (wd1 g th) W (g W + g (19 + t))) (7 + t) (g (7 + t) - pay h b g t o th)) := by rw [hh5]; exact rw4.put
  obtain ⟨k5, k52, p5⟩ := kx h5 d5
  have v5 : rdA h5 (b + 132) 3 = some (g 3) := rdl h5 3 _ (by omega) d5 (by rw [rw5 3 (by omega), upr_n (by omega), u4 3 (by omega) (by omega) (by omega)])
  obtain ⟨h6, hh6⟩ : ∃ h6, h6 = sI h5 (b + 132) 3 (g 3 + pay h b g t o th) := ⟨_, rfl⟩
  have x6 : wrA h5 (b + 132) 3 (g 3 + pay h b g t o th) = some h6 := by rw [hh6]; exact wrl h5 3 _ (by omega) d5
  have d6 : Sn DYN b h h6 := by rw [hh6]; exact dp h5 3 _ (by omega) d5
  have rw6 : Rw h6 b (wd3 h b g t o th) := by rw [hh6]; unfold wd3; rw [← hW]; exact rw5.put
  obtain ⟨k6, k62, p6⟩ := kx h6 d6
  obtain ⟨h7, hh7⟩ : ∃ h7, h7 = sI h6 (b + 132) (19 + t) 0 := ⟨_, rfl⟩
  have d7 : Sn DYN b h h7 := by rw [hh7]; exact dp h6 _ _ a19 d6
  have rw7 : Rw h7 b (upr (wd3 h b g t o th) (19 + t) 0) := by rw [hh7]; exact rw6.put
  obtain ⟨k7, k72, p7⟩ := kx h7 d7
  have e73 : wd3 h b g t o th (73 + o) = g (73 + o) := by
    unfold wd3
    rw [← hW, upr_n (by omega), upr_n (by omega), upr_n (by omega), w1 _ (by omega)]
  have v7 : gI h7 (b + 132) (73 + o) = g (73 + o) := by rw [rw7 _ a73, upr_n (by omega)]; exact e73
  obtain ⟨h8, hh8⟩ : ∃ h8, h8 = sI h7 (b + 132) (73 + o) (jmin 9 (g (73 + o) + 1)) := ⟨_, rfl⟩
  have d8 : Sn DYN b h h8 := by rw [hh8]; exact dp h7 _ _ a73 d7
  have rw8 : Rw h8 b (upr (upr (wd3 h b g t o th) (19 + t) 0) (73 + o) (jmin 9 (g (73 + o) + 1))) := by rw [hh8]; exact rw7.put
  obtain ⟨k8, k82, p8⟩ := kx h8 d8
  have t8 : Sn [(132, 0, 79)] b h3 h8 := by
    rw [hh8, hh7, hh6, hh5, hh4]
    exact (((((pt h3 W _ W79).put 132 _ _ (inL_in (lo := 0) (hi := 79) (by decide) (by omega) a7)).put 132 3 _ (by decide)).put 132 _ _ (inL_in (lo := 0) (hi := 79) (by decide) (by omega) a19)).put 132 _ _ (inL_in (lo := 0) (hi := 79) (by decide) (by omega) a73))
  have bk8 : Bk h8 (b + 139) B := bk3.sn t8 (by decide)
  have fl8 : gI h8 (b + 131) 5 = if th then 1 else 0 := by rw [t8.I (by decide)]; exact fl3
  -- bonded, or out
  have pre : f_Mo_weighs_95 (b + 131) (nI t) (nI o) (g (19 + t)) (chg h b g t o th) (nI W) h3 = if chg h b g t o th ≤ g (7 + t) then (if chg h b g t o th = 0 then (if g (19 + t) ≤ 0 then f_Mo_weighs_270 (b + 131) (nI t) (g (19 + t)) (pay h b g t o th) (sI (sI (sI h8 (b + 132) (55 + t) 0) (b + 132) (43 + t) 1) (b + 132) (31 + t) 0) else f_Mo_weighs_271 (b + 131) (nI t) (g (19 + t)) (pay h b g t o th) 1 (sI (sI (sI h8 (b + 132) (55 + t) 0) (b + 132) (43 + t) 1) (b + 132) (31 + t) 0)) else f_Mo_weighs_270 (b + 131) (nI t) (g (19 + t)) (pay h b g t o th) (sI (sI (sI h8 (b + 132) (55 + t) 0) (b + 132) (43 + t) 1) (b + 132) (31 + t) 0)) else ob (f_Mo_notes (b + 131) 1 (nI t) (pay h b g t o th) (sI h8 (b + 132) (55 + t) 1)) (fun h31 => some (pay h b g t o th, h31)) (tg (fun h31 => some (pay h b g t o th, h31))) := by
    unfold f_Mo_weighs_95
    simp (disch := omega) only [↓ob_eq, ob_so, ldI, ldR, ldO, stI, stZ, stR, isO, wrA_n, rdA_n, wrA_l, rdA_l, gK_sI, gR_sI, gX_sI, gN_sI, gK_cp, gR_cp, gX_cp, gN_cp, rtZ_0, rtZ_1, if_true, reduceIte, and_self, true_and, and_true, k3, k32, p3, W79, v3, ← hh4, L_addn]
    simp (disch := omega) only [↓ob_eq, ob_so, ldI, ldR, ldO, stI, stZ, stR, isO, wrA_n, rdA_n, wrA_l, rdA_l, gK_sI, gR_sI, gX_sI, gN_sI, gK_cp, gR_cp, gX_cp, gN_cp, rtZ_0, rtZ_1, if_true, reduceIte, and_self, true_and, and_true, k4, k42, p4, a7, v4, mo_ls, jm, ← hh5, L_addn]
    simp only [↓ob_eq, ob_so, ldI, ldR, isO, reduceIte, if_true, k5, p5, v5, x6]
    simp (disch := omega) only [↓ob_eq, ob_so, ldI, ldR, ldO, stI, stZ, stR, isO, wrA_n, rdA_n, wrA_l, rdA_l, gK_sI, gR_sI, gX_sI, gN_sI, gK_cp, gR_cp, gX_cp, gN_cp, rtZ_0, rtZ_1, if_true, reduceIte, and_self, true_and, and_true, k6, k62, p6, a19, ← hh7, L_addn]
    simp (disch := omega) only [↓ob_eq, ob_so, ldI, ldR, ldO, stI, stZ, stR, isO, wrA_n, rdA_n, wrA_l, rdA_l, gK_sI, gR_sI, gX_sI, gN_sI, gK_cp, gR_cp, gX_cp, gN_cp, rtZ_0, rtZ_1, if_true, reduceIte, and_self, true_and, and_true, k7, k72, p7, a73, v7, mo_ls, ← hh8, L_addn]
    by_cases q : chg h b g t o th ≤ g (7 + t)
    · simp (disch := omega) only [↓ob_eq, ob_so, ldI, ldR, ldO, stI, stZ, stR, isO, wrA_n, rdA_n, wrA_l, rdA_l, gK_sI, gR_sI, gX_sI, gN_sI, gK_cp, gR_cp, gX_cp, gN_cp, rtZ_0, rtZ_1, if_true, reduceIte, and_self, true_and, and_true, k8, k82, p8, a55, a43, a31, q, L_addn]
    · simp (disch := omega) only [↓ob_eq, ob_so, ldI, ldR, ldO, stI, stZ, stR, isO, wrA_n, rdA_n, wrA_l, rdA_l, gK_sI, gR_sI, gX_sI, gN_sI, gK_cp, gR_cp, gX_cp, gN_cp, rtZ_0, rtZ_1, if_true, reduceIte, and_self, true_and, and_true, k8, k82, p8, a55, q, L_addn, if_false]
  rw [pre]
  cases hb2 : bnd h b g t o th
  · have q : chg h b g t o th ≤ g (7 + t) := by
      unfold bnd at hb2
      simpa using hb2
    rw [if_pos q]
    obtain ⟨h9, hh9⟩ : ∃ h9, h9 = sI (sI (sI h8 (b + 132) (55 + t) 0) (b + 132) (43 + t) 1) (b + 132) (31 + t) 0 := ⟨_, rfl⟩
    have t9 : Sn [(132, 0, 79)] b h8 h9 := by rw [hh9]; exact ((pt h8 _ _ a55).put 132 _ _ (inL_in (lo := 0) (hi := 79) (by decide) (by omega) a43)).put 132 _ _ (inL_in (lo := 0) (hi := 79) (by decide) (by omega) a31)
    have d9 : Sn DYN b h h9 := d8.tr (t9.up (by decide))
    have rw9 : Rw h9 b (wd6 h b g t o th) := by
      have : Rw h9 b (upr (upr (upr (upr (upr (wd3 h b g t o th) (19 + t) 0) (73 + o) (jmin 9 (g (73 + o) + 1))) (55 + t) 0) (43 + t) 1) (31 + t) 0) := by rw [hh9]; exact (rw8.put.put).put
      have e : wd6 h b g t o th = upr (upr (upr (upr (upr (wd3 h b g t o th) (19 + t) 0) (73 + o) (jmin 9 (g (73 + o) + 1))) (55 + t) 0) (43 + t) 1) (31 + t) 0 := by
        unfold wd6 wd4
        rw [hb2, if_neg (by decide)]
        rw [upr_c (k := 31 + t) (l := 19 + t) (by omega), upr_c (k := 43 + t) (l := 19 + t) (by omega), upr_c (k := 55 + t) (l := 19 + t) (by omega), upr_c (k := 31 + t) (l := 73 + o) (by omega), upr_c (k := 43 + t) (l := 73 + o) (by omega), upr_c (k := 55 + t) (l := 73 + o) (by omega)]
      rw [e]; exact this
    have bk9 : Bk h9 (b + 139) B := bk8.sn t9 (by decide)
    have fl9 : gI h9 (b + 131) 5 = if th then 1 else 0 := by rw [t9.I (by decide)]; exact fl8
    obtain ⟨h', t', rwf, bkf, e'⟩ := mo_notes (what := if unc h b g t o th then 2 else 0) (who := nI t) (much := if unc h b g t o th then g (19 + t) else pay h b g t o th) (th := th) I0 d9 rw9 rb6 bk9 fl9
    refine ⟨h', tw3.tr ((t8.up (by decide)).tr ((t9.up (by decide)).tr (t'.up (by decide)))), ?_, ?_, ?_⟩
    · unfold wgR; exact rwf
    · unfold wgB; rw [hb2]; exact bkf
    · rw [← hh9]
      have k9 : gK h9 (b + 131) = (0, 9) := (kx h9 d9).1
      by_cases qC : chg h b g t o th = 0
      · by_cases qW : g (19 + t) ≤ 0
        · have hu : unc h b g t o th = false := by unfold unc; simp [qW]
          rw [hu] at e'
          rw [if_neg (by decide), if_neg (by decide)] at e'
          rw [if_pos qC, if_pos qW]
          simp only [f_Mo_weighs_270, f_Mo_weighs_271, f_Mo_weighs_284, f_Mo_weighs_296, ↓ob_eq, ob_so, ldI, ldR, ldO, stI, stZ, stR, isO, wrA_n, rdA_n, wrA_l, rdA_l, gK_sI, gR_sI, gX_sI, gN_sI, gK_cp, gR_cp, gX_cp, gN_cp, rtZ_0, rtZ_1, if_true, reduceIte, and_self, true_and, and_true, k9, e']
        · have hu : unc h b g t o th = true := by unfold unc; rw [hb2]; simp [qW, qC]
          rw [hu] at e'
          rw [if_pos rfl, if_pos rfl] at e'
          rw [if_pos qC, if_neg qW]
          simp only [f_Mo_weighs_271, f_Mo_weighs_284, f_Mo_weighs_296, ↓ob_eq, ob_so, ldI, ldR, ldO, stI, stZ, stR, isO, wrA_n, rdA_n, wrA_l, rdA_l, gK_sI, gR_sI, gX_sI, gN_sI, gK_cp, gR_cp, gX_cp, gN_cp, rtZ_0, rtZ_1, if_true, reduceIte, and_self, true_and, and_true, k9, e', e10, if_false]
      · have hu : unc h b g t o th = false := by unfold unc; simp [qC]
        rw [hu] at e'
        rw [if_neg (by decide), if_neg (by decide)] at e'
        rw [if_neg qC]
        simp only [f_Mo_weighs_270, f_Mo_weighs_271, f_Mo_weighs_284, f_Mo_weighs_296, ↓ob_eq, ob_so, ldI, ldR, ldO, stI, stZ, stR, isO, wrA_n, rdA_n, wrA_l, rdA_l, gK_sI, gR_sI, gX_sI, gN_sI, gK_cp, gR_cp, gX_cp, gN_cp, rtZ_0, rtZ_1, if_true, reduceIte, and_self, true_and, and_true, k9, e']
  · have q : ¬ chg h b g t o th ≤ g (7 + t) := by
      unfold bnd at hb2
      simpa using hb2
    rw [if_neg q]
    obtain ⟨h9, hh9⟩ : ∃ h9, h9 = sI h8 (b + 132) (55 + t) 1 := ⟨_, rfl⟩
    have t9 : Sn [(132, 0, 79)] b h8 h9 := by rw [hh9]; exact pt h8 _ _ a55
    have d9 : Sn DYN b h h9 := d8.tr (t9.up (by decide))
    have rw9 : Rw h9 b (wd6 h b g t o th) := by
      have : Rw h9 b (upr (upr (upr (wd3 h b g t o th) (19 + t) 0) (73 + o) (jmin 9 (g (73 + o) + 1))) (55 + t) 1) := by rw [hh9]; exact rw8.put
      have e : wd6 h b g t o th = upr (upr (upr (wd3 h b g t o th) (19 + t) 0) (73 + o) (jmin 9 (g (73 + o) + 1))) (55 + t) 1 := by
        unfold wd6 wd4
        rw [hb2, if_pos rfl]
        rw [upr_c (k := 55 + t) (l := 19 + t) (by omega), upr_c (k := 55 + t) (l := 73 + o) (by omega)]
      rw [e]; exact this
    have bk9 : Bk h9 (b + 139) B := bk8.sn t9 (by decide)
    have fl9 : gI h9 (b + 131) 5 = if th then 1 else 0 := by rw [t9.I (by decide)]; exact fl8
    obtain ⟨h', t', rwf, bkf, e'⟩ := mo_notes (what := 1) (who := nI t) (much := pay h b g t o th) (th := th) I0 d9 rw9 rb6 bk9 fl9
    have hu : unc h b g t o th = false := by unfold unc; rw [hb2]; rfl
    refine ⟨h', tw3.tr ((t8.up (by decide)).tr ((t9.up (by decide)).tr (t'.up (by decide)))), ?_, ?_, ?_⟩
    · unfold wgR; exact rwf
    · unfold wgB; rw [hb2, hu]; exact bkf
    · rw [← hh9, e', ob_so]
