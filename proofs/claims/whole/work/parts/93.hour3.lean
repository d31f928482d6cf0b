/-! an hour goes by, in the reference -/
def oS (h : PH) (b : Nat) (g : Nat → Int32) : Nat := bs (ntOf h b) (fun t => g (43 + t) == 1)
def MW : SL := [(132, 0, 79), (139, 0, 600), (153, 0, 10), (154, 0, 420)]
theorem mo_act_of (a : Nat) (hh : PH) : ∀ w, w ≤ 5 → f_Mo_actOf a (nI (dcode w)) hh = some (nI w, hh) := by
  intro w hw
  have : w = 0 ∨ w = 1 ∨ w = 2 ∨ w = 3 ∨ w = 4 ∨ w = 5 := by omega
  rcases this with rfl | rfl | rfl | rfl | rfl | rfl <;> rfl
theorem mo_count {h hh : PH} {b : Nat} {g : Nat → Int32} (I : Inv b h) (td : Sn DYN b h hh) (rw' : Rw hh b g) : f_Mo_outSet (b + 131) hh = some (nI (oS h b g), hh) ∧ f_Mo_onesOf (b + 131) (nI (oS h b g)) hh = some (nI (pcd (oS h b g)), hh) := by
  obtain ⟨s, cd, c_stat, c_realm, c_book, c_law, c_kin, c_shi, c_roa, c_ord, c_han, c_wei, c_bag, c_pri, c_cnt, c_led, c_yea, c_log, c_rdr, c_msc, c_img⟩ := I
  have K131 : gK h (b + 131) = (0, 9) := s.K 131 (by decide) rfl
  have K132 : gK h (b + 132) = (1, 79) := s.K 132 (by decide) rfl
  have R131_1 : gR h (b + 131) 1 = some (b + 132) := s.R 131 1 rfl
  obtain ⟨⟨hnt, hno⟩, _⟩ := c_realm
  refine ⟨?_, oned (bs4096 _ hnt) _ _⟩
  rw [mo_outSet (a := b + 131) (c := b + 132) (n := ntOf h b) (by rw [td.1]; exact K131) (by rw [td.2.1]; exact R131_1) (by rw [td.1]; exact K132) (by rw [td.I (by decide)]; exact c_stat.1) hnt]
  unfold oS
  rw [bs_cg (fun k hk => by rw [rw' _ (by omega)])]
theorem mo_h1 {h hh : PH} {b hb : Nat} {g : Nat → Int32} (I : Inv b h) (td : Sn DYN b h hh) (rw' : Rw hh b g) (rb : RowB hb (ntOf h b) (noOf h b) g) : ∃ h', Sn [(132, 0, 79)] b hh h' ∧ Rw h' b (h1R h b g) ∧ RowB hb (ntOf h b) (noOf h b) (h1R h b g) ∧ f_Mo_goesBy (b + 131) hh = f_Mo_goesBy_56 FU (b + 131) 0 0 (nI (pcd (oS h b (h1R h b g)))) 0 h' := by
  have I0 := I
  obtain ⟨s, cd, c_stat, c_realm, c_book, c_law, c_kin, c_shi, c_roa, c_ord, c_han, c_wei, c_bag, c_pri, c_cnt, c_led, c_yea, c_log, c_rdr, c_msc, c_img⟩ := I
  have K131 : gK h (b + 131) = (0, 9) := s.K 131 (by decide) rfl
  have K132 : gK h (b + 132) = (1, 79) := s.K 132 (by decide) rfl
  have K151 : gK h (b + 151) = (1, 128) := s.K 151 (by decide) rfl
  have R131_1 : gR h (b + 131) 1 = some (b + 132) := s.R 131 1 rfl
  have R131_39 : gR h (b + 131) 39 = some (b + 151) := s.R 131 39 rfl
  obtain ⟨n, n16, ⟨W0, N2⟩, MM, LL⟩ := c_shi
  have en : nsO h b = n := by unfold nsO; rw [MM, tn_nI (by omega)]
  have e10 : ¬ (1 : Int32) = 0 := by decide
  obtain ⟨h', ⟨q1, q2, q3⟩, e⟩ := lpe (fun N i hx (_ : Nat → Int32) => f_Mo_goesBy_2 N (b + 131) (nI i) hx) (shS h b) (fun _ g hx => Sn [(132, 0, 79)] b hh hx ∧ Rw hx b g ∧ RowB hb (ntOf h b) (noOf h b) g) (nsO h b) (fun g hx => f_Mo_goesBy_56 FU (b + 131) 0 0 (nI (pcd (oS h b g))) 0 hx)
    (fun N i hx g hi q => by
      obtain ⟨q1, q2, q3⟩ := q
      have dx : Sn DYN b h hx := td.tr (q1.up (by decide))
      obtain ⟨hr', w, who, va, _, s0, s1, s2, ⟨w5, w12, h9⟩, _, _, _, _, m0, m1, m2, m3⟩ := shi_at I0 dx hi
      have kk : gK hx (b + 131) = (0, 9) ∧ gK hx (b + 151) = (1, 128) := ⟨by rw [dx.1]; exact K131, by rw [dx.1]; exact K151⟩
      have k132 : gK hx (b + 132) = (1, 79) := by rw [dx.1]; exact K132
      have rr : gR hx (b + 131) 39 = some (b + 151) ∧ gR hx (b + 131) 1 = some (b + 132) := ⟨by rw [dx.2.1]; exact R131_39, by rw [dx.2.1]; exact R131_1⟩
      have nn : gI hx (b + 131) 38 = nI n := by rw [dx.I (by decide)]; exact MM
      have e2 : ¬ n ≤ i := by omega
      have a0 : 4 * i < 128 := by omega
      have a1 : 4 * i + 1 < 128 := by omega
      have a2 : 4 * i + 2 < 128 := by omega
      have a3 : 4 * i + 3 < 128 := by omega
      have r0 : rdA hx (b + 132) 0 = some (g 0) := rd_at (k := 0) k132 (by decide) (by decide) (q2 0 (by omega))
      by_cases q : nI hr' = g 0
      · have es : shS h b i g = if canA g w who then actR g w who (gI h (b + 22) (4 * i + 3)) else g := by
          unfold shS; rw [s0, s1, s2, tn_nI (by omega), tn_nI (by omega), if_pos q]
        have rbn := shS_RowB I0 hi q3
        have ca := mo_canAct I0 dx q2 q3 va
        have q' : (nI hr' = g 0) = True := eq_true q
        have ao := mo_act_of (b + 131) hx w w5
        rw [f_Mo_goesBy_2]
        cases qc : canA g w who
        · rw [qc] at ca
          have ca : f_Mo_canAct (b + 131) (nI w) (nI who) hx = some (0, hx) := ca
          rw [qc, if_neg (by decide)] at es
          have dd : f_Mo_does (b + 131) (nI (4 * i)) hx = some hx := by
            simp (disch := omega) only [f_Mo_does, ↓ob_eq, ob_so, ldI, ldR, ldO, stI, stZ, stR, isO, wrA_n, rdA_n, wrA_l, rdA_l, gK_sI, gR_sI, gX_sI, gN_sI, gK_cp, gR_cp, gX_cp, gN_cp, rtZ_0, rtZ_1, if_true, reduceIte, and_self, true_and, and_true, kk, rr, a1, a2, m1, m2, ao, ca, nI_addL]
          rw [es]
          refine ⟨hx, ⟨q1, q2, q3⟩, ?_⟩
          simp (disch := omega) only [r0, ↓ob_eq, ob_so, ldI, ldR, isO, rdA_n, reduceIte, if_true, and_self, true_and, kk, rr, nn, e2, a0, m0, q', dd, L_muln, nI_le', nI_addL, if_false]
        · rw [qc] at ca
          have ca : f_Mo_canAct (b + 131) (nI w) (nI who) hx = some (1, hx) := ca
          rw [qc, if_pos rfl] at es
          have va2 : VA (ntOf h b) (noOf h b) w who (gI hx (b + 151) (4 * i + 3)) := ⟨va.1, va.2.1, va.2.2.1, va.2.2.2.1, fun z => by rw [m3 z]; exact va.2.2.2.2 z⟩
          obtain ⟨hy, ty, rwy, ey⟩ := mo_acts I0 dx q2 q3 va2 qc
          rw [actR_v (v' := gI h (b + 22) (4 * i + 3)) m3, ← es] at rwy
          have dd : f_Mo_does (b + 131) (nI (4 * i)) hx = some hy := by
            simp (disch := omega) only [f_Mo_does, ↓ob_eq, ob_so, ldI, ldR, ldO, stI, stZ, stR, isO, wrA_n, rdA_n, wrA_l, rdA_l, gK_sI, gR_sI, gX_sI, gN_sI, gK_cp, gR_cp, gX_cp, gN_cp, rtZ_0, rtZ_1, if_true, reduceIte, and_self, true_and, and_true, kk, rr, a1, a2, a3, m1, m2, ao, ca, ey, e10, nI_addL, if_false]
          refine ⟨hy, ⟨q1.tr ty, rwy, rbn⟩, ?_⟩
          simp (disch := omega) only [r0, ↓ob_eq, ob_so, ldI, ldR, isO, rdA_n, reduceIte, if_true, and_self, true_and, kk, rr, nn, e2, a0, m0, q', dd, L_muln, nI_le', nI_addL, if_false]
      · have es : shS h b i g = g := by unfold shS; rw [s0, if_neg q]
        rw [es]
        refine ⟨hx, ⟨q1, q2, q3⟩, ?_⟩
        rw [f_Mo_goesBy_2]
        simp (disch := omega) only [r0, ↓ob_eq, ob_so, ldI, ldR, isO, rdA_n, reduceIte, if_true, and_self, true_and, kk, rr, nn, e2, a0, m0, q, L_muln, nI_le', nI_addL, if_false])
    (fun N hx g q => by
      obtain ⟨q1, q2, q3⟩ := q
      have dx : Sn DYN b h hx := td.tr (q1.up (by decide))
      have kk : gK hx (b + 131) = (0, 9) := by rw [dx.1]; exact K131
      have nn : gI hx (b + 131) 38 = nI n := by rw [dx.I (by decide)]; exact MM
      obtain ⟨c1, c2⟩ := mo_count I0 dx q2
      rw [en, f_Mo_goesBy_2]
      simp (disch := omega) only [↓ob_eq, ob_so, ldI, ldR, ldO, stI, stZ, stR, isO, wrA_n, rdA_n, wrA_l, rdA_l, gK_sI, gR_sI, gX_sI, gN_sI, gK_cp, gR_cp, gX_cp, gN_cp, rtZ_0, rtZ_1, if_true, reduceIte, and_self, true_and, and_true, kk, nn, c1, c2, nI_le', Nat.le_refl])
    (nsO h b) 0 hh g FU (by omega) ⟨Sn.rf, rw', rb⟩ (by rw [FU_eq]; omega)
  refine ⟨h', q1, q2, q3, ?_⟩
  rw [nI_0] at e
  exact e
theorem mo_h2 {h hh : PH} {b hb : Nat} {g B : Nat → Int32} {th : Bool} {x3 : Int32} (I : Inv b h) (td : Sn DYN b h hh) (rw' : Rw hh b g) (rb : RowB hb (ntOf h b) (noOf h b) g) (bk : Bk hh (b + 139) B) (fl : gI hh (b + 131) 5 = if th then 1 else 0) : ∃ h', (Sn MW b hh h' ∧ Rw h' b (fo (ofS h b th) 0 (noOf h b) (g, B, 0, 0)).1 ∧ RowB hb (ntOf h b) (noOf h b) (fo (ofS h b th) 0 (noOf h b) (g, B, 0, 0)).1 ∧ Bk h' (b + 139) (fo (ofS h b th) 0 (noOf h b) (g, B, 0, 0)).2.1 ∧ (fo (ofS h b th) 0 (noOf h b) (g, B, 0, 0)).2.2.1 < 4096 ∧ (fo (ofS h b th) 0 (noOf h b) (g, B, 0, 0)).2.2.2 < 64) ∧ f_Mo_goesBy_56 FU (b + 131) 0 0 x3 0 hh = f_Mo_goesBy_171 FU (b + 131) (nI (fo (ofS h b th) 0 (noOf h b) (g, B, 0, 0)).2.2.2) (nI (pcd (oS h b (fo (ofS h b th) 0 (noOf h b) (g, B, 0, 0)).1)) - x3) 0 h' := by
  have I0 := I
  obtain ⟨s, cd, c_stat, c_realm, c_book, c_law, c_kin, c_shi, c_roa, c_ord, c_han, c_wei, c_bag, c_pri, c_cnt, c_led, c_yea, c_log, c_rdr, c_msc, c_img⟩ := I
  have K131 : gK h (b + 131) = (0, 9) := s.K 131 (by decide) rfl
  have K132 : gK h (b + 132) = (1, 79) := s.K 132 (by decide) rfl
  have R131_1 : gR h (b + 131) 1 = some (b + 132) := s.R 131 1 rfl
  obtain ⟨⟨hnt, hno⟩, _⟩ := c_realm
  have e10 : ¬ (1 : Int32) = 0 := by decide
  obtain ⟨h', q', e⟩ := lpe (fun N o hx (s : (Nat → Int32) × (Nat → Int32) × Nat × Nat) => f_Mo_goesBy_56 N (b + 131) (nI s.2.2.1) (nI s.2.2.2) x3 (nI o) hx) (ofS h b th) (fun _ s hx => Sn MW b hh hx ∧ Rw hx b s.1 ∧ RowB hb (ntOf h b) (noOf h b) s.1 ∧ Bk hx (b + 139) s.2.1 ∧ s.2.2.1 < 4096 ∧ s.2.2.2 < 64) (noOf h b) (fun s hx => f_Mo_goesBy_171 FU (b + 131) (nI s.2.2.2) (nI (pcd (oS h b s.1)) - x3) 0 hx)
    (fun N o hx st ho q => by
      obtain ⟨q1, q2, q3, q4, q5, q6⟩ := q
      obtain ⟨G, Bx, wd, bs'⟩ := st
      dsimp only at q2 q3 q4 q5 q6 ⊢
      have dx : Sn DYN b h hx := td.tr (q1.up (by decide))
      have kk : gK hx (b + 131) = (0, 9) ∧ gK hx (b + 132) = (1, 79) := ⟨by rw [dx.1]; exact K131, by rw [dx.1]; exact K132⟩
      have p1 : gR hx (b + 131) 1 = some (b + 132) := by rw [dx.2.1]; exact R131_1
      have nn : gI hx (b + 131) 7 = nI (noOf h b) := by rw [dx.I (by decide)]; exact c_stat.2.1
      have flx : gI hx (b + 131) 5 = if th then 1 else 0 := by rw [q1.I (by decide)]; exact fl
      obtain ⟨⟨y, y1, y2⟩, z, z1, z2⟩ := q3.2.2.2.2 o ho
      have e2 : ¬ noOf h b ≤ o := by omega
      have o6 : o < 6 := by omega
      have a73 : 73 + o < 79 := by omega
      have a67 : 67 + o < 79 := by omega
      have g73 : gI hx (b + 132) (73 + o) = G (73 + o) := q2 _ a73
      have g67' : gI hx (b + 132) (67 + o) = G (67 + o) := q2 _ a67
      have g67 : (G (67 + o)).toNatClampNeg = y := by rw [y2, tn_nI (by omega)]
      have io := mo_isOpen I0 dx q2 q3 y1
      rw [← y2] at io
      have ff := mo_next I0 dx q2 q3 q5 y1
      rw [← y2] at ff
      have pre : f_Mo_goesBy_56 (N + 1) (b + 131) (nI wd) (nI bs') x3 (nI o) hx = f_Mo_goesBy_116 (fun a0 x1 x2 x3 x4 h => f_Mo_goesBy_56 N a0 x1 x2 x3 x4 h) (b + 131) (nI wd) (nI bs') x3 (nI o) (whoS (ntOf h b) G wd o) hx := by
        rw [f_Mo_goesBy_56]
        unfold whoS wrk
        rw [g67]
        by_cases q9 : 9 ≤ G (73 + o)
        · rw [decide_eq_true q9]
          simp (disch := omega) only [f_Mo_goesBy_115, ↓ob_eq, ob_so, ldI, ldR, ldO, stI, stZ, stR, isO, wrA_n, rdA_n, wrA_l, rdA_l, gK_sI, gR_sI, gX_sI, gN_sI, gK_cp, gR_cp, gX_cp, gN_cp, rtZ_0, rtZ_1, if_true, reduceIte, and_self, true_and, and_true, kk, p1, nn, e2, a73, g73, q9, L_addn, nI_le', if_false, Bool.not_true, Bool.false_and, Bool.false_eq_true]
        · rw [decide_eq_false q9]
          cases qo : (clo G).testBit y
          · rw [qo] at io
            have io : f_Mo_isOpen (b + 131) (G (67 + o)) hx = some (1, hx) := io
            simp (disch := omega) only [f_Mo_goesBy_115, ↓ob_eq, ob_so, ldI, ldR, ldO, stI, stZ, stR, isO, wrA_n, rdA_n, wrA_l, rdA_l, gK_sI, gR_sI, gX_sI, gN_sI, gK_cp, gR_cp, gX_cp, gN_cp, rtZ_0, rtZ_1, if_true, reduceIte, and_self, true_and, and_true, kk, p1, nn, e2, a73, a67, g73, g67', q9, io, ff, e10, L_addn, nI_le', if_false, Bool.not_false, Bool.and_self]
          · rw [qo] at io
            have io : f_Mo_isOpen (b + 131) (G (67 + o)) hx = some (0, hx) := io
            simp (disch := omega) only [f_Mo_goesBy_115, ↓ob_eq, ob_so, ldI, ldR, ldO, stI, stZ, stR, isO, wrA_n, rdA_n, wrA_l, rdA_l, gK_sI, gR_sI, gX_sI, gN_sI, gK_cp, gR_cp, gX_cp, gN_cp, rtZ_0, rtZ_1, if_true, reduceIte, and_self, true_and, and_true, kk, p1, nn, e2, a73, a67, g73, g67', q9, io, L_addn, nI_le', if_false, Bool.not_false, Bool.not_true, Bool.and_false, Bool.false_eq_true]
      rw [pre]
      rcases who_ok (nt := ntOf h b) (g := G) (wd := wd) (o := o) with w | ⟨t, ht, w, hin⟩
      · rw [ofS_no (s := (G, Bx, wd, bs')) w, w]
        refine ⟨hx, ⟨q1, q2, q3, q4, q5, q6⟩, ?_⟩
        simp only [f_Mo_goesBy_116, nI_addL, if_true]
      · have em : ¬ nI t = -1 := nI_m1 (by omega)
        obtain ⟨hy, ty, rwy, bky, ey⟩ := mo_weighs (th := th) I0 dx q2 q3 ht ho q4 flx
        rw [ofS_yes (s := (G, Bx, wd, bs')) (by omega) w, w]
        have s1 : jshl 1 (nI t) = nI (2 ^ t) := jshl1 t (by omega)
        have s2 : jshl 1 (nI o) = nI (2 ^ o) := jshl1 o (by omega)
        refine ⟨hy, ⟨q1.tr (ty.up (by decide)), rwy, wgR_RowB I0 ht ho q3, bky, Nat.or_lt_two_pow (n := 12) q5 (Nat.pow_lt_pow_right (by decide) (by omega)), Nat.or_lt_two_pow (n := 6) q6 (Nat.pow_lt_pow_right (by decide) o6)⟩, ?_⟩
        simp only [f_Mo_goesBy_116, ↓ob_eq, ob_so, ldI, ldR, ldO, stI, stZ, stR, isO, wrA_n, rdA_n, wrA_l, rdA_l, gK_sI, gR_sI, gX_sI, gN_sI, gK_cp, gR_cp, gX_cp, gN_cp, rtZ_0, rtZ_1, if_true, reduceIte, and_self, true_and, and_true, kk, em, ey, s1, s2, fa_or, nI_addL, if_false])
    (fun N hx st q => by
      obtain ⟨q1, q2, q3, q4, q5, q6⟩ := q
      have dx : Sn DYN b h hx := td.tr (q1.up (by decide))
      have kk : gK hx (b + 131) = (0, 9) := by rw [dx.1]; exact K131
      have nn : gI hx (b + 131) 7 = nI (noOf h b) := by rw [dx.I (by decide)]; exact c_stat.2.1
      obtain ⟨c1, c2⟩ := mo_count I0 dx q2
      rw [f_Mo_goesBy_56]
      simp (disch := omega) only [↓ob_eq, ob_so, ldI, ldR, ldO, stI, stZ, stR, isO, wrA_n, rdA_n, wrA_l, rdA_l, gK_sI, gR_sI, gX_sI, gN_sI, gK_cp, gR_cp, gX_cp, gN_cp, rtZ_0, rtZ_1, if_true, reduceIte, and_self, true_and, and_true, kk, nn, c1, c2, nI_le', Nat.le_refl])
    (noOf h b) 0 hh (g, B, 0, 0) FU (by omega) ⟨Sn.rf, rw', rb, bk, show (0 : Nat) < 4096 by decide, show (0 : Nat) < 64 by decide⟩ (by rw [FU_eq]; omega)
  refine ⟨h', q', ?_⟩
  rw [nI_0] at e
  exact e
theorem mo_h3 {h hh : PH} {b hb busy : Nat} {g B : Nat → Int32} {x4 : Int32} (I : Inv b h) (td : Sn DYN b h hh) (rw' : Rw hh b g) (rb : RowB hb (ntOf h b) (noOf h b) g) (bk : Bk hh (b + 139) B) (hbz : busy < 64) : ∃ h', Sn MW b hh h' ∧ Rw h' b (upr (fo (rsS busy) 0 (noOf h b) (fo (wpS h b) 0 (ntOf h b) g)) 0 (fo (rsS busy) 0 (noOf h b) (fo (wpS h b) 0 (ntOf h b) g) 0 + 1)) ∧ Bk h' (b + 139) B ∧ f_Mo_goesBy_171 FU (b + 131) (nI busy) x4 0 hh = some (x4, h') := by
  have I0 := I
  obtain ⟨s, cd, c_stat, c_realm, c_book, c_law, c_kin, c_shi, c_roa, c_ord, c_han, c_wei, c_bag, c_pri, c_cnt, c_led, c_yea, c_log, c_rdr, c_msc, c_img⟩ := I
  have K131 : gK h (b + 131) = (0, 9) := s.K 131 (by decide) rfl
  have K132 : gK h (b + 132) = (1, 79) := s.K 132 (by decide) rfl
  have R131_1 : gR h (b + 131) 1 = some (b + 132) := s.R 131 1 rfl
  obtain ⟨⟨hnt, hno⟩, _⟩ := c_realm
  have e10 : ¬ (1 : Int32) = 0 := by decide
  have kx : ∀ H, Sn DYN b h H → (gK H (b + 131) = (0, 9) ∧ gK H (b + 132) = (1, 79)) ∧ gR H (b + 131) 1 = some (b + 132) ∧ gI H (b + 131) 6 = nI (ntOf h b) ∧ gI H (b + 131) 7 = nI (noOf h b) := fun H tH => ⟨⟨by rw [tH.1]; exact K131, by rw [tH.1]; exact K132⟩, by rw [tH.2.1]; exact R131_1, by rw [tH.I (by decide)]; exact c_stat.1, by rw [tH.I (by decide)]; exact c_stat.2.1⟩
  obtain ⟨h1, ⟨w1, w2, w3⟩, e⟩ := lpe (fun N t hx (_ : Nat → Int32) => f_Mo_goesBy_171 N (b + 131) (nI busy) x4 (nI t) hx) (wpS h b) (fun _ g hx => Sn MW b hh hx ∧ Rw hx b g ∧ RowB hb (ntOf h b) (noOf h b) g ∧ Bk hx (b + 139) B) (ntOf h b) (fun _ hx => f_Mo_goesBy_235 FU (b + 131) (nI busy) x4 0 hx)
    (fun N t hx G ht q => by
      obtain ⟨q1, q2, q3, q4⟩ := q
      have dx : Sn DYN b h hx := td.tr (q1.up (by decide))
      obtain ⟨kk, p1, n6, n7⟩ := kx hx dx
      have e2 : ¬ ntOf h b ≤ t := by omega
      have a19 : 19 + t < 79 := by omega
      have a43 : 43 + t < 79 := by omega
      have g43 : gI hx (b + 132) (43 + t) = G (43 + t) := q2 _ a43
      have g19 : gI hx (b + 132) (19 + t) = G (19 + t) := q2 _ a19
      have rbn := wpS_RowB I0 ht q3
      rw [f_Mo_goesBy_171]
      by_cases hin : G (43 + t) = 0
      · have es : wpS h b t G = upr G (19 + t) (jmin 99 (G (19 + t) + tlv h b G 0 t none)) := by unfold wpS; rw [if_pos hin]
        obtain ⟨hy, ty, ey⟩ := (mo_wt I0 dx q2 ht).1
        have dy : Sn DYN b h hy := dx.tr (ty.up (by decide))
        obtain ⟨ky, py, _⟩ := kx hy dy
        have hin' : (G (43 + t) = 0) = True := eq_true hin
        rw [es] at rbn ⊢
        refine ⟨sI hy (b + 132) (19 + t) (jmin 99 (G (19 + t) + tlv h b G 0 t none)), ⟨(q1.tr (ty.up (by decide))).put 132 _ _ (inL_in (lo := 0) (hi := 79) (by decide) (by omega) a19), (q2.sn ty (by decide)).put, rbn, (q4.sn ty (by decide)).n1 (by omega)⟩, ?_⟩
        simp (disch := omega) only [↓ob_eq, ob_so, ldI, ldR, ldO, stI, stZ, stR, isO, wrA_n, rdA_n, wrA_l, rdA_l, gK_sI, gR_sI, gX_sI, gN_sI, gK_cp, gR_cp, gX_cp, gN_cp, rtZ_0, rtZ_1, if_true, reduceIte, and_self, true_and, and_true, kk, ky, p1, n6, e2, a19, a43, g43, g19, hin', ey, mo_ls, L_addn, nI_le', nI_addL, if_false]
      · have es : wpS h b t G = G := by unfold wpS; rw [if_neg hin]
        rw [es]
        refine ⟨hx, ⟨q1, q2, q3, q4⟩, ?_⟩
        simp (disch := omega) only [↓ob_eq, ob_so, ldI, ldR, ldO, stI, stZ, stR, isO, wrA_n, rdA_n, wrA_l, rdA_l, gK_sI, gR_sI, gX_sI, gN_sI, gK_cp, gR_cp, gX_cp, gN_cp, rtZ_0, rtZ_1, if_true, reduceIte, and_self, true_and, and_true, kk, p1, n6, e2, a43, g43, hin, L_addn, nI_le', nI_addL, if_false])
    (fun N hx G q => by
      obtain ⟨q1, q2, q3, q4⟩ := q
      have dx : Sn DYN b h hx := td.tr (q1.up (by decide))
      obtain ⟨kk, p1, n6, n7⟩ := kx hx dx
      rw [f_Mo_goesBy_171]
      simp (disch := omega) only [↓ob_eq, ob_so, ldI, ldR, ldO, stI, stZ, stR, isO, wrA_n, rdA_n, wrA_l, rdA_l, gK_sI, gR_sI, gX_sI, gN_sI, gK_cp, gR_cp, gX_cp, gN_cp, rtZ_0, rtZ_1, if_true, reduceIte, and_self, true_and, and_true, kk, n6, nI_le', Nat.le_refl])
    (ntOf h b) 0 hh g FU (by omega) ⟨Sn.rf, rw', rb, bk⟩ (by rw [FU_eq]; omega)
  have d1 : Sn DYN b h h1 := td.tr (w1.up (by decide))
  obtain ⟨h2, ⟨x1, x2⟩, e2⟩ := lpe (fun N o hx (_ : Nat → Int32) => f_Mo_goesBy_235 N (b + 131) (nI busy) x4 (nI o) hx) (rsS busy) (fun _ g hx => Sn [(132, 0, 79)] b h1 hx ∧ Rw hx b g) (noOf h b) (fun g hx => some (x4, sI hx (b + 132) 0 (g 0 + 1)))
    (fun N o hx G ho q => by
      obtain ⟨q1, q2⟩ := q
      have dx : Sn DYN b h hx := d1.tr (q1.up (by decide))
      obtain ⟨kk, p1, n6, n7⟩ := kx hx dx
      have e2 : ¬ noOf h b ≤ o := by omega
      have a73 : 73 + o < 79 := by omega
      have g73 : gI hx (b + 132) (73 + o) = G (73 + o) := q2 _ a73
      have hh' := mo_has (a := b + 131) (n := busy) (k := o) (h := hx) (by omega) (by omega)
      rw [f_Mo_goesBy_235]
      cases qb : busy.testBit o
      · rw [qb] at hh'
        have hh' : f_Mo_has (b + 131) (nI busy) (nI o) hx = some (0, hx) := hh'
        have es : rsS busy o G = upr G (73 + o) (jmax 0 (G (73 + o) - 1)) := by unfold rsS; rw [qb, if_neg (by decide)]
        rw [es]
        refine ⟨_, ⟨q1.put 132 _ _ (inL_in (lo := 0) (hi := 79) (by decide) (by omega) a73), q2.put⟩, ?_⟩
        simp (disch := omega) only [↓ob_eq, ob_so, ldI, ldR, ldO, stI, stZ, stR, isO, wrA_n, rdA_n, wrA_l, rdA_l, gK_sI, gR_sI, gX_sI, gN_sI, gK_cp, gR_cp, gX_cp, gN_cp, rtZ_0, rtZ_1, if_true, reduceIte, and_self, true_and, and_true, kk, p1, n7, e2, a73, g73, hh', mo_gt, L_addn, nI_le', nI_addL, if_false]
      · rw [qb] at hh'
        have hh' : f_Mo_has (b + 131) (nI busy) (nI o) hx = some (1, hx) := hh'
        have es : rsS busy o G = G := by unfold rsS; rw [qb, if_pos rfl]
        rw [es]
        refine ⟨hx, ⟨q1, q2⟩, ?_⟩
        simp (disch := omega) only [↓ob_eq, ob_so, ldI, ldR, ldO, stI, stZ, stR, isO, wrA_n, rdA_n, wrA_l, rdA_l, gK_sI, gR_sI, gX_sI, gN_sI, gK_cp, gR_cp, gX_cp, gN_cp, rtZ_0, rtZ_1, if_true, reduceIte, and_self, true_and, and_true, kk, p1, n7, e2, hh', e10, L_addn, nI_le', nI_addL, if_false])
    (fun N hx G q => by
      obtain ⟨q1, q2⟩ := q
      have dx : Sn DYN b h hx := d1.tr (q1.up (by decide))
      obtain ⟨kk, p1, n6, n7⟩ := kx hx dx
      have r0 : rdA hx (b + 132) 0 = some (G 0) := rd_at (k := 0) kk.2 (by decide) (by decide) (q2 0 (by omega))
      have w0 : wrA hx (b + 132) 0 (G 0 + 1) = some (sI hx (b + 132) 0 (G 0 + 1)) := wr_at (k := 0) kk.2 (by decide) (by decide)
      rw [f_Mo_goesBy_235]
      simp (disch := omega) only [r0, w0, ↓ob_eq, ob_so, ldI, ldR, isO, reduceIte, if_true, kk, p1, n7, nI_le', Nat.le_refl])
    (noOf h b) 0 h1 (fo (wpS h b) 0 (ntOf h b) g) FU (by omega) ⟨Sn.rf, w2⟩ (by rw [FU_eq]; omega)
  rw [nI_0] at e e2
  refine ⟨_, (w1.tr (x1.up (by decide))).put 132 0 _ (by decide), x2.put, ?_, e.trans e2⟩
  exact (w3.2.sn x1 (by decide)).n1 (by omega)
theorem mo_hour {h hh : PH} {b hb : Nat} {g B : Nat → Int32} {th : Bool} (I : Inv b h) (td : Sn DYN b h hh) (rw' : Rw hh b g) (rb : RowB hb (ntOf h b) (noOf h b) g) (bk : Bk hh (b + 139) B) (fl : gI hh (b + 131) 5 = if th then 1 else 0) : ∃ h', Sn MW b hh h' ∧ Rw h' b (hrR h b th g B) ∧ Bk h' (b + 139) (hrB h b th g B) ∧ f_Mo_goesBy (b + 131) hh = some (nI (pcd (oS h b (h2R h b th g B).1)) - nI (pcd (oS h b (h1R h b g))), h') := by
  obtain ⟨h1, t1, rw1, rb1, e1⟩ := mo_h1 I td rw' rb
  have d1 : Sn DYN b h h1 := td.tr (t1.up (by decide))
  have bk1 : Bk h1 (b + 139) B := bk.sn t1 (by decide)
  have fl1 : gI h1 (b + 131) 5 = if th then 1 else 0 := by rw [t1.I (by decide)]; exact fl
  obtain ⟨h2, ⟨t2, rw2, rb2, bk2, _, q6⟩, e2⟩ := mo_h2 (th := th) (x3 := nI (pcd (oS h b (h1R h b g)))) I d1 rw1 rb1 bk1 fl1
  have d2 : Sn DYN b h h2 := d1.tr (t2.up (by decide))
  obtain ⟨h3, t3, rw3, bk3, e3⟩ := mo_h3 (x4 := nI (pcd (oS h b (h2R h b th g B).1)) - nI (pcd (oS h b (h1R h b g)))) I d2 rw2 rb2 bk2 q6
  exact ⟨h3, (t1.up (by decide)).tr (t2.tr t3), rw3, bk3, e1.trans (e2.trans e3)⟩
/-! who is out changes by weighing alone -/
theorem oS_cg {h : PH} {b : Nat} {g g' : Nat → Int32} (e : ∀ t, t < ntOf h b → g' (43 + t) = g (43 + t)) : oS h b g' = oS h b g := bs_cg (fun k hk => by rw [e k hk])
theorem fo_43 {st : Nat → (Nat → Int32) → (Nat → Int32)} {n : Nat} {g : Nat → Int32} {nt : Nat} (hs : ∀ i g, i < n → ∀ t, t < nt → st i g (43 + t) = g (43 + t)) : ∀ t, t < nt → fo st 0 n g (43 + t) = g (43 + t) :=
  fo_inv (st := st) (fun _ s => ∀ t, t < nt → s (43 + t) = g (43 + t)) n (fun i s hi p t ht => by rw [hs i s hi t ht]; exact p t ht) n 0 g (by omega) (fun _ _ => rfl)
theorem act_43 {g : Nat → Int32} {w who : Nat} {v : Int32} {t : Nat} (hw : who ≤ 12) (ht : t < 12) (h1 : w ≤ 2 → who < 12) (h4 : w = 3 → who < 6) : actR g w who v (43 + t) = g (43 + t) := by
  unfold actR
  by_cases q0 : w = 0
  · have := h1 (by omega); rw [if_pos q0, upr_n (by omega)]
  · rw [if_neg q0]
    by_cases q1 : w = 1
    · have := h1 (by omega); rw [if_pos q1, upr_n (by omega)]
    · rw [if_neg q1]
      by_cases q2 : w = 2
      · have := h1 (by omega); rw [if_pos q2, upr_n (by omega)]
      · rw [if_neg q2]
        by_cases q3 : w = 3
        · rw [if_pos q3, upr_n (by omega)]
        · rw [if_neg q3, upr_n (by omega)]
theorem oS_1 {h : PH} {b : Nat} {g : Nat → Int32} (I : Inv b h) : oS h b (h1R h b g) = oS h b g := by
  have I0 := I
  obtain ⟨s, cd, c_stat, c_realm, c_book, c_law, c_kin, c_shi, c_roa, c_ord, c_han, c_wei, c_bag, c_pri, c_cnt, c_led, c_yea, c_log, c_rdr, c_msc, c_img⟩ := I
  obtain ⟨⟨hnt, hno⟩, _⟩ := c_realm
  refine oS_cg (fo_43 (nt := ntOf h b) (fun i g hi t ht => ?_))
  obtain ⟨hr, w, who, va, _, s0, s1, s2, ⟨w5, w12, h9⟩, _⟩ := shi_at I0 (Sn.rf (L := DYN)) hi
  unfold shS
  rw [s1, s2, tn_nI (by omega), tn_nI (by omega)]
  split
  · split
    · exact act_43 w12 (by omega) (fun q => by have := va.2.1 q; omega) (fun q => by have := va.2.2.1 q; omega)
    · rfl
  · rfl
theorem oS_h {h : PH} {b : Nat} {g B : Nat → Int32} {th : Bool} (I : Inv b h) : oS h b (hrR h b th g B) = oS h b (h2R h b th g B).1 := by
  obtain ⟨s, cd, c_stat, c_realm, c_book, c_law, c_kin, c_shi, c_roa, c_ord, c_han, c_wei, c_bag, c_pri, c_cnt, c_led, c_yea, c_log, c_rdr, c_msc, c_img⟩ := I
  obtain ⟨⟨hnt, hno⟩, _⟩ := c_realm
  refine oS_cg (fun t ht => ?_)
  unfold hrR
  rw [upr_n (by omega)]
  unfold h4R
  rw [fo_43 (nt := ntOf h b) (fun i g hi t ht => by unfold rsS; split; rfl; rw [upr_n (by omega)]) t ht]
  unfold h3R
  exact fo_43 (nt := ntOf h b) (fun i g hi t ht => by unfold wpS; split; rw [upr_n (by omega)]; rfl) t ht
