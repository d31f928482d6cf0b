set_option maxHeartbeats 2000000 in
theorem op_text (b : Nat) : B_text (Inv b) b (b + 131) := by
  intro h I x1
  obtain ⟨s, cd, c_stat, c_realm, c_book, c_law, c_kin, c_shi, c_roa, c_ord, c_han, c_wei, c_bag, c_pri, c_cnt, c_led, c_yea, c_log, c_rdr, c_msc, c_img⟩ := I
  have cr := c_realm
  obtain ⟨⟨hnt, hno⟩, ro, F1, F9, F0, F15, F16, F17, F18, F19, F14, F7, F8, RT, RO⟩ := cr
  have RT : ∀ t, t < ntOf h b → gI h (b + 3) t = gI h (b + 135) t ∧ gI h (b + 4) t = gI h (b + 136) t ∧ gI h (b + 5) t = gI h (b + 132) (7 + t) ∧ gI h (b + 6) t = gI h (b + 132) (19 + t) ∧ gI h (b + 7) t = gI h (b + 132) (31 + t) - 1 := RT
  have RO : ∀ o, o < noOf h b → gI h (b + 8) o = gI h (b + 132) (67 + o) ∧ gI h (b + 9) o = gI h (b + 137) o ∧ gI h (b + 10) o = gI h (b + 138) o ∧ gI h (b + 11) o = gI h (b + 132) (73 + o) := RO
  have hN6 : gI h (b + 131) 6 = nI (ntOf h b) := c_stat.1
  have hN7 : gI h (b + 131) 7 = nI (noOf h b) := c_stat.2.1
  have K131 : gK h (b + 131) = (0, 9) := s.K 131 (by decide) rfl
  obtain ⟨⟨n, hn, m1, m2⟩, q1, q2, q3⟩ := c_rdr
  obtain ⟨B, hB⟩ : ∃ B : Nat → Nat, B = fun j => (gI h (b + 103) j).toNatClampNeg := ⟨_, rfl⟩
  have hBj : ∀ j, j < 400 → B j ≤ 255 ∧ gI h (b + 103) j = nI (B j) ∧ gI h (b + 140) j = nI (B j) := by
    intro j hj
    obtain ⟨x, x1, x2, x3⟩ := q3 j hj
    rw [if_pos hj] at x1
    have e : B j = x := by rw [hB]; show (gI h (b + 103) j).toNatClampNeg = x; rw [x2, tn_nI (by omega)]
    rw [e]
    exact ⟨x1, x2, x3⟩
  have XC : XRC h b n B := ⟨s, hn, m1, fun j hj => ⟨(hBj j hj).1, (hBj j hj).2.1⟩⟩
  by_cases hin : x1 < 0 ∨ ¬ x1 ≤ 3
  · have e0 : f_Reader_readText (b + 102) x1 (nI (ntOf h b)) (nI (noOf h b)) h = some (0, sI (sI h (b + 102) 2 0) (b + 102) 3 (-1)) := by
      have K102 : gK h (b + 102) = (0, 4) := s.K 102 (by decide) rfl
      unfold f_Reader_readText
      rw [stI_y K102, bind_some', stI_y (by rw [gK_sI]; exact K102), bind_some']
      by_cases q : x1 < 0
      · rw [if_pos q, rtZ_0]
      · rw [if_neg q, if_neg (hin.resolve_left q), rtZ_0]
    have t0 : Sn LTX b h (sI (sI h (b + 102) 2 0) (b + 102) 3 (-1)) := (Sn.rf.put 102 2 _ (by decide)).put 102 3 _ (by decide)
    have e1 := text_cl s F1 F9 e0 t0
    rw [if_pos rfl] at e1
    obtain ⟨hA, eA⟩ : ∃ hA, hA = sI (sI (sI h (b + 102) 2 0) (b + 102) 3 (-1)) (b + 102) 1 0 := ⟨_, rfl⟩
    rw [← eA] at e1
    have t1 : Sn LTC b h hA := by rw [eA]; exact ((Sn.rf.put 102 2 _ (by decide)).put 102 3 _ (by decide)).put 102 1 _ (by decide)
    have kA : gK hA (b + 131) = (0, 9) := by rw [t1.1]; exact K131
    have ii : f_Mo_isIn (b + 131) x1 0 3 (hT hA b) = some (0, hT hA b) := by
      unfold f_Mo_isIn
      by_cases q : x1 < 0
      · rw [if_pos q, rtZ_0]
      · rw [if_neg q, if_pos (by
          have := hin.resolve_left q
          rw [← Int32.not_le]; exact this), rtZ_0]
    have e2 : f_Mo_text (b + 131) x1 hA = some (-1, sI (hT hA b) (b + 131) 14 0) := by
      rw [mo_text_pre kA, ii, bind_some']
      dsimp only
      rw [if_pos rfl, text69_bad (by unfold hT; exact kA)]
    have t2 : Sn LTM b hA (sI (hT hA b) (b + 131) 14 0) := hT_sn.put 131 14 _ (by decide)
    have t := t1.app t2
    refine both_mk (r := -1) e1 t1 e2 t2 ?_
    have n_rdr : C_rdr (sI (hT hA b) (b + 131) 14 0) b := by
      refine rdr_new q3 t (by decide) ?_ (by simp (disch := omega) only [gI_q, gI_n1, gI_n2]) ?_ ?_
      · rw [t2.I (by decide), eA]; simp (disch := omega) only [gI_q, gI_n1, gI_n2]
      · rw [t2.I (by decide), eA]; unfold hT; simp (disch := omega) only [gI_q, gI_n1, gI_n2]
      · rw [t2.I (by decide), eA]; unfold hT; simp (disch := omega) only [gI_q, gI_n1, gI_n2]
    exact ⟨s.sn t, cd.cg t, c_stat.cg t (by decide), c_realm.cg t (by decide), c_book.cg t (by decide), c_law.cg t (by decide), c_kin.cg t (by decide), c_shi.cg t (by decide), c_roa.cg t (by decide), c_ord.cg t (by decide), c_han.cg t (by decide), c_wei.cg t (by decide), c_bag.cg t (by decide), c_pri.cg t (by decide), c_cnt.cg t (by decide), c_led.cg t (by decide), c_yea.cg t (by decide), c_log.cg t (by decide), n_rdr, c_msc.cg t (by decide), c_img.cg t (by decide)⟩
  obtain ⟨k, hk, rfl⟩ : ∃ k, k ≤ 3 ∧ x1 = nI k := I_upto (m := 3) (by omega) (fun z => hin (Or.inl z)) (fun z => hin (Or.inr (by
    have z : (3 : Int32) < x1 := z
    rw [Int32.not_le]; exact z)))
  obtain ⟨c, hc, u⟩ := cl_readText (k := k) hk hnt hno XC c_msc.2.1.1 c_msc.2.1.2
  have ref : ∀ (L : SL) (hA : PH), Sn L b h hA → disj L [(131, 6, 8), (131, 14, 15), (140, 0, 400), (141, 0, 144)] = true → _ := fun L hA t hd => text_ref (b := b) (n := n) (c := c) (nt := ntOf h b) (no := noOf h b) (k := k) (B := B) hk hnt hno hc (h := hA) ⟨s.sn t, hn, by rw [t.I (disj_ok hd (inL_in (o := 131) (lo := 14) (hi := 15) (by decide) (by omega) (by omega)))]; exact m2, fun j hj => ⟨(hBj j hj).1, by rw [t.I (disj_ok hd (inL_in (o := 140) (lo := 0) (hi := 400) (by decide) (by omega) hj))]; exact (hBj j hj).2.2⟩, fun j hj => by rw [t.I (disj_ok hd (inL_in (o := 141) (lo := 0) (hi := 144) (by decide) (by omega) hj))]; exact c_msc.2.2 j hj⟩ (by rw [t.I (disj_ok hd (inL_in (o := 131) (lo := 6) (hi := 8) (by decide) (by omega) (by omega)))]; exact hN6) (by rw [t.I (disj_ok hd (inL_in (o := 131) (lo := 6) (hi := 8) (by decide) (by omega) (by omega)))]; exact hN7)
  cases e : tlL (tkA B n) (lnK (tkA B n) (ntOf h b) (noOf h b) k) 17 0 [] [] with
  | error er =>
    rw [e] at u
    obtain ⟨h1, u1, u2, u3, u4⟩ := u
    have e1 := text_cl s F1 F9 u1 u2
    rw [if_pos rfl] at e1
    have t1 : Sn LTC b h (sI h1 (b + 102) 1 0) := (u2.up (M := LTC) (by decide)).put 102 1 _ (by decide)
    have v := ref LTC _ t1 (by decide)
    rw [e] at v
    obtain ⟨hB', v1, t2, v3, v4, v5⟩ := v
    have t := t1.app t2
    refine both_mk (r := -1) e1 t1 v1 t2 ?_
    have n_rdr : C_rdr hB' b := by
      refine rdr_new q3 t (by decide) ?_ v5 ?_ ?_
      · rw [t2.I (by decide)]; simp (disch := omega) only [gI_q, gI_n1, gI_n2]
      · rw [t2.I (by decide), v3]; simp (disch := omega) only [gI_q, gI_n1, gI_n2]; exact u3
      · rw [t2.I (by decide), v4]; simp (disch := omega) only [gI_q, gI_n1, gI_n2]; exact u4
    exact ⟨s.sn t, cd.cg t, c_stat.cg t (by decide), c_realm.cg t (by decide), c_book.cg t (by decide), c_law.cg t (by decide), c_kin.cg t (by decide), c_shi.cg t (by decide), c_roa.cg t (by decide), c_ord.cg t (by decide), c_han.cg t (by decide), c_wei.cg t (by decide), c_bag.cg t (by decide), c_pri.cg t (by decide), c_cnt.cg t (by decide), c_led.cg t (by decide), c_yea.cg t (by decide), c_log.cg t (by decide), n_rdr, c_msc.cg t (by decide), c_img.cg t (by decide)⟩
  | ok p =>
    obtain ⟨cs, ls⟩ := p
    rw [e] at u
    obtain ⟨h1, i1, u1, u2, u3⟩ := u
    have u3 : XCT h1 b n B c (rwK k) i1 cs ls := u3
    have e1 := text_cl s F1 F9 u1 u2
    rw [if_neg n10] at e1
    obtain ⟨h2, eh2⟩ : ∃ h2, h2 = sI h1 (b + 102) 1 0 := ⟨_, rfl⟩
    rw [← eh2] at e1
    have t2 : Sn LTC b h h2 := by rw [eh2]; exact (u2.up (M := LTC) (by decide)).put 102 1 _ (by decide)
    have s2 := s.sn t2
    obtain ⟨XR, RW, hcl⟩ := u3
    have l16 := RW.2.2.1
    have hcn := XR.hn
    have f2 : gI h2 (b + 102) 1 = 0 := by rw [eh2]; simp (disch := omega) only [gI_q, gI_n1, gI_n2]
    have f3 : gI h2 (b + 102) 2 = 0 ∧ gI h2 (b + 102) 3 = -1 := by
      rw [eh2]; simp (disch := omega) only [gI_q, gI_n1, gI_n2]; exact XR.2.2.2.2.2.2.1
    have z0 : nI k = 0 ↔ k = 0 := nI_eqL (n := 0) (by omega) (by decide)
    have z1 : nI k = 1 ↔ k = 1 := nI_eqL (n := 1) (by omega) (by decide)
    have z2 : nI k = 2 ↔ k = 2 := nI_eqL (n := 2) (by omega) (by decide)
    have tail : ∀ (hX : PH), gK hX (b + 131) = (0, 9) → f_Mo_text_69 (b + 131) (nI k) (nI ls.length) hX = if k = 0 then (f_Mo_takesLaw (b + 131) (nI ls.length) (sI hX (b + 131) 14 0)).bind fun h4 => some (nI ls.length, h4) else (f_Mo_takesOther (b + 131) (nI k) (nI ls.length) (sI hX (b + 131) 14 0)).bind fun h4 => some (nI ls.length, h4) := by
      intro hX KX
      unfold f_Mo_text_69
      rw [stI_y KX, bind_some', if_neg (nI_ne_m1 (by omega))]
      by_cases q : k = 0
      · rw [if_pos (z0.mpr q), if_pos q, isO_y (by rw [gK_sI]; exact KX), bind_some']
      · rw [if_neg (fun z => q (z0.mp z)), if_neg q, isO_y (by rw [gK_sI]; exact KX), bind_some']
    by_cases c0 : k = 0
    ·
      rw [if_pos (z0.mpr c0)] at e1
      rw [show rwK k = 105 by unfold rwK; rw [if_pos c0]] at RW
      obtain ⟨h3, a1, a2, a3, a4, a5, a6⟩ := cl_lawcopy s2
      have s3 := s2.sn a2
      rw [a1, bind_some', ldI_y (s3.K 14 (by decide) rfl), bind_some', a3] at e1
      have r2 : gI h2 (b + 105) 2 = nI ls.length := by rw [eh2]; simp (disch := omega) only [gI_q, gI_n1, gI_n2]; exact RW.2.1
      rw [r2] at e1
      have t3 : Sn (LTC ++ [(14, 2, 3), (15, 0, 64), (16, 0, 400), (13, 2, 3)]) b h h3 := t2.app a2
      have v := ref _ h3 t3 (by decide)
      rw [e] at v
      obtain ⟨h4, i4, v1, v2, v3, v4, v5, v6⟩ := v
      unfold PK at v3
      rw [if_pos c0] at v3
      obtain ⟨M4, -, -, -, dl⟩ := v3
      rw [tail h4 M4.K, if_pos c0] at v1
      have s5 : Shp (sI h4 (b + 131) 14 0) b := M4.1.1
      obtain ⟨h5, g1, g2, g3, g4, g5, -⟩ := tk_lines (b := b) (m := ls.length) (u := cs.length) l16 (by omega) ls.length FU (sI h4 (b + 131) 14 0) 0 s5 (by simp (disch := omega) only [gI_q, gI_n1, gI_n2]; exact v4) (by simp (disch := omega) only [gI_q, gI_n1, gI_n2]; exact M4.2.2.2.2.1) (by omega) (by rw [FU_eq]; omega)
      have g1 : f_Mo_takesLaw (b + 131) (nI ls.length) (sI h4 (b + 131) 14 0) = some h5 := g1
      rw [g1, bind_some'] at v1
      have tm : Sn (LTM ++ LTL) b h3 h5 := (v2.put 131 14 _ (by decide)).app g2
      have t := t3.app tm
      refine both_mk (r := nI ls.length) e1 t3 v1 tm ?_
      have n_rdr : C_rdr h5 b := by
        refine rdr_new q3 t (by decide) ?_ ?_ ?_ ?_
        · rw [tm.I (by decide), a2.I (by decide)]; exact f2
        · rw [g2.I (by decide)]; simp (disch := omega) only [gI_q, gI_n1, gI_n2]
        · rw [tm.I (by decide), a2.I (by decide), f3.1, g2.I (by decide)]; simp (disch := omega) only [gI_q, gI_n1, gI_n2]; exact v5.symm
        · rw [tm.I (by decide), a2.I (by decide), f3.2, g2.I (by decide)]; simp (disch := omega) only [gI_q, gI_n1, gI_n2]; exact v6.symm
      have n_law : C_law h5 b := by
        have lv := lw_v (K := 401) XR.cE (p := (cs, ls)) (by
          rw [show lnK (tkA B n) (ntOf h b) (noOf h b) k = lwS (tkA B n) 401 by unfold lnK; rw [if_pos c0]] at e
          exact e)
        have hmo : ∀ j, j < cs.length → gI h5 (b + 147) j = (cs.getD j (0, 0)).1 ∧ gI h5 (b + 148) j = (cs.getD j (0, 0)).2 := by
          intro j hj
          obtain ⟨y1, y2⟩ := g4 j hj
          rw [y1, y2]
          have := M4.2.2.2.2.2 j hj
          constructor
          · simp (disch := omega) only [gI_q, gI_n1, gI_n2]; exact this.1
          · simp (disch := omega) only [gI_q, gI_n1, gI_n2]; exact this.2
        have c13 : gI h5 (b + 13) 2 = nI cs.length := by
          rw [tm.I (by decide), a4, eh2]; simp (disch := omega) only [gI_q, gI_n1, gI_n2]; exact XR.2.2.2.2.2.1
        refine ⟨ls.length, cs.length, l16, by omega, ⟨?_, ?_⟩, c13, g3, fun j hj => ?_, fun l hl => ?_⟩
        · obtain ⟨n', u', y1, y2, y3, -⟩ := c_law
          rw [t.I (by decide)]; exact y3.1
        · rw [tm.I (by decide), a3]; exact r2
        · rw [tm.I (by simp [inL, LTM, LTL]), a6 j (by omega), (hmo j hj).1, (hmo j hj).2, eh2, gI_n1 (by omega)]
          exact XR.2.2.2.2.2.2.2 j hj
        · obtain ⟨y1, y2, y3, y4, y5, y6⟩ := (lv l hl).seg (mo := gI h5 (b + 147)) (ma := gI h5 (b + 148)) hmo
          have y1 : (ls.getD l nL).1 ≤ 2 := y1
          obtain ⟨r1, r2', r3, r4⟩ := RW.2.2.2 l hl
          obtain ⟨w1, w2, w3, w4⟩ := dl l hl
          obtain ⟨p1, p2, p3, p4⟩ := g5 l (by omega) hl
          have cell : ∀ j, j < 64 → gI h5 (b + 15) j = gI h1 (b + 106) j := fun j hj => by
            rw [tm.I (by simp [inL, LTM, LTL]), a5 j hj, eh2, gI_n1 (by omega)]
          refine ⟨(ls.getD l nL).1, (ls.getD l nL).2.1, (ls.getD l nL).2.2.1, (ls.getD l nL).2.2.2, y1, y2, y3, y4, ?_, ?_, ?_, ?_, ?_, ?_, ?_, ?_, y5, y6⟩
          · rw [cell _ (by omega)]; exact r1
          · rw [p1]; simp (disch := omega) only [gI_q, gI_n1, gI_n2]; exact w1
          · rw [cell _ (by omega)]; exact r2'
          · rw [p2]; simp (disch := omega) only [gI_q, gI_n1, gI_n2]; exact w2
          · rw [cell _ (by omega)]; exact r3
          · rw [p3]; simp (disch := omega) only [gI_q, gI_n1, gI_n2]; exact w3
          · rw [cell _ (by omega)]; exact r4
          · rw [p4]; simp (disch := omega) only [gI_q, gI_n1, gI_n2]; exact w4
      exact ⟨s.sn t, cd.cg t, c_stat.cg t (by decide), c_realm.cg t (by decide), c_book.cg t (by decide), n_law, c_kin.cg t (by decide), c_shi.cg t (by decide), c_roa.cg t (by decide), c_ord.cg t (by decide), c_han.cg t (by decide), c_wei.cg t (by decide), c_bag.cg t (by decide), c_pri.cg t (by decide), c_cnt.cg t (by decide), c_led.cg t (by decide), c_yea.cg t (by decide), c_log.cg t (by decide), n_rdr, c_msc.cg t (by decide), c_img.cg t (by decide)⟩
    rw [if_neg (fun z => c0 (z0.mp z))] at e1
    rw [show rwK k = 110 by unfold rwK; rw [if_neg c0]] at RW
    have r2 : gI h2 (b + 110) 2 = nI ls.length := by rw [eh2]; simp (disch := omega) only [gI_q, gI_n1, gI_n2]; exact RW.2.1
    have cl1 : ∀ j, gI h2 (b + 111) j = gI h1 (b + 111) j := fun j => by rw [eh2, gI_n1 (by omega)]
    by_cases c1 : k = 1
    ·
      rw [if_neg (show ¬ nI k = 2 by rw [z2]; omega), text90 s2 (Or.inl ⟨c1, rfl⟩)] at e1
      obtain ⟨h3, a1, a2, a3, a4⟩ := cl_linecopy (d := 19) s2 (Or.inl rfl)
      have s3 := s2.sn a2
      rw [a1, bind_some', ldI_y (s3.K 19 (by decide) rfl), bind_some', a3, r2] at e1
      have t3 : Sn (LTC ++ [(19, 2, 3), (19 + 1, 0, 64)]) b h h3 := t2.app a2
      have v := ref _ h3 t3 (by decide)
      rw [e] at v
      obtain ⟨h4, i4, v1, v2, v3, v4, v5, v6⟩ := v
      unfold PK at v3
      rw [if_neg c0, if_pos c1] at v3
      obtain ⟨M4, -, -, -, dl⟩ := v3
      rw [tail h4 M4.K, if_neg c0] at v1
      unfold f_Mo_takesOther at v1
      rw [if_pos (z1.mpr c1)] at v1
      obtain ⟨h5, g1, g2, g3, g4, -⟩ := tk_kin (b := b) (x2 := nI ls.length) 12 FU (sI h4 (b + 131) 14 0) 0 M4.1.1 rfl (by rw [FU_eq]; omega)
      have g1 : f_Mo_takesOther_7 FU (b + 131) (nI ls.length) 0 (sI h4 (b + 131) 14 0) = some h5 := g1
      rw [g1, bind_some'] at v1
      have tm : Sn (LTM ++ [(150, 0, 12), (131, 36, 37)]) b h3 h5 := (v2.put 131 14 _ (by decide)).app g2
      have t := t3.app tm
      refine both_mk (r := nI ls.length) e1 t3 v1 tm ?_
      have n_rdr : C_rdr h5 b := by
        refine rdr_new q3 t (by decide) ?_ ?_ ?_ ?_
        · rw [tm.I (by decide), a2.I (by decide)]; exact f2
        · rw [g2.I (by decide)]; simp (disch := omega) only [gI_q, gI_n1, gI_n2]
        · rw [tm.I (by decide), a2.I (by decide), f3.1, g2.I (by decide)]; simp (disch := omega) only [gI_q, gI_n1, gI_n2]; exact v5.symm
        · rw [tm.I (by decide), a2.I (by decide), f3.2, g2.I (by decide)]; simp (disch := omega) only [gI_q, gI_n1, gI_n2]; exact v6.symm
      have n_kin : C_kin h5 b := by
        have kv := (kn_v (T := tkA B n) (nt := ntOf h b) (p := (cs, ls)) (by
          rw [show lnK (tkA B n) (ntOf h b) (noOf h b) k = knS (tkA B n) (ntOf h b) by unfold lnK; rw [if_neg c0, if_pos c1]] at e
          exact e)).2
        have e5 : ntOf h5 b = ntOf h b := by unfold ntOf; rw [t.I (by decide)]
        unfold C_kin
        rw [e5]
        have cell : ∀ j, j < 64 → gI h5 (b + 20) j = gI h1 (b + 111) j := fun j hj => by
          rw [tm.I (by simp [inL, LTM]), a4 j hj, cl1]
        have cx : ∀ l, l < ls.length → gI h5 (b + 20) (4 * l) = nI (ls.getD l nL).1 ∧ gI h5 (b + 20) (4 * l + 1) = nI (ls.getD l nL).2.1 := fun l hl => by
          obtain ⟨r1, r2', -, -⟩ := RW.2.2.2 l hl
          exact ⟨by rw [cell _ (by omega)]; exact r1, by rw [cell _ (by omega)]; exact r2'⟩
        refine ⟨ls.length, l16, ⟨?_, ?_⟩, g3, fun l hl => ?_, fun x hx => ?_⟩
        · obtain ⟨n', y1, y2, -⟩ := c_kin
          rw [t.I (by decide)]; exact y2.1
        · rw [tm.I (by decide), a3]; exact r2
        · obtain ⟨k1, k2, k3⟩ := kv l hl
          exact ⟨_, _, k1, k2, k3, (cx l hl).1, (cx l hl).2⟩
        · rw [g4 x (by omega) hx, gI_n1 (by omega), dl x hx]
          exact (kset_cg2 (fun l hl => by rw [lsC_0, lsC_1]; exact cx l hl)).symm
      exact ⟨s.sn t, cd.cg t, c_stat.cg t (by decide), c_realm.cg t (by decide), c_book.cg t (by decide), c_law.cg t (by decide), n_kin, c_shi.cg t (by decide), c_roa.cg t (by decide), c_ord.cg t (by decide), c_han.cg t (by decide), c_wei.cg t (by decide), c_bag.cg t (by decide), c_pri.cg t (by decide), c_cnt.cg t (by decide), c_led.cg t (by decide), c_yea.cg t (by decide), c_log.cg t (by decide), n_rdr, c_msc.cg t (by decide), c_img.cg t (by decide)⟩
    by_cases c2 : k = 2
    ·
      rw [if_pos (z2.mpr c2)] at e1
      have s2' : Shp (sI h2 (b + 40) 2 0) b := s2
      rw [text90 s2' (Or.inr (Or.inl ⟨c2, rfl⟩))] at e1
      obtain ⟨h3, a1, a2, a3, a4⟩ := cl_linecopy (d := 21) s2' (Or.inr (Or.inl rfl))
      have s3 := s2'.sn a2
      rw [a1, bind_some', ldI_y (s3.K 21 (by decide) rfl), bind_some', a3, gI_n1 (by omega), r2] at e1
      have t2' : Sn (LTC ++ [(40, 2, 3)]) b h (sI h2 (b + 40) 2 0) := t2.app (Sn.rf.put 40 2 _ (by decide))
      have t3 : Sn (LTC ++ [(40, 2, 3)] ++ [(21, 2, 3), (21 + 1, 0, 64)]) b h h3 := t2'.app a2
      have v := ref _ h3 t3 (by decide)
      rw [e] at v
      obtain ⟨h4, i4, v1, v2, v3, v4, v5, v6⟩ := v
      unfold PK at v3
      rw [if_neg c0, if_neg c1, if_pos c2] at v3
      obtain ⟨M4, -, -, -, -, dl⟩ := v3
      rw [tail h4 M4.K, if_neg c0] at v1
      unfold f_Mo_takesOther at v1
      rw [if_neg (fun z => c1 (z1.mp z)), if_pos (z2.mpr c2)] at v1
      obtain ⟨h5, g1, g2, ⟨g3, g3'⟩, g4, -⟩ := tk_deed (b := b) (m := ls.length) l16 (4 * ls.length) FU (sI h4 (b + 131) 14 0) 0 M4.1.1 (by omega) (by rw [FU_eq]; omega)
      have g1 : f_Mo_takesOther_49 FU (b + 131) (nI ls.length) 0 (sI h4 (b + 131) 14 0) = some h5 := g1
      rw [g1, bind_some'] at v1
      have tm : Sn (LTM ++ [(151, 0, 64), (131, 38, 39), (131, 3, 4)]) b h3 h5 := (v2.put 131 14 _ (by decide)).app g2
      have t := t3.app tm
      refine both_mk (r := nI ls.length) e1 t3 v1 tm ?_
      have n_rdr : C_rdr h5 b := by
        refine rdr_new q3 t (by decide) ?_ ?_ ?_ ?_
        · rw [tm.I (by decide), a2.I (by decide), gI_n1 (by omega)]; exact f2
        · rw [g2.I (by decide)]; simp (disch := omega) only [gI_q, gI_n1, gI_n2]
        · rw [tm.I (by decide), a2.I (by decide), gI_n1 (by omega), f3.1, g2.I (by decide)]; simp (disch := omega) only [gI_q, gI_n1, gI_n2]; exact v5.symm
        · rw [tm.I (by decide), a2.I (by decide), gI_n1 (by omega), f3.2, g2.I (by decide)]; simp (disch := omega) only [gI_q, gI_n1, gI_n2]; exact v6.symm
      have n_log : C_log h5 b := by
        refine C_log_0 ?_ ?_ ?_ ?_ g3'
        · unfold ntOf; rw [t.I (by decide)]; exact hnt
        · unfold noOf; rw [t.I (by decide)]; exact hno
        · rw [t.I (by decide)]; exact c_log.nx
        · rw [tm.I (by decide), a2.I (by decide)]; simp (disch := omega) only [gI_q, gI_n1, gI_n2]
      have n_shi : C_shi h5 b := by
        have kv := (sf_v (T := tkA B n) (nt := ntOf h b) (no := noOf h b) (p := (cs, ls)) (by
          rw [show lnK (tkA B n) (ntOf h b) (noOf h b) k = sfS (tkA B n) (ntOf h b) (noOf h b) by unfold lnK; rw [if_neg c0, if_neg c1, if_pos c2]] at e
          exact e)).2
        have e5 : ntOf h5 b = ntOf h b := by unfold ntOf; rw [t.I (by decide)]
        have e6 : noOf h5 b = noOf h b := by unfold noOf; rw [t.I (by decide)]
        unfold C_shi
        rw [e5, e6]
        have cell : ∀ j, j < 64 → gI h5 (b + 22) j = gI h1 (b + 111) j := fun j hj => by
          rw [tm.I (by simp [inL, LTM]), a4 j hj, gI_n1 (by omega), cl1]
        refine ⟨ls.length, l16, ⟨?_, ?_⟩, g3, fun l hl => ?_⟩
        · obtain ⟨n', y1, y2, -⟩ := c_shi
          rw [t.I (by decide)]; exact y2.1
        · rw [tm.I (by decide), a3, gI_n1 (by omega)]; exact r2
        · obtain ⟨k1, k2, k3, k4⟩ := kv l hl
          obtain ⟨r1, r2', r3, r4⟩ := RW.2.2.2 l hl
          obtain ⟨w1, w2, w3, w4⟩ := dl l hl
          have md : ∀ j, j < 4 * ls.length → gI h5 (b + 151) j = gI h4 (b + 151) (64 + j) := fun j hj => by rw [g4 j (by omega) hj, gI_n1 (by omega)]
          have k3 : (ls.getD l nL).2.2.1 < dbl (ntOf h b) (noOf h b) (ls.getD l nL).2.1 := k3
          have k2 : (ls.getD l nL).2.1 ≤ 5 := k2
          refine ⟨(ls.getD l nL).1, (ls.getD l nL).2.1, (ls.getD l nL).2.2.1, k1, k2, fun z => ?_, fun z => ?_, fun z => ?_, ?_, ?_, ?_, ?_, ?_, ?_, fun z => ⟨(ls.getD l nL).2.2.2, k4 z, ?_, ?_⟩⟩
          · unfold dbl at k3; rw [if_neg (by omega), if_neg (by omega)] at k3; exact k3
          · unfold dbl at k3; rw [if_pos z] at k3; exact k3
          · unfold dbl at k3; rw [if_neg (by omega), if_pos (by omega)] at k3; exact k3
          · rw [cell _ (by omega)]; exact r1
          · rw [md _ (by omega)]; exact w1
          · rw [cell _ (by omega)]; exact r2'
          · rw [md _ (by omega), show 64 + (4 * l + 1) = 64 + 4 * l + 1 by omega]; exact w2
          · rw [cell _ (by omega)]; exact r3
          · rw [md _ (by omega), show 64 + (4 * l + 2) = 64 + 4 * l + 2 by omega]; exact w3
          · rw [cell _ (by omega)]; exact r4
          · rw [md _ (by omega), show 64 + (4 * l + 3) = 64 + 4 * l + 3 by omega]; exact w4 z
      exact ⟨s.sn t, cd.cg t, c_stat.cg t (by decide), c_realm.cg t (by decide), c_book.cg t (by decide), c_law.cg t (by decide), c_kin.cg t (by decide), n_shi, c_roa.cg t (by decide), c_ord.cg t (by decide), c_han.cg t (by decide), c_wei.cg t (by decide), c_bag.cg t (by decide), c_pri.cg t (by decide), c_cnt.cg t (by decide), c_led.cg t (by decide), c_yea.cg t (by decide), n_log, n_rdr, c_msc.cg t (by decide), c_img.cg t (by decide)⟩
    have c3 : k = 3 := by omega
    rw [if_neg (fun z => c2 (z2.mp z)), text90 s2 (Or.inr (Or.inr ⟨c3, rfl⟩))] at e1
    obtain ⟨h3, a1, a2, a3, a4⟩ := cl_linecopy (d := 23) s2 (Or.inr (Or.inr rfl))
    have s3 := s2.sn a2
    rw [a1, bind_some', ldI_y (s3.K 23 (by decide) rfl), bind_some', a3, r2] at e1
    have t3 : Sn (LTC ++ [(23, 2, 3), (23 + 1, 0, 64)]) b h h3 := t2.app a2
    have v := ref _ h3 t3 (by decide)
    rw [e] at v
    obtain ⟨h4, i4, v1, v2, v3, v4, v5, v6⟩ := v
    unfold PK at v3
    rw [if_neg c0, if_neg c1, if_neg c2] at v3
    obtain ⟨M4, -, -, dl⟩ := v3
    rw [tail h4 M4.K, if_neg c0] at v1
    unfold f_Mo_takesOther at v1
    rw [if_neg (fun z => c1 (z1.mp z)), if_neg (fun z => c2 (z2.mp z))] at v1
    obtain ⟨h5, g1, g2, g3, g4, -⟩ := tk_road (b := b) (m := ls.length) l16 (4 * ls.length) FU (sI h4 (b + 131) 14 0) 0 M4.1.1 (by omega) (by rw [FU_eq]; omega)
    have g1 : f_Mo_takesOther_92 FU (b + 131) (nI ls.length) 0 (sI h4 (b + 131) 14 0) = some h5 := g1
    rw [g1, bind_some'] at v1
    have tm : Sn (LTM ++ [(152, 0, 64), (131, 40, 41)]) b h3 h5 := (v2.put 131 14 _ (by decide)).app g2
    have t := t3.app tm
    refine both_mk (r := nI ls.length) e1 t3 v1 tm ?_
    have n_rdr : C_rdr h5 b := by
      refine rdr_new q3 t (by decide) ?_ ?_ ?_ ?_
      · rw [tm.I (by decide), a2.I (by decide)]; exact f2
      · rw [g2.I (by decide)]; simp (disch := omega) only [gI_q, gI_n1, gI_n2]
      · rw [tm.I (by decide), a2.I (by decide), f3.1, g2.I (by decide)]; simp (disch := omega) only [gI_q, gI_n1, gI_n2]; exact v5.symm
      · rw [tm.I (by decide), a2.I (by decide), f3.2, g2.I (by decide)]; simp (disch := omega) only [gI_q, gI_n1, gI_n2]; exact v6.symm
    have n_roa : C_roa h5 b := by
      have kv := (ro_v (T := tkA B n) (p := (cs, ls)) (by
        rw [show lnK (tkA B n) (ntOf h b) (noOf h b) k = roS (tkA B n) by unfold lnK; rw [if_neg c0, if_neg c1, if_neg c2]] at e
        exact e)).2
      have cell : ∀ j, j < 64 → gI h5 (b + 24) j = gI h1 (b + 111) j := fun j hj => by
        rw [tm.I (by simp [inL, LTM]), a4 j hj, cl1]
      refine ⟨ls.length, l16, ⟨?_, ?_⟩, g3, fun l hl => ?_⟩
      · obtain ⟨n', y1, y2, -⟩ := c_roa
        rw [t.I (by decide)]; exact y2.1
      · rw [tm.I (by decide), a3]; exact r2
      · obtain ⟨k1, k2, k3, k4⟩ := kv l hl
        obtain ⟨r1, r2', r3, r4⟩ := RW.2.2.2 l hl
        obtain ⟨w1, w2, w3, w4⟩ := dl l hl
        have md : ∀ j, j < 4 * ls.length → gI h5 (b + 152) j = gI h4 (b + 152) (64 + j) := fun j hj => by rw [g4 j (by omega) hj, gI_n1 (by omega)]
        refine ⟨(ls.getD l nL).1, (ls.getD l nL).2.1, (ls.getD l nL).2.2.1, (ls.getD l nL).2.2.2, k1, k2, k3, k4, ?_, ?_, ?_, ?_, ?_, ?_, ?_, ?_⟩
        · rw [cell _ (by omega)]; exact r1
        · rw [md _ (by omega)]; exact w1
        · rw [cell _ (by omega)]; exact r2'
        · rw [md _ (by omega), show 64 + (4 * l + 1) = 64 + 4 * l + 1 by omega]; exact w2
        · rw [cell _ (by omega)]; exact r3
        · rw [md _ (by omega), show 64 + (4 * l + 2) = 64 + 4 * l + 2 by omega]; exact w3
        · rw [cell _ (by omega)]; exact r4
        · rw [md _ (by omega), show 64 + (4 * l + 3) = 64 + 4 * l + 3 by omega]; exact w4
    exact ⟨s.sn t, cd.cg t, c_stat.cg t (by decide), c_realm.cg t (by decide), c_book.cg t (by decide), c_law.cg t (by decide), c_kin.cg t (by decide), c_shi.cg t (by decide), n_roa, c_ord.cg t (by decide), c_han.cg t (by decide), c_wei.cg t (by decide), c_bag.cg t (by decide), c_pri.cg t (by decide), c_cnt.cg t (by decide), c_led.cg t (by decide), c_yea.cg t (by decide), c_log.cg t (by decide), n_rdr, c_msc.cg t (by decide), c_img.cg t (by decide)⟩
