theorem cl_isOpen {h hh : PH} {b r k hb : Nat} {g : Nat → Int32} (I : Inv b h) (t : Sn DYN b h hh) (hr : r = 2 ∨ r = 114) (rl : Rl h hh b r g) (rb : RowB hb (ntOf h b) (noOf h b) g) (hk : k < 4) : f_Realm_isOpen (b + r) (nI k) hh = some (if (clo g).testBit k then 0 else 1, hh) := by
  obtain ⟨s, cd, c_stat, c_realm, c_book, c_law, c_kin, c_shi, c_roa, c_ord, c_han, c_wei, c_bag, c_pri, c_cnt, c_led, c_yea, c_log, c_rdr, c_msc, c_img⟩ := I
  have k0 := (RS_r s t hr).1.1
  have F14 := rl.2.2.2.2.2.2.2.2.1
  have cl := clo_eq rb
  obtain ⟨o1, o2, _⟩ := b16 _ cl.1 k hk
  have f14 : gI hh (b + r) 14 = nI (15 ^^^ clo g) := by rw [F14, cl.2]; exact op16 _ cl.1
  have jb := jbit1 (n := 15 ^^^ clo g) (k := k) (by omega) (by omega)
  rw [o2] at jb
  cases q : (clo g).testBit k
  · rw [q] at jb
    have jb : jshr (nI (15 ^^^ clo g)) (nI k) &&& 1 = 1 := jb.mpr rfl
    simp [f_Realm_isOpen, ↓ob_eq, ob_so, ldI, ldR, ldO, stI, stZ, stR, isO, wrA_n, rdA_n, wrA_l, rdA_l, gK_sI, gR_sI, gX_sI, gN_sI, gK_cp, gR_cp, gX_cp, gN_cp, rtZ_0, rtZ_1, if_true, reduceIte, and_self, true_and, and_true, k0, f14, jb]
  · rw [q] at jb
    have jb : ¬ jshr (nI (15 ^^^ clo g)) (nI k) &&& 1 = 1 := fun z => by have := jb.mp z; cases this
    simp [f_Realm_isOpen, ↓ob_eq, ob_so, ldI, ldR, ldO, stI, stZ, stR, isO, wrA_n, rdA_n, wrA_l, rdA_l, gK_sI, gR_sI, gX_sI, gN_sI, gK_cp, gR_cp, gX_cp, gN_cp, rtZ_0, rtZ_1, if_true, reduceIte, and_self, true_and, and_true, k0, f14, jb]
/-- whose turn it is: nobody's, or one's who is inside -/
theorem who_ok {nt : Nat} {g : Nat → Int32} {wd o : Nat} : whoS nt g wd o = -1 ∨ ∃ t, t < nt ∧ whoS nt g wd o = nI t ∧ g (43 + t) = 0 := by
  unfold whoS
  cases wrk g o
  · rw [if_neg (by decide)]; exact Or.inl rfl
  · rw [if_pos rfl]; exact ft_ok
theorem ofS_no {h : PH} {b o : Nat} {th : Bool} {s : (Nat → Int32) × (Nat → Int32) × Nat × Nat} (q : whoS (ntOf h b) s.1 s.2.2.1 o = -1) : ofS h b th o s = s := by unfold ofS; rw [if_pos q]
theorem ofS_yes {h : PH} {b o t : Nat} {th : Bool} {s : (Nat → Int32) × (Nat → Int32) × Nat × Nat} (ht : t < 12) (q : whoS (ntOf h b) s.1 s.2.2.1 o = nI t) : ofS h b th o s = (wgR h b s.1 t o th, wgB h b s.1 s.2.1 t o th, s.2.2.1 ||| 2 ^ t, s.2.2.2 ||| 2 ^ o) := by
  have : ¬ nI t = -1 := nI_m1 (by omega)
  unfold ofS
  rw [q, if_neg this, tn_nI (by omega)]
theorem cl_h2 {h hh : PH} {b r hb : Nat} {g B : Nat → Int32} {th : Bool} (I : Inv b h) (td : Sn DYN b h hh) (hr : r = 2 ∨ r = 114) (rl : Rl h hh b r g) (rb : RowB hb (ntOf h b) (noOf h b) g) (bk : Bk hh (b + 12) B) : ∃ h', (Sn (WC r) b hh h' ∧ Rl h h' b r (fo (ofS h b th) 0 (noOf h b) (g, B, 0, 0)).1 ∧ RowB hb (ntOf h b) (noOf h b) (fo (ofS h b th) 0 (noOf h b) (g, B, 0, 0)).1 ∧ Bk h' (b + 12) (fo (ofS h b th) 0 (noOf h b) (g, B, 0, 0)).2.1 ∧ (fo (ofS h b th) 0 (noOf h b) (g, B, 0, 0)).2.2.1 < 4096 ∧ (fo (ofS h b th) 0 (noOf h b) (g, B, 0, 0)).2.2.2 < 64) ∧ f_Land_passHour_74 FU (b + 1) (b + r) (if th then 1 else 0) 0 0 0 hh = f_Land_passHour_181 FU (b + 1) (b + r) (nI (fo (ofS h b th) 0 (noOf h b) (g, B, 0, 0)).2.2.2) 0 h' := by
  have I0 := I
  obtain ⟨s, cd, c_stat, c_realm, c_book, c_law, c_kin, c_shi, c_roa, c_ord, c_han, c_wei, c_bag, c_pri, c_cnt, c_led, c_yea, c_log, c_rdr, c_msc, c_img⟩ := I
  have K1 : gK h (b + 1) = (0, 1) := s.K 1 (by decide) rfl
  obtain ⟨⟨hnt, hno⟩, _⟩ := c_realm
  have e10 : ¬ (1 : Int32) = 0 := by decide
  obtain ⟨h', q', e⟩ := lpe (fun N o hx (s : (Nat → Int32) × (Nat → Int32) × Nat × Nat) => f_Land_passHour_74 N (b + 1) (b + r) (if th then 1 else 0) (nI s.2.2.1) (nI s.2.2.2) (nI o) hx) (ofS h b th) (fun _ s hx => Sn (WC r) b hh hx ∧ Rl h hx b r s.1 ∧ RowB hb (ntOf h b) (noOf h b) s.1 ∧ Bk hx (b + 12) s.2.1 ∧ s.2.2.1 < 4096 ∧ s.2.2.2 < 64) (noOf h b) (fun s hx => f_Land_passHour_181 FU (b + 1) (b + r) (nI s.2.2.2) 0 hx)
    (fun N o hx st ho q => by
      obtain ⟨q1, q2, q3, q4, q5, q6⟩ := q
      obtain ⟨G, Bx, wd, bs'⟩ := st
      dsimp only at q2 q3 q4 q5 q6 ⊢
      have dx : Sn DYN b h hx := td.tr (q1.up (by rcases hr with rfl | rfl <;> decide))
      obtain ⟨⟨k0, k1, k2, k3, k4, k5, k6, k7, k8, k9⟩, m2, m3, m4, m5, m6, m10, m11, m12, m13⟩ := RS_r s dx hr
      have F9 : gI hx (b + r) 9 = nI (noOf h b) := q2.2.1
      obtain ⟨p1, p2, p3, p4⟩ := q2.2.2.2.2.2.2.2.2.2.2.2.2 o ho
      obtain ⟨⟨y, y1, y2⟩, z, z1, z2⟩ := q3.2.2.2.2 o ho
      have e2 : ¬ noOf h b ≤ o := by omega
      have o6 : o < 6 := by omega
      have kL : gK hx (b + 1) = (0, 1) := by rw [dx.1]; exact K1
      have g67 : (G (67 + o)).toNatClampNeg = y := by rw [y2, tn_nI (by omega)]
      have io := cl_isOpen I0 dx hr q2 q3 y1
      rw [← y2] at io
      have ff := cl_first I0 dx hr q2 q3 q5 y1
      rw [← y2] at ff
      -- the step, by whom it is
      have pre : f_Land_passHour_74 (N + 1) (b + 1) (b + r) (if th then 1 else 0) (nI wd) (nI bs') (nI o) hx = f_Land_passHour_137 (fun a0 a1 x2 x3 x4 x5 h => f_Land_passHour_74 N a0 a1 x2 x3 x4 x5 h) (b + 1) (b + r) (if th then 1 else 0) (nI wd) (nI bs') (nI o) (whoS (ntOf h b) G wd o) hx := by
        rw [f_Land_passHour_74]
        unfold whoS wrk
        rw [g67]
        by_cases q9 : 9 ≤ G (73 + o)
        · rw [decide_eq_true q9]
          simp (disch := omega) only [f_Land_passHour_113, f_Land_passHour_114, ↓ob_eq, ob_so, ldI, ldR, ldO, stI, stZ, stR, isO, wrA_n, rdA_n, wrA_l, rdA_l, gK_sI, gR_sI, gX_sI, gN_sI, gK_cp, gR_cp, gX_cp, gN_cp, rtZ_0, rtZ_1, if_true, reduceIte, and_self, true_and, and_true, k0, k9, m13, F9, e2, o6, p4, q9, nI_le', if_false, Bool.not_true, Bool.false_and, Bool.false_eq_true]
        · rw [decide_eq_false q9]
          cases qo : (clo G).testBit y
          · rw [qo] at io
            have io : f_Realm_isOpen (b + r) (G (67 + o)) hx = some (1, hx) := io
            simp (disch := omega) only [f_Land_passHour_113, f_Land_passHour_114, ↓ob_eq, ob_so, ldI, ldR, ldO, stI, stZ, stR, isO, wrA_n, rdA_n, wrA_l, rdA_l, gK_sI, gR_sI, gX_sI, gN_sI, gK_cp, gR_cp, gX_cp, gN_cp, rtZ_0, rtZ_1, if_true, reduceIte, and_self, true_and, and_true, k0, k6, k9, m10, m13, F9, e2, o6, p1, p4, q9, io, ff, e10, nI_le', if_false, Bool.not_false, Bool.and_self]
          · rw [qo] at io
            have io : f_Realm_isOpen (b + r) (G (67 + o)) hx = some (0, hx) := io
            simp (disch := omega) only [f_Land_passHour_113, f_Land_passHour_114, ↓ob_eq, ob_so, ldI, ldR, ldO, stI, stZ, stR, isO, wrA_n, rdA_n, wrA_l, rdA_l, gK_sI, gR_sI, gX_sI, gN_sI, gK_cp, gR_cp, gX_cp, gN_cp, rtZ_0, rtZ_1, if_true, reduceIte, and_self, true_and, and_true, k0, k6, k9, m10, m13, F9, e2, o6, p1, p4, q9, io, nI_le', if_false, Bool.not_false, Bool.not_true, Bool.and_false, Bool.false_eq_true]
      rw [pre]
      rcases who_ok (nt := ntOf h b) (g := G) (wd := wd) (o := o) with w | ⟨t, ht, w, hin⟩
      · rw [ofS_no (s := (G, Bx, wd, bs')) w, w]
        refine ⟨hx, ⟨q1, q2, q3, q4, q5, q6⟩, ?_⟩
        simp only [f_Land_passHour_137, nI_addL, if_true]
      · have em : ¬ nI t = -1 := nI_m1 (by omega)
        obtain ⟨hy, ty, rly, bky, ey⟩ := cl_weigh (th := th) I0 dx hr q2 q3 ht ho hin q4
        rw [ofS_yes (s := (G, Bx, wd, bs')) (by omega) w, w]
        have s1 : jshl 1 (nI t) = nI (2 ^ t) := jshl1 t (by omega)
        have s2 : jshl 1 (nI o) = nI (2 ^ o) := jshl1 o (by omega)
        refine ⟨hy, ⟨q1.tr ty, rly, wgR_RowB I0 ht ho q3, bky, Nat.or_lt_two_pow (n := 12) q5 (Nat.pow_lt_pow_right (by decide) (by omega)), Nat.or_lt_two_pow (n := 6) q6 (Nat.pow_lt_pow_right (by decide) o6)⟩, ?_⟩
        simp only [f_Land_passHour_137, ↓ob_eq, ob_so, ldI, ldR, ldO, stI, stZ, stR, isO, wrA_n, rdA_n, wrA_l, rdA_l, gK_sI, gR_sI, gX_sI, gN_sI, gK_cp, gR_cp, gX_cp, gN_cp, rtZ_0, rtZ_1, if_true, reduceIte, and_self, true_and, and_true, kL, em, ey, s1, s2, fa_or, nI_addL, if_false])
    (fun N hx st q => by
      obtain ⟨q1, q2, q3, q4, q5, q6⟩ := q
      have dx : Sn DYN b h hx := td.tr (q1.up (by rcases hr with rfl | rfl <;> decide))
      have k0 := (RS_r s dx hr).1.1
      have F9 : gI hx (b + r) 9 = nI (noOf h b) := q2.2.1
      rw [f_Land_passHour_74]
      simp (disch := omega) only [↓ob_eq, ob_so, ldI, ldR, ldO, stI, stZ, stR, isO, wrA_n, rdA_n, wrA_l, rdA_l, gK_sI, gR_sI, gX_sI, gN_sI, gK_cp, gR_cp, gX_cp, gN_cp, rtZ_0, rtZ_1, if_true, reduceIte, and_self, true_and, and_true, k0, F9, nI_le', Nat.le_refl])
    (noOf h b) 0 hh (g, B, 0, 0) FU (by omega) ⟨Sn.rf, rl, rb, bk, show (0 : Nat) < 4096 by decide, show (0 : Nat) < 64 by decide⟩ (by rw [FU_eq]; omega)
  refine ⟨h', q', ?_⟩
  rw [nI_0] at e
  exact e
theorem wpS_RowB {h : PH} {b t hb : Nat} {g : Nat → Int32} (I : Inv b h) (ht : t < ntOf h b) (rb : RowB hb (ntOf h b) (noOf h b) g) : RowB hb (ntOf h b) (noOf h b) (wpS h b t g) := by
  obtain ⟨v, v1, v2⟩ := tlv_bd (g := g) (o := none) (w := 0) I ht (fun o' z => by cases z) (by omega)
  have v1 : v ≤ 99 := by simpa using v1
  obtain ⟨s, cd, c_stat, c_realm, c_book, c_law, c_kin, c_shi, c_roa, c_ord, c_han, c_wei, c_bag, c_pri, c_cnt, c_led, c_yea, c_log, c_rdr, c_msc, c_img⟩ := I
  obtain ⟨⟨hnt, hno⟩, _⟩ := c_realm
  obtain ⟨_, ⟨y, y1, y2⟩, _⟩ := rb.2.2.2.1 t ht
  unfold wpS
  split
  · refine rb.wet hnt hno ht ⟨Nat.min 99 (y + v), Nat.min_le_left _ _, ?_⟩
    rw [y2, v2, nI_add]
    exact jminN (a := 99) (by omega) (by omega)
  · exact rb
theorem rsS_RowB {hb nt no o busy : Nat} {g : Nat → Int32} (hnt : nt ≤ 12) (hno : no ≤ 6) (ho : o < no) (rb : RowB hb nt no g) : RowB hb nt no (rsS busy o g) := by
  obtain ⟨_, y, y1, y2⟩ := rb.2.2.2.2 o ho
  unfold rsS
  split
  · exact rb
  · refine rb.tired hnt hno ho ⟨y - 1, by omega, ?_⟩
    have e0 : (0 : Int32) = iI 0 := by decide
    have e1 : (1 : Int32) = iI 1 := by decide
    rw [y2, e1, e0, iI_nat, iI_nat, iI_sub, iI_max (by omega) (by omega) (by omega) (by omega)]
    congr 1
    omega
theorem cl_rest {h hh : PH} {b r hb busy : Nat} {g : Nat → Int32} (I : Inv b h) (td : Sn DYN b h hh) (hr : r = 2 ∨ r = 114) (rl : Rl h hh b r g) (rb : RowB hb (ntOf h b) (noOf h b) g) (hbz : busy < 64) : ∃ h', (Sn (RC r) b hh h' ∧ Rl h h' b r (fo (rsS busy) 0 (noOf h b) g) ∧ RowB hb (ntOf h b) (noOf h b) (fo (rsS busy) 0 (noOf h b) g)) ∧ f_Realm_rest (b + r) (nI busy) hh = some h' := by
  have I0 := I
  obtain ⟨s, cd, c_stat, c_realm, c_book, c_law, c_kin, c_shi, c_roa, c_ord, c_han, c_wei, c_bag, c_pri, c_cnt, c_led, c_yea, c_log, c_rdr, c_msc, c_img⟩ := I
  obtain ⟨⟨hnt, hno⟩, _⟩ := c_realm
  obtain ⟨h', q', e⟩ := lpe (fun N o hx (_ : Nat → Int32) => f_Realm_rest_2 N (b + r) (nI busy) (nI o) hx) (rsS busy) (fun _ g hx => Sn (RC r) b hh hx ∧ Rl h hx b r g ∧ RowB hb (ntOf h b) (noOf h b) g) (noOf h b) (fun _ hx => some hx)
    (fun N o hx G ho q => by
      obtain ⟨q1, q2, q3⟩ := q
      have dx : Sn DYN b h hx := td.tr (q1.up (by rcases hr with rfl | rfl <;> decide))
      obtain ⟨⟨k0, k1, k2, k3, k4, k5, k6, k7, k8, k9⟩, m2, m3, m4, m5, m6, m10, m11, m12, m13⟩ := RS_r s dx hr
      have F9 : gI hx (b + r) 9 = nI (noOf h b) := q2.2.1
      have p4 := (q2.2.2.2.2.2.2.2.2.2.2.2.2 o ho).2.2.2
      obtain ⟨_, z, z1, z2⟩ := q3.2.2.2.2 o ho
      have e2 : ¬ noOf h b ≤ o := by omega
      have o6 : o < 6 := by omega
      have jb := jbit0 (n := busy) (k := o) (by omega) (by omega)
      have rbn := rsS_RowB (busy := busy) hnt hno ho q3
      rw [f_Realm_rest_2]
      cases qb : busy.testBit o
      · have jb : (jshr (nI busy) (nI o) &&& 1 = 0) = True := eq_true (jb.mpr qb)
        have es : rsS busy o G = upr G (73 + o) (jmax 0 (G (73 + o) - 1)) := by unfold rsS; rw [qb, if_neg (by decide)]
        by_cases q0 : z = 0
        · have g0 : G (73 + o) = 0 := by rw [z2, q0]; rfl
          have es2 : rsS busy o G = G := by
            rw [es]
            have : jmax 0 (G (73 + o) - 1) = G (73 + o) := by rw [g0]; decide
            rw [this, upr_same]
          have zz : ((0 : Int32) ≤ 0) = True := eq_true (by decide)
          rw [es2]
          refine ⟨hx, ⟨q1, q2, q3⟩, ?_⟩
          simp (disch := omega) only [↓ob_eq, ob_so, ldI, ldR, ldO, stI, stZ, stR, isO, wrA_n, rdA_n, wrA_l, rdA_l, gK_sI, gR_sI, gX_sI, gN_sI, gK_cp, gR_cp, gX_cp, gN_cp, rtZ_0, rtZ_1, if_true, reduceIte, and_self, true_and, and_true, k0, k9, m13, F9, e2, o6, p4, g0, jb, zz, nI_le', nI_addL, if_false]
        · have gp : ¬ G (73 + o) ≤ 0 := fun y => by
            rw [z2] at y
            have this : z ≤ 0 := (nI_leL (n := 0) (by omega) (by decide)).mp y
            omega
          have ev : jmax 0 (G (73 + o) - 1) = G (73 + o) - 1 := by
            rw [z2]
            have e1 : nI z - 1 = nI (z - 1) := pk_sub (a := z) (b := 1) (by omega)
            rw [e1]
            have := jmaxN (a := 0) (c := z - 1) (by omega) (by omega)
            rw [nI_0] at this
            rw [this]
            have e : Nat.max 0 (z - 1) = z - 1 := Nat.max_eq_right (Nat.zero_le _)
            rw [e]
          rw [es, ev] at rbn ⊢
          refine ⟨_, ⟨q1.put (r + 9) o (G (73 + o) - 1) (RC_o o6).2, q2.tired I0 hr ho, rbn⟩, ?_⟩
          simp (disch := omega) only [↓ob_eq, ob_so, ldI, ldR, ldO, stI, stZ, stR, isO, wrA_n, rdA_n, wrA_l, rdA_l, gK_sI, gR_sI, gX_sI, gN_sI, gK_cp, gR_cp, gX_cp, gN_cp, rtZ_0, rtZ_1, if_true, reduceIte, and_self, true_and, and_true, k0, k9, m13, F9, e2, o6, p4, jb, gp, nI_le', nI_addL, if_false]
      · have jb : ¬ (jshr (nI busy) (nI o) &&& 1 = 0) := fun y => by have := jb.mp y; rw [qb] at this; cases this
        have es : rsS busy o G = G := by unfold rsS; rw [qb, if_pos rfl]
        rw [es]
        refine ⟨hx, ⟨q1, q2, q3⟩, ?_⟩
        simp (disch := omega) only [↓ob_eq, ob_so, ldI, ldR, ldO, stI, stZ, stR, isO, wrA_n, rdA_n, wrA_l, rdA_l, gK_sI, gR_sI, gX_sI, gN_sI, gK_cp, gR_cp, gX_cp, gN_cp, rtZ_0, rtZ_1, if_true, reduceIte, and_self, true_and, and_true, k0, F9, e2, jb, nI_le', nI_addL, if_false])
    (fun N hx G q => by
      obtain ⟨q1, q2, q3⟩ := q
      have dx : Sn DYN b h hx := td.tr (q1.up (by rcases hr with rfl | rfl <;> decide))
      have k0 := (RS_r s dx hr).1.1
      have F9 : gI hx (b + r) 9 = nI (noOf h b) := q2.2.1
      rw [f_Realm_rest_2]
      simp (disch := omega) only [↓ob_eq, ob_so, ldI, ldR, ldO, stI, stZ, stR, isO, wrA_n, rdA_n, wrA_l, rdA_l, gK_sI, gR_sI, gX_sI, gN_sI, gK_cp, gR_cp, gX_cp, gN_cp, rtZ_0, rtZ_1, if_true, reduceIte, and_self, true_and, and_true, k0, F9, nI_le', Nat.le_refl])
    (noOf h b) 0 hh g FU (by omega) ⟨Sn.rf, rl, rb⟩ (by rw [FU_eq]; omega)
  refine ⟨h', q', ?_⟩
  rw [nI_0] at e
  exact e
theorem cl_h3 {h hh : PH} {b r hb busy : Nat} {g B : Nat → Int32} (I : Inv b h) (td : Sn DYN b h hh) (hr : r = 2 ∨ r = 114) (rl : Rl h hh b r g) (rb : RowB hb (ntOf h b) (noOf h b) g) (bk : Bk hh (b + 12) B) (hbz : busy < 64) : ∃ h', Sn (WC r) b hh h' ∧ Rl h h' b r (upr (fo (rsS busy) 0 (noOf h b) (fo (wpS h b) 0 (ntOf h b) g)) 0 (fo (rsS busy) 0 (noOf h b) (fo (wpS h b) 0 (ntOf h b) g) 0 + 1)) ∧ RowB (hb + 1) (ntOf h b) (noOf h b) (upr (fo (rsS busy) 0 (noOf h b) (fo (wpS h b) 0 (ntOf h b) g)) 0 (fo (rsS busy) 0 (noOf h b) (fo (wpS h b) 0 (ntOf h b) g) 0 + 1)) ∧ Bk h' (b + 12) B ∧ f_Land_passHour_181 FU (b + 1) (b + r) (nI busy) 0 hh = some h' := by
  have I0 := I
  obtain ⟨s, cd, c_stat, c_realm, c_book, c_law, c_kin, c_shi, c_roa, c_ord, c_han, c_wei, c_bag, c_pri, c_cnt, c_led, c_yea, c_log, c_rdr, c_msc, c_img⟩ := I
  have K1 : gK h (b + 1) = (0, 1) := s.K 1 (by decide) rfl
  obtain ⟨⟨hnt, hno⟩, _⟩ := c_realm
  have e10 : ¬ (1 : Int32) = 0 := by decide
  obtain ⟨h1, ⟨w1, w2, w3, w4⟩, e⟩ := lpe (fun N t hx (_ : Nat → Int32) => f_Land_passHour_181 N (b + 1) (b + r) (nI busy) (nI t) hx) (wpS h b) (fun _ g hx => Sn (WC r) b hh hx ∧ Rl h hx b r g ∧ RowB hb (ntOf h b) (noOf h b) g ∧ Bk hx (b + 12) B) (ntOf h b) (fun _ hx => f_Land_passHour_181 1 (b + 1) (b + r) (nI busy) (nI (ntOf h b)) hx)
    (fun N t hx G ht q => by
      obtain ⟨q1, q2, q3, q4⟩ := q
      have dx : Sn DYN b h hx := td.tr (q1.up (by rcases hr with rfl | rfl <;> decide))
      obtain ⟨⟨k0, k1, k2, k3, k4, k5, k6, k7, k8, k9⟩, m2, m3, m4, m5, m6, m10, m11, m12, m13⟩ := RS_r s dx hr
      have F1 : gI hx (b + r) 1 = nI (ntOf h b) := q2.1
      have ins := rl_inside (i := t) k0 F1 q2.2.2.2.2.2.2.2.2.2.1 hnt ht
      have kL : gK hx (b + 1) = (0, 1) := by rw [dx.1]; exact K1
      have e2 : ¬ ntOf h b ≤ t := by omega
      have t12 : t < 12 := by omega
      have rbn := wpS_RowB I0 ht q3
      rw [f_Land_passHour_181]
      rcases (q3.2.2.2.1 t ht).2.2.2.1 with hin | hin
      · have es : wpS h b t G = upr G (19 + t) (jmin 99 (G (19 + t) + tlv h b G 0 t none)) := by unfold wpS; rw [if_pos hin]
        have qf : (G (43 + t) == 1) = false := by rw [hin]; rfl
        rw [qf] at ins
        have ins : f_Realm_isInside (b + r) (nI t) hx = some (1, hx) := ins
        obtain ⟨hy, ty, ey⟩ := land_tells (w := 0) (o := none) I0 dx hr q2 ht (fun o' z => by cases z) (by omega)
        have ey : f_Land_tells (b + 1) (b + r) 0 (nI t) (-1) hx = some (tlv h b G 0 t none, hy) := ey
        have nr : ∀ p ∈ ([(17, 0, 10), (18, 0, 32)] : SL), p.1 < r ∨ r + 10 ≤ p.1 := fun p hp => by
          simp only [List.mem_cons, List.not_mem_nil, or_false] at hp
          rcases hp with rfl | rfl <;> dsimp only <;> omega
        have rly := q2.sn I0 ty nr
        have p4 := (q2.2.2.2.2.2.2.2.2.2.2.2.1 t ht).2.2.2.1
        have ky : gK hy (b + (r + 4)) = (1, 12) := by rw [ty.1]; exact k4
        rw [es] at rbn ⊢
        refine ⟨sI hy (b + (r + 4)) t (jmin 99 (G (19 + t) + tlv h b G 0 t none)), ⟨(q1.tr (ty.up (by rcases hr with rfl | rfl <;> decide))).put (r + 4) t _ (WC_r (RC_t t12).2.1), rly.wet I0 hr ht, rbn, (q4.sn ty (by decide)).n1 (by omega)⟩, ?_⟩
        simp (disch := omega) only [↓ob_eq, ob_so, ldI, ldR, ldO, stI, stZ, stR, isO, wrA_n, rdA_n, wrA_l, rdA_l, gK_sI, gR_sI, gX_sI, gN_sI, gK_cp, gR_cp, gX_cp, gN_cp, rtZ_0, rtZ_1, if_true, reduceIte, and_self, true_and, and_true, k0, k4, m5, kL, F1, e2, t12, ins, p4, ey, ky, e10, nI_le', nI_addL, if_false]
      · have es : wpS h b t G = G := by unfold wpS; rw [if_neg (by rw [hin]; decide)]
        have qf : (G (43 + t) == 1) = true := by rw [hin]; rfl
        rw [qf] at ins
        have ins : f_Realm_isInside (b + r) (nI t) hx = some (0, hx) := ins
        rw [es]
        refine ⟨hx, ⟨q1, q2, q3, q4⟩, ?_⟩
        simp (disch := omega) only [↓ob_eq, ob_so, ldI, ldR, ldO, stI, stZ, stR, isO, wrA_n, rdA_n, wrA_l, rdA_l, gK_sI, gR_sI, gX_sI, gN_sI, gK_cp, gR_cp, gX_cp, gN_cp, rtZ_0, rtZ_1, if_true, reduceIte, and_self, true_and, and_true, k0, F1, e2, ins, nI_le', nI_addL, if_false])
    (fun N hx G q => by
      obtain ⟨q1, q2, q3, q4⟩ := q
      have dx : Sn DYN b h hx := td.tr (q1.up (by rcases hr with rfl | rfl <;> decide))
      have k0 := (RS_r s dx hr).1.1
      have F1 : gI hx (b + r) 1 = nI (ntOf h b) := q2.1
      show f_Land_passHour_181 (N + 1) (b + 1) (b + r) (nI busy) (nI (ntOf h b)) hx = f_Land_passHour_181 (0 + 1) (b + 1) (b + r) (nI busy) (nI (ntOf h b)) hx
      rw [f_Land_passHour_181, f_Land_passHour_181]
      simp (disch := omega) only [↓ob_eq, ob_so, ldI, ldR, ldO, stI, stZ, stR, isO, wrA_n, rdA_n, wrA_l, rdA_l, gK_sI, gR_sI, gX_sI, gN_sI, gK_cp, gR_cp, gX_cp, gN_cp, rtZ_0, rtZ_1, if_true, reduceIte, and_self, true_and, and_true, k0, F1, nI_le', Nat.le_refl])
    (ntOf h b) 0 hh g FU (by omega) ⟨Sn.rf, rl, rb, bk⟩ (by rw [FU_eq]; omega)
  have d1 : Sn DYN b h h1 := td.tr (w1.up (by rcases hr with rfl | rfl <;> decide))
  obtain ⟨h2, ⟨x1, x2, x3⟩, e2⟩ := cl_rest I0 d1 hr w2 w3 hbz
  have d2 : Sn DYN b h h2 := d1.tr (x1.up (by rcases hr with rfl | rfl <;> decide))
  have k1 := (RS_r s d1 hr).1.1
  have k2 := (RS_r s d2 hr).1.1
  have F1 : gI h1 (b + r) 1 = nI (ntOf h b) := w2.1
  have f18 : gI h2 (b + r) 18 = fo (rsS busy) 0 (noOf h b) (fo (wpS h b) 0 (ntOf h b) g) 0 := x2.2.2.2.2.2.2.1
  obtain ⟨xh, xh1, xh2⟩ := x3.1
  have bk2 : Bk h2 (b + 12) B := fun j hj => by
    rw [x1.2.2.2.2 12 j (by rcases hr with rfl | rfl <;> simp [RC, inL])]
    exact w4 j hj
  refine ⟨sI h2 (b + r) 18 (fo (rsS busy) 0 (noOf h b) (fo (wpS h b) 0 (ntOf h b) g) 0 + 1), (w1.tr (x1.up (by rcases hr with rfl | rfl <;> decide))).put r 18 _ (WC_r (RC_0 (by omega))), x2.hour I0 hr, x3.hour ⟨xh + 1, by omega, by rw [xh2, nI_addL]⟩, bk2.n1 (by omega), ?_⟩
  rw [nI_0] at e
  refine e.trans ?_
  show f_Land_passHour_181 (0 + 1) (b + 1) (b + r) (nI busy) (nI (ntOf h b)) h1 = _
  rw [f_Land_passHour_181]
  simp (disch := omega) only [↓ob_eq, ob_so, ldI, ldR, ldO, stI, stZ, stR, isO, wrA_n, rdA_n, wrA_l, rdA_l, gK_sI, gR_sI, gX_sI, gN_sI, gK_cp, gR_cp, gX_cp, gN_cp, rtZ_0, rtZ_1, if_true, reduceIte, and_self, true_and, and_true, k1, k2, F1, e2, f18, nI_le', Nat.le_refl]
/-- an hour goes by, in the class -/
theorem cl_hour {h hh : PH} {b r hb : Nat} {g B : Nat → Int32} {th : Bool} (I : Inv b h) (td : Sn DYN b h hh) (hr : r = 2 ∨ r = 114) (rl : Rl h hh b r g) (rb : RowB hb (ntOf h b) (noOf h b) g) (bk : Bk hh (b + 12) B) : ∃ h', Sn (WC r) b hh h' ∧ Rl h h' b r (hrR h b th g B) ∧ RowB (hb + 1) (ntOf h b) (noOf h b) (hrR h b th g B) ∧ Bk h' (b + 12) (hrB h b th g B) ∧ f_Land_passHour (b + 1) (b + r) (if th then 1 else 0) hh = some h' := by
  obtain ⟨h1, t1, rl1, rb1, e1⟩ := cl_h1 (thI := if th then 1 else 0) I td hr rl rb
  have d1 : Sn DYN b h h1 := td.tr (t1.up (by rcases hr with rfl | rfl <;> decide))
  have bk1 : Bk h1 (b + 12) B := fun j hj => by
    rw [t1.2.2.2.2 12 j (by rcases hr with rfl | rfl <;> simp [RC, inL])]
    exact bk j hj
  obtain ⟨h2, ⟨t2, rl2, rb2, bk2, _, q6⟩, e2⟩ := cl_h2 (th := th) I d1 hr rl1 rb1 bk1
  have d2 : Sn DYN b h h2 := d1.tr (t2.up (by rcases hr with rfl | rfl <;> decide))
  obtain ⟨h3, t3, rl3, rb3, bk3, e3⟩ := cl_h3 I d2 hr rl2 rb2 bk2 q6
  exact ⟨h3, (t1.up (by rcases hr with rfl | rfl <;> decide)).tr (t2.tr t3), rl3, rb3, bk3, e1.trans (e2.trans e3)⟩
