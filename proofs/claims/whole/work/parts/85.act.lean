/-! ===== acts ===== -/
def clo (g : Nat → Int32) : Nat := (g 6).toNatClampNeg
def canA (g : Nat → Int32) (w who : Nat) : Bool := if w < 3 then decide (g (43 + who) = 0) else if w = 3 then true else if w = 4 then (clo g).testBit who else !(clo g).testBit who
def actR (g : Nat → Int32) (w who : Nat) (v : Int32) : Nat → Int32 := if w = 0 then upr g (31 + who) (v + 1) else if w = 1 then upr g (19 + who) (g (19 + who) / 2) else if w = 2 then upr g (19 + who) (jmin 99 (g (19 + who) + 20)) else if w = 3 then upr g (67 + who) v else upr g 6 (nI (clo g ^^^ 2 ^ who))
def VA (nt no w who : Nat) (v : Int32) : Prop := w ≤ 5 ∧ (w ≤ 2 → who < nt) ∧ (w = 3 → who < no) ∧ (4 ≤ w → who < 4) ∧ ((w = 0 ∨ w = 3) → ∃ y, y < 4 ∧ v = nI y)
theorem op16 : ∀ x, x < 16 → 15 &&& (nI x ^^^ (-1)) = nI (15 ^^^ x) := by decide
theorem b16 : ∀ x, x < 16 → ∀ k, k < 4 → 15 ^^^ x < 16 ∧ (15 ^^^ x).testBit k = !x.testBit k ∧ x ^^^ 2 ^ k < 16 ∧ (15 ^^^ x) ^^^ 2 ^ k = 15 ^^^ (x ^^^ 2 ^ k) ∧ (x.testBit k = true → x ^^^ (x &&& 2 ^ k) = x ^^^ 2 ^ k) ∧ (x.testBit k = false → x ||| 2 ^ k = x ^^^ 2 ^ k) := by decide +kernel
theorem clo_eq {hb nt no : Nat} {g : Nat → Int32} (c : RowB hb nt no g) : clo g < 16 ∧ g 6 = nI (clo g) := by
  obtain ⟨_, _, ⟨x, x1, x2⟩, _⟩ := c
  have e : clo g = x := by unfold clo; rw [x2, tn_nI (by omega)]
  rw [e]
  exact ⟨x1, x2⟩
theorem act_RowB {hb nt no w who : Nat} {g : Nat → Int32} {v : Int32} (hnt : nt ≤ 12) (hno : no ≤ 6) (c : RowB hb nt no g) (va : VA nt no w who v) : RowB hb nt no (actR g w who v) := by
  obtain ⟨v1, v2, v3, v4, v5⟩ := va
  have cl := clo_eq c
  unfold actR
  have : w = 0 ∨ w = 1 ∨ w = 2 ∨ w = 3 ∨ 4 ≤ w := by omega
  rcases this with rfl | rfl | rfl | rfl | hw
  · rw [if_pos rfl]
    obtain ⟨y, y1, y2⟩ := v5 (Or.inl rfl)
    exact c.at hnt hno (v2 (by omega)) ⟨y + 1, by omega, by rw [y2, nI_addL]⟩
  · rw [if_neg (by decide), if_pos rfl]
    obtain ⟨_, ⟨y, y1, y2⟩, _⟩ := c.2.2.2.1 who (v2 (by omega))
    exact c.wet hnt hno (v2 (by omega)) ⟨y / 2, by omega, by rw [y2]; exact pk_div (d := 2) (by omega) (by omega) (by omega)⟩
  · rw [if_neg (by decide), if_neg (by decide), if_pos rfl]
    obtain ⟨_, ⟨y, y1, y2⟩, _⟩ := c.2.2.2.1 who (v2 (by omega))
    refine c.wet hnt hno (v2 (by omega)) ⟨Nat.min 99 (y + 20), Nat.min_le_left _ _, ?_⟩
    rw [y2, nI_addL]
    exact jminN (a := 99) (by omega) (by omega)
  · rw [if_neg (by decide), if_neg (by decide), if_neg (by decide), if_pos rfl]
    exact c.gate hnt hno (v3 rfl) (v5 (Or.inr rfl))
  · rw [if_neg (by omega), if_neg (by omega), if_neg (by omega), if_neg (by omega)]
    exact c.closed hnt hno ⟨_, (b16 _ cl.1 who (v4 hw)).2.2.1, rfl⟩
theorem cl_canDo {h hh : PH} {b r w who hb : Nat} {g : Nat → Int32} {v : Int32} (I : Inv b h) (t : Sn DYN b h hh) (hr : r = 2 ∨ r = 114) (rl : Rl h hh b r g) (rb : RowB hb (ntOf h b) (noOf h b) g) (va : VA (ntOf h b) (noOf h b) w who v) : f_Realm_canDo (b + r) (nI w) (nI who) v hh = some (if canA g w who then 1 else 0, hh) := by
  obtain ⟨s, cd, c_stat, c_realm, c_book, c_law, c_kin, c_shi, c_roa, c_ord, c_han, c_wei, c_bag, c_pri, c_cnt, c_led, c_yea, c_log, c_rdr, c_msc, c_img⟩ := I
  obtain ⟨⟨hnt, hno⟩, _⟩ := c_realm
  have k0 := (RS_r s t hr).1.1
  obtain ⟨F1, F9, F0, F15, F16, F17, F18, F19, F14, F7, F8, RT, RO⟩ := rl
  obtain ⟨v1, v2, v3, v4, v5⟩ := va
  have cl := clo_eq rb
  have ins : w ≤ 2 → f_Realm_isInside (b + r) (nI who) hh = some (if canA g w who then 1 else 0, hh) := fun hw => by
    have z := rl_inside (i := who) k0 F1 F7 hnt (v2 hw)
    have hq : canA g w who = decide (g (43 + who) = 0) := by unfold canA; rw [if_pos (show w < 3 by omega)]
    rw [z, hq]
    rcases (rb.2.2.2.1 who (v2 hw)).2.2.2.1 with y | y <;> rw [y] <;> simp
  have w3 : ∀ y, y < 4 → f_Tc_within (nI y) 3 hh = some (1, hh) := fun y hy => by
    have e0 : ¬ nI y < 0 := nI_pos (by omega)
    have e3 : ¬ (3 : Int32) < nI y := fun z => by
      have this : 3 < y := (L_ltn (n := 3) (by omega) (by decide)).mp z
      omega
    unfold f_Tc_within
    rw [if_neg e0, if_neg e3, rtZ_1]
  have opn : ∀ k, k < 4 → f_Realm_isOpen (b + r) (nI k) hh = some (if (clo g).testBit k then 0 else 1, hh) := fun k hk => by
    obtain ⟨o1, o2, _⟩ := b16 _ cl.1 k hk
    have f14 : gI hh (b + r) 14 = nI (15 ^^^ clo g) := by rw [F14, cl.2]; exact op16 _ cl.1
    have jb := jbit1 (n := 15 ^^^ clo g) (k := k) (by omega) (by omega)
    rw [o2] at jb
    cases q : (clo g).testBit k
    · rw [q] at jb
      have jb : jshr (nI (15 ^^^ clo g)) (nI k) &&& 1 = 1 := jb.mpr rfl
      simp [f_Realm_isOpen, ↓ob_eq, ob_so, ldI, ldR, ldO, stI, stZ, stR, isO, wrA_n, rdA_n, wrA_l, rdA_l, gK_sI, gR_sI, gX_sI, gN_sI, gK_cp, gR_cp, gX_cp, gN_cp, rtZ_0, rtZ_1, if_true, reduceIte, and_self, true_and, and_true, k0, f14, jb]
    · rw [q] at jb
      have jb : ¬ jshr (nI (15 ^^^ clo g)) (nI k) &&& 1 = 1 := fun z => by have := jb.mp z; cases this
      simp [f_Realm_isOpen, ↓ob_eq, ob_so, ldI, ldR, ldO, stI, stZ, stR, isO, wrA_n, rdA_n, wrA_l, rdA_l, gK_sI, gR_sI, gX_sI, gN_sI, gK_cp, gR_cp, gX_cp, gN_cp, rtZ_0, rtZ_1, if_true, reduceIte, and_self, true_and, and_true, k0, f14, jb]
  have : w = 0 ∨ w = 1 ∨ w = 2 ∨ w = 3 ∨ w = 4 ∨ w = 5 := by omega
  rcases this with rfl | rfl | rfl | rfl | rfl | rfl
  · obtain ⟨y, y1, rfl⟩ := v5 (Or.inl rfl)
    have z : (nI 0 = 0) = True := eq_true nI_0
    have i := ins (by omega)
    cases q : canA g 0 who
    · rw [q] at i
      simp [f_Realm_canDo, ↓ob_eq, ob_so, ldI, ldR, ldO, stI, stZ, stR, isO, wrA_n, rdA_n, wrA_l, rdA_l, gK_sI, gR_sI, gX_sI, gN_sI, gK_cp, gR_cp, gX_cp, gN_cp, rtZ_0, rtZ_1, if_true, reduceIte, and_self, true_and, and_true, k0, z, i]
    · rw [q] at i
      simp [f_Realm_canDo, ↓ob_eq, ob_so, ldI, ldR, ldO, stI, stZ, stR, isO, wrA_n, rdA_n, wrA_l, rdA_l, gK_sI, gR_sI, gX_sI, gN_sI, gK_cp, gR_cp, gX_cp, gN_cp, rtZ_0, rtZ_1, if_true, reduceIte, and_self, true_and, and_true, k0, z, i, w3 y y1]
  · have z0 : ¬ nI 1 = 0 := by decide
    have z1 : (nI 1 = 1) = True := eq_true rfl
    have i := ins (by omega)
    cases q : canA g 1 who
    · rw [q] at i
      simp [f_Realm_canDo, ↓ob_eq, ob_so, ldI, ldR, ldO, stI, stZ, stR, isO, wrA_n, rdA_n, wrA_l, rdA_l, gK_sI, gR_sI, gX_sI, gN_sI, gK_cp, gR_cp, gX_cp, gN_cp, rtZ_0, rtZ_1, if_true, reduceIte, and_self, true_and, and_true, k0, z0, z1, i]
    · rw [q] at i
      simp [f_Realm_canDo, ↓ob_eq, ob_so, ldI, ldR, ldO, stI, stZ, stR, isO, wrA_n, rdA_n, wrA_l, rdA_l, gK_sI, gR_sI, gX_sI, gN_sI, gK_cp, gR_cp, gX_cp, gN_cp, rtZ_0, rtZ_1, if_true, reduceIte, and_self, true_and, and_true, k0, z0, z1, i]
  · have z0 : ¬ nI 2 = 0 := by decide
    have z1 : ¬ nI 2 = 1 := by decide
    have z2 : (nI 2 = 2) = True := eq_true rfl
    have i := ins (by omega)
    cases q : canA g 2 who
    · rw [q] at i
      simp [f_Realm_canDo, ↓ob_eq, ob_so, ldI, ldR, ldO, stI, stZ, stR, isO, wrA_n, rdA_n, wrA_l, rdA_l, gK_sI, gR_sI, gX_sI, gN_sI, gK_cp, gR_cp, gX_cp, gN_cp, rtZ_0, rtZ_1, if_true, reduceIte, and_self, true_and, and_true, k0, z0, z1, z2, i]
    · rw [q] at i
      simp [f_Realm_canDo, ↓ob_eq, ob_so, ldI, ldR, ldO, stI, stZ, stR, isO, wrA_n, rdA_n, wrA_l, rdA_l, gK_sI, gR_sI, gX_sI, gN_sI, gK_cp, gR_cp, gX_cp, gN_cp, rtZ_0, rtZ_1, if_true, reduceIte, and_self, true_and, and_true, k0, z0, z1, z2, i]
  · obtain ⟨y, y1, rfl⟩ := v5 (Or.inr rfl)
    have ho := v3 rfl
    have z0 : ¬ nI 3 = 0 := by decide
    have z1 : ¬ nI 3 = 1 := by decide
    have z2 : ¬ nI 3 = 2 := by decide
    have z3 : (nI 3 = 3) = True := eq_true rfl
    have e0 : ¬ nI who < 0 := nI_pos (by omega)
    have e1 : ¬ noOf h b ≤ who := by omega
    have iO : f_Realm_isOfficer (b + r) (nI who) hh = some (1, hh) := by
      simp (disch := omega) [f_Realm_isOfficer, ↓ob_eq, ob_so, ldI, ldR, ldO, stI, stZ, stR, isO, wrA_n, rdA_n, wrA_l, rdA_l, gK_sI, gR_sI, gX_sI, gN_sI, gK_cp, gR_cp, gX_cp, gN_cp, rtZ_0, rtZ_1, if_true, reduceIte, and_self, true_and, and_true, k0, F9, e0, e1, nI_le']
    have q : canA g 3 who = true := by unfold canA; rw [if_neg (by decide), if_pos rfl]
    rw [q]
    simp [f_Realm_canDo, ↓ob_eq, ob_so, ldI, ldR, ldO, stI, stZ, stR, isO, wrA_n, rdA_n, wrA_l, rdA_l, gK_sI, gR_sI, gX_sI, gN_sI, gK_cp, gR_cp, gX_cp, gN_cp, rtZ_0, rtZ_1, if_true, reduceIte, and_self, true_and, and_true, k0, z0, z1, z2, z3, iO, w3 y y1]
  · have z0 : ¬ nI 4 = 0 := by decide
    have z1 : ¬ nI 4 = 1 := by decide
    have z2 : ¬ nI 4 = 2 := by decide
    have z3 : ¬ nI 4 = 3 := by decide
    have z4 : (nI 4 = 4) = True := eq_true rfl
    have i := opn who (v4 (by omega))
    have q : canA g 4 who = (clo g).testBit who := by unfold canA; rw [if_neg (by decide), if_neg (by decide), if_pos rfl]
    rw [q]
    cases q2 : (clo g).testBit who
    · rw [q2] at i
      simp [f_Realm_canDo, ↓ob_eq, ob_so, ldI, ldR, ldO, stI, stZ, stR, isO, wrA_n, rdA_n, wrA_l, rdA_l, gK_sI, gR_sI, gX_sI, gN_sI, gK_cp, gR_cp, gX_cp, gN_cp, rtZ_0, rtZ_1, if_true, reduceIte, and_self, true_and, and_true, k0, z0, z1, z2, z3, z4, w3 who (v4 (by omega)), i]
    · rw [q2] at i
      simp [f_Realm_canDo, ↓ob_eq, ob_so, ldI, ldR, ldO, stI, stZ, stR, isO, wrA_n, rdA_n, wrA_l, rdA_l, gK_sI, gR_sI, gX_sI, gN_sI, gK_cp, gR_cp, gX_cp, gN_cp, rtZ_0, rtZ_1, if_true, reduceIte, and_self, true_and, and_true, k0, z0, z1, z2, z3, z4, w3 who (v4 (by omega)), i]
  · have z0 : ¬ nI 5 = 0 := by decide
    have z1 : ¬ nI 5 = 1 := by decide
    have z2 : ¬ nI 5 = 2 := by decide
    have z3 : ¬ nI 5 = 3 := by decide
    have z4 : ¬ nI 5 = 4 := by decide
    have z5 : (nI 5 = 5) = True := eq_true rfl
    have i := opn who (v4 (by omega))
    have q : canA g 5 who = !(clo g).testBit who := by unfold canA; rw [if_neg (by decide), if_neg (by decide), if_neg (by decide)]
    rw [q]
    cases q2 : (clo g).testBit who
    · rw [q2] at i
      simp [f_Realm_canDo, ↓ob_eq, ob_so, ldI, ldR, ldO, stI, stZ, stR, isO, wrA_n, rdA_n, wrA_l, rdA_l, gK_sI, gR_sI, gX_sI, gN_sI, gK_cp, gR_cp, gX_cp, gN_cp, rtZ_0, rtZ_1, if_true, reduceIte, and_self, true_and, and_true, k0, z0, z1, z2, z3, z4, z5, w3 who (v4 (by omega)), i]
    · rw [q2] at i
      simp [f_Realm_canDo, ↓ob_eq, ob_so, ldI, ldR, ldO, stI, stZ, stR, isO, wrA_n, rdA_n, wrA_l, rdA_l, gK_sI, gR_sI, gX_sI, gN_sI, gK_cp, gR_cp, gX_cp, gN_cp, rtZ_0, rtZ_1, if_true, reduceIte, and_self, true_and, and_true, k0, z0, z1, z2, z3, z4, z5, w3 who (v4 (by omega)), i]
/-- the cells of a realm -/
def RC (r : Nat) : SL := [(r, 0, 20), (r + 1, 0, 12), (r + 2, 0, 12), (r + 3, 0, 12), (r + 4, 0, 12), (r + 5, 0, 12), (r + 6, 0, 6), (r + 7, 0, 6), (r + 8, 0, 6), (r + 9, 0, 6)]
theorem RC_0 {r k : Nat} (hk : k < 20) : inL (RC r) r k = true := inL_in (lo := 0) (hi := 20) (by simp [RC]) (by omega) hk
theorem RC_t {r k : Nat} (hk : k < 12) : inL (RC r) (r + 3) k = true ∧ inL (RC r) (r + 4) k = true ∧ inL (RC r) (r + 5) k = true := ⟨inL_in (lo := 0) (hi := 12) (by simp [RC]) (by omega) hk, inL_in (lo := 0) (hi := 12) (by simp [RC]) (by omega) hk, inL_in (lo := 0) (hi := 12) (by simp [RC]) (by omega) hk⟩
theorem RC_o {r k : Nat} (hk : k < 6) : inL (RC r) (r + 6) k = true ∧ inL (RC r) (r + 9) k = true := ⟨inL_in (lo := 0) (hi := 6) (by simp [RC]) (by omega) hk, inL_in (lo := 0) (hi := 6) (by simp [RC]) (by omega) hk⟩
theorem cl_perform {h hh : PH} {b r w who hb : Nat} {g : Nat → Int32} {v : Int32} (I : Inv b h) (t : Sn DYN b h hh) (hr : r = 2 ∨ r = 114) (rl : Rl h hh b r g) (rb : RowB hb (ntOf h b) (noOf h b) g) (va : VA (ntOf h b) (noOf h b) w who v) : ∃ h', Sn (RC r) b hh h' ∧ Rl h h' b r (if canA g w who then actR g w who v else g) ∧ f_Realm_perform (b + r) (nI w) (nI who) v hh = some h' := by
  have I0 := I
  have cd' := cl_canDo I t hr rl rb va
  obtain ⟨s, cd, c_stat, c_realm, c_book, c_law, c_kin, c_shi, c_roa, c_ord, c_han, c_wei, c_bag, c_pri, c_cnt, c_led, c_yea, c_log, c_rdr, c_msc, c_img⟩ := I
  obtain ⟨⟨hnt, hno⟩, _⟩ := c_realm
  obtain ⟨⟨k0, k1, k2, k3, k4, k5, k6, k7, k8, k9⟩, q2, q3, q4, q5, q6, q10, q11, q12, q13⟩ := RS_r s t hr
  have rl0 := rl
  obtain ⟨F1, F9, F0, F15, F16, F17, F18, F19, F14, F7, F8, RT, RO⟩ := rl
  obtain ⟨v1, v2, v3, v4, v5⟩ := va
  have cl := clo_eq rb
  have e10 : ¬ (1 : Int32) = 0 := by decide
  cases q : canA g w who
  · rw [q] at cd'
    have cd' : f_Realm_canDo (b + r) (nI w) (nI who) v hh = some (0, hh) := cd'
    refine ⟨hh, Sn.rf, rl0, ?_⟩
    simp only [f_Realm_perform, ↓ob_eq, ob_so, ldI, ldR, ldO, stI, stZ, stR, isO, wrA_n, rdA_n, wrA_l, rdA_l, gK_sI, gR_sI, gX_sI, gN_sI, gK_cp, gR_cp, gX_cp, gN_cp, rtZ_0, rtZ_1, if_true, reduceIte, and_self, true_and, and_true, k0, cd']
  · rw [q] at cd'
    have cd' : f_Realm_canDo (b + r) (nI w) (nI who) v hh = some (1, hh) := cd'
    rw [if_pos rfl]
    have : w = 0 ∨ w = 1 ∨ w = 2 ∨ w = 3 ∨ 4 ≤ w := by omega
    rcases this with rfl | rfl | rfl | rfl | hw
    · have ht := v2 (by omega)
      have z : (nI 0 = 0) = True := eq_true nI_0
      have w12 : who < 12 := by omega
      have rl1 := rl0.place (w := v + 1) I0 hr ht
      have ev : v + 1 - 1 = v := Int32.add_sub_cancel v 1
      rw [ev] at rl1
      refine ⟨_, Sn.rf.put (r + 5) who v (RC_t w12).2.2, by unfold actR; rw [if_pos rfl]; exact rl1, ?_⟩
      simp (disch := omega) only [f_Realm_perform, ↓ob_eq, ob_so, ldI, ldR, ldO, stI, stZ, stR, isO, wrA_n, rdA_n, wrA_l, rdA_l, gK_sI, gR_sI, gX_sI, gN_sI, gK_cp, gR_cp, gX_cp, gN_cp, rtZ_0, rtZ_1, if_true, reduceIte, and_self, true_and, and_true, k0, k5, q6, cd', e10, z, w12, if_false]
    · have ht := v2 (by omega)
      have z0 : ¬ nI 1 = 0 := by decide
      have z1 : (nI 1 = 1) = True := eq_true rfl
      have w12 : who < 12 := by omega
      have rl1 := rl0.wet (w := g (19 + who) / 2) I0 hr ht
      have r4 := (RT who ht).2.2.2.1
      have dv : dvI (g (19 + who)) 2 = some (g (19 + who) / 2) := by unfold dvI; rw [if_neg (by decide)]
      refine ⟨_, Sn.rf.put (r + 4) who _ (RC_t w12).2.1, by unfold actR; rw [if_neg (by decide), if_pos rfl]; exact rl1, ?_⟩
      simp (disch := omega) only [f_Realm_perform, ↓ob_eq, ob_so, ldI, ldR, ldO, stI, stZ, stR, isO, wrA_n, rdA_n, wrA_l, rdA_l, gK_sI, gR_sI, gX_sI, gN_sI, gK_cp, gR_cp, gX_cp, gN_cp, rtZ_0, rtZ_1, if_true, reduceIte, and_self, true_and, and_true, k0, k4, q5, cd', e10, z0, z1, w12, r4, dv, if_false]
    · have ht := v2 (by omega)
      have z0 : ¬ nI 2 = 0 := by decide
      have z1 : ¬ nI 2 = 1 := by decide
      have z2 : (nI 2 = 2) = True := eq_true rfl
      have w12 : who < 12 := by omega
      have rl1 := rl0.wet (w := jmin 99 (g (19 + who) + 20)) I0 hr ht
      have r4 := (RT who ht).2.2.2.1
      refine ⟨_, Sn.rf.put (r + 4) who _ (RC_t w12).2.1, by unfold actR; rw [if_neg (by decide), if_neg (by decide), if_pos rfl]; exact rl1, ?_⟩
      simp (disch := omega) only [f_Realm_perform, ↓ob_eq, ob_so, ldI, ldR, ldO, stI, stZ, stR, isO, wrA_n, rdA_n, wrA_l, rdA_l, gK_sI, gR_sI, gX_sI, gN_sI, gK_cp, gR_cp, gX_cp, gN_cp, rtZ_0, rtZ_1, if_true, reduceIte, and_self, true_and, and_true, k0, k4, q5, cd', e10, z0, z1, z2, w12, r4, if_false]
    · have ho := v3 rfl
      have z0 : ¬ nI 3 = 0 := by decide
      have z1 : ¬ nI 3 = 1 := by decide
      have z2 : ¬ nI 3 = 2 := by decide
      have z3 : (nI 3 = 3) = True := eq_true rfl
      have w6 : who < 6 := by omega
      have rl1 := rl0.gate (w := v) I0 hr ho
      refine ⟨_, Sn.rf.put (r + 6) who _ (RC_o w6).1, by unfold actR; rw [if_neg (by decide), if_neg (by decide), if_neg (by decide), if_pos rfl]; exact rl1, ?_⟩
      simp (disch := omega) only [f_Realm_perform, ↓ob_eq, ob_so, ldI, ldR, ldO, stI, stZ, stR, isO, wrA_n, rdA_n, wrA_l, rdA_l, gK_sI, gR_sI, gX_sI, gN_sI, gK_cp, gR_cp, gX_cp, gN_cp, rtZ_0, rtZ_1, if_true, reduceIte, and_self, true_and, and_true, k0, k6, q10, cd', e10, z0, z1, z2, z3, w6, if_false]
    · have w4 := v4 hw
      have nz : ∀ c, c < 4 → ¬ nI w = nI c := fun c hc z => by
        have := (nI_eq (by omega) (by omega)).mp z
        omega
      have z0 : ¬ nI w = 0 := nz 0 (by omega)
      have z1 : ¬ nI w = 1 := nz 1 (by omega)
      have z2 : ¬ nI w = 2 := nz 2 (by omega)
      have z3 : ¬ nI w = 3 := nz 3 (by omega)
      obtain ⟨o1, o2, o3, o4, _⟩ := b16 _ cl.1 who w4
      have f14 : gI hh (b + r) 14 = nI (15 ^^^ clo g) := by rw [F14, cl.2]; exact op16 _ cl.1
      have sh : jshl 1 (nI who) = nI (2 ^ who) := jshl1 who (by omega)
      have rl1 := rl0.doors (w := nI (clo g ^^^ 2 ^ who)) (v := nI (15 ^^^ (clo g ^^^ 2 ^ who))) I0 hr (op16 _ o3).symm
      refine ⟨_, Sn.rf.put r 14 _ (RC_0 (by omega)), by unfold actR; rw [if_neg (by omega), if_neg (by omega), if_neg (by omega), if_neg (by omega)]; exact rl1, ?_⟩
      simp (disch := omega) only [f_Realm_perform, ↓ob_eq, ob_so, ldI, ldR, ldO, stI, stZ, stR, isO, wrA_n, rdA_n, wrA_l, rdA_l, gK_sI, gR_sI, gX_sI, gN_sI, gK_cp, gR_cp, gX_cp, gN_cp, rtZ_0, rtZ_1, if_true, reduceIte, and_self, true_and, and_true, k0, cd', e10, z0, z1, z2, z3, f14, sh, nI_xor, o4, if_false]
theorem mo_isOpen {h hh : PH} {b k hb : Nat} {g : Nat → Int32} (I : Inv b h) (t : Sn DYN b h hh) (rw' : Rw hh b g) (rb : RowB hb (ntOf h b) (noOf h b) g) (hk : k < 4) : f_Mo_isOpen (b + 131) (nI k) hh = some (if (clo g).testBit k then 0 else 1, hh) := by
  obtain ⟨s, cd, c_stat, c_realm, c_book, c_law, c_kin, c_shi, c_roa, c_ord, c_han, c_wei, c_bag, c_pri, c_cnt, c_led, c_yea, c_log, c_rdr, c_msc, c_img⟩ := I
  have K131 : gK h (b + 131) = (0, 9) := s.K 131 (by decide) rfl
  have K132 : gK h (b + 132) = (1, 79) := s.K 132 (by decide) rfl
  have R131_1 : gR h (b + 131) 1 = some (b + 132) := s.R 131 1 rfl
  have k131 : gK hh (b + 131) = (0, 9) := by rw [t.1]; exact K131
  have k132 : gK hh (b + 132) = (1, 79) := by rw [t.1]; exact K132
  have p1 : gR hh (b + 131) 1 = some (b + 132) := by rw [t.2.1]; exact R131_1
  have cl := clo_eq rb
  have r6 : rdA hh (b + 132) 6 = some (nI (clo g)) := rd_at (k := 6) k132 (by decide) (by decide) (by rw [rw' 6 (by omega)]; exact cl.2)
  have hh' := mo_has (a := b + 131) (n := clo g) (k := k) (h := hh) (by omega) (by omega)
  cases q : (clo g).testBit k
  · rw [q] at hh'
    simp [f_Mo_isOpen, r6, ↓ob_eq, ob_so, ldI, ldR, ldO, stI, stZ, stR, isO, wrA_n, rdA_n, wrA_l, rdA_l, gK_sI, gR_sI, gX_sI, gN_sI, gK_cp, gR_cp, gX_cp, gN_cp, rtZ_0, rtZ_1, if_true, reduceIte, and_self, true_and, and_true, k131, p1, hh']
  · rw [q] at hh'
    simp [f_Mo_isOpen, r6, ↓ob_eq, ob_so, ldI, ldR, ldO, stI, stZ, stR, isO, wrA_n, rdA_n, wrA_l, rdA_l, gK_sI, gR_sI, gX_sI, gN_sI, gK_cp, gR_cp, gX_cp, gN_cp, rtZ_0, rtZ_1, if_true, reduceIte, and_self, true_and, and_true, k131, p1, hh']
theorem mo_canAct {h hh : PH} {b w who hb : Nat} {g : Nat → Int32} {v : Int32} (I : Inv b h) (t : Sn DYN b h hh) (rw' : Rw hh b g) (rb : RowB hb (ntOf h b) (noOf h b) g) (va : VA (ntOf h b) (noOf h b) w who v) : f_Mo_canAct (b + 131) (nI w) (nI who) hh = some (if canA g w who then 1 else 0, hh) := by
  have io := fun hk => mo_isOpen (k := who) I t rw' rb hk
  obtain ⟨s, cd, c_stat, c_realm, c_book, c_law, c_kin, c_shi, c_roa, c_ord, c_han, c_wei, c_bag, c_pri, c_cnt, c_led, c_yea, c_log, c_rdr, c_msc, c_img⟩ := I
  have K131 : gK h (b + 131) = (0, 9) := s.K 131 (by decide) rfl
  have K132 : gK h (b + 132) = (1, 79) := s.K 132 (by decide) rfl
  have R131_1 : gR h (b + 131) 1 = some (b + 132) := s.R 131 1 rfl
  obtain ⟨⟨hnt, hno⟩, _⟩ := c_realm
  have k131 : gK hh (b + 131) = (0, 9) := by rw [t.1]; exact K131
  have k132 : gK hh (b + 132) = (1, 79) := by rw [t.1]; exact K132
  have p1 : gR hh (b + 131) 1 = some (b + 132) := by rw [t.2.1]; exact R131_1
  obtain ⟨v1, v2, v3, v4, v5⟩ := va
  have : w ≤ 2 ∨ w = 3 ∨ w = 4 ∨ w = 5 := by omega
  rcases this with hw | rfl | rfl | rfl
  · have ht := v2 hw
    have z : ¬ (3 : Int32) ≤ nI w := fun z => by
      have this : 3 ≤ w := (L_len (n := 3) (by omega) (by decide)).mp z
      omega
    have a43 : 43 + who < 79 := by omega
    have rv : gI hh (b + 132) (43 + who) = g (43 + who) := rw' _ a43
    have q : canA g w who = decide (g (43 + who) = 0) := by unfold canA; rw [if_pos (by omega)]
    rw [q]
    rcases (rb.2.2.2.1 who ht).2.2.2.1 with y | y
    · rw [y] at rv ⊢
      simp (disch := omega) [f_Mo_canAct, ↓ob_eq, ob_so, ldI, ldR, ldO, stI, stZ, stR, isO, wrA_n, rdA_n, wrA_l, rdA_l, gK_sI, gR_sI, gX_sI, gN_sI, gK_cp, gR_cp, gX_cp, gN_cp, rtZ_0, rtZ_1, if_true, reduceIte, and_self, true_and, and_true, k131, k132, p1, z, a43, rv, L_addn]
    · rw [y] at rv ⊢
      simp (disch := omega) [f_Mo_canAct, ↓ob_eq, ob_so, ldI, ldR, ldO, stI, stZ, stR, isO, wrA_n, rdA_n, wrA_l, rdA_l, gK_sI, gR_sI, gX_sI, gN_sI, gK_cp, gR_cp, gX_cp, gN_cp, rtZ_0, rtZ_1, if_true, reduceIte, and_self, true_and, and_true, k131, k132, p1, z, a43, rv, L_addn]
  · have q : canA g 3 who = true := by unfold canA; rw [if_neg (by decide), if_pos rfl]
    have z : (3 : Int32) ≤ nI 3 := by decide
    have z3 : (nI 3 = 3) = True := eq_true rfl
    rw [q]
    simp [f_Mo_canAct, f_Mo_canAct_46, z, z3, rtZ_1]
  · have q : canA g 4 who = (clo g).testBit who := by unfold canA; rw [if_neg (by decide), if_neg (by decide), if_pos rfl]
    have z : (3 : Int32) ≤ nI 4 := by decide
    have z3 : ¬ nI 4 = 3 := by decide
    have z5 : ¬ nI 4 = 5 := by decide
    have i := io (v4 (by omega))
    rw [q]
    cases q2 : (clo g).testBit who
    · rw [q2] at i
      simp [f_Mo_canAct, f_Mo_canAct_43, f_Mo_canAct_46, ↓ob_eq, ob_so, ldI, ldR, ldO, stI, stZ, stR, isO, wrA_n, rdA_n, wrA_l, rdA_l, gK_sI, gR_sI, gX_sI, gN_sI, gK_cp, gR_cp, gX_cp, gN_cp, rtZ_0, rtZ_1, if_true, reduceIte, and_self, true_and, and_true, k131, z, z3, z5, i]
    · rw [q2] at i
      simp [f_Mo_canAct, f_Mo_canAct_43, f_Mo_canAct_46, ↓ob_eq, ob_so, ldI, ldR, ldO, stI, stZ, stR, isO, wrA_n, rdA_n, wrA_l, rdA_l, gK_sI, gR_sI, gX_sI, gN_sI, gK_cp, gR_cp, gX_cp, gN_cp, rtZ_0, rtZ_1, if_true, reduceIte, and_self, true_and, and_true, k131, z, z3, z5, i]
  · have q : canA g 5 who = !(clo g).testBit who := by unfold canA; rw [if_neg (by decide), if_neg (by decide), if_neg (by decide)]
    have z : (3 : Int32) ≤ nI 5 := by decide
    have z3 : ¬ nI 5 = 3 := by decide
    have z5 : (nI 5 = 5) = True := eq_true rfl
    have i := io (v4 (by omega))
    rw [q]
    cases q2 : (clo g).testBit who
    · rw [q2] at i
      simp [f_Mo_canAct, f_Mo_canAct_43, f_Mo_canAct_46, ↓ob_eq, ob_so, ldI, ldR, ldO, stI, stZ, stR, isO, wrA_n, rdA_n, wrA_l, rdA_l, gK_sI, gR_sI, gX_sI, gN_sI, gK_cp, gR_cp, gX_cp, gN_cp, rtZ_0, rtZ_1, if_true, reduceIte, and_self, true_and, and_true, k131, z, z3, z5, i]
    · rw [q2] at i
      simp [f_Mo_canAct, f_Mo_canAct_43, f_Mo_canAct_46, ↓ob_eq, ob_so, ldI, ldR, ldO, stI, stZ, stR, isO, wrA_n, rdA_n, wrA_l, rdA_l, gK_sI, gR_sI, gX_sI, gN_sI, gK_cp, gR_cp, gX_cp, gN_cp, rtZ_0, rtZ_1, if_true, reduceIte, and_self, true_and, and_true, k131, z, z3, z5, i]
theorem mo_acts {h hh : PH} {b w who hb : Nat} {g : Nat → Int32} {v : Int32} (I : Inv b h) (t : Sn DYN b h hh) (rw' : Rw hh b g) (rb : RowB hb (ntOf h b) (noOf h b) g) (va : VA (ntOf h b) (noOf h b) w who v) (ca : canA g w who = true) : ∃ h', Sn [(132, 0, 79)] b hh h' ∧ Rw h' b (actR g w who v) ∧ f_Mo_acts (b + 131) (nI w) (nI who) v hh = some h' := by
  obtain ⟨s, cd, c_stat, c_realm, c_book, c_law, c_kin, c_shi, c_roa, c_ord, c_han, c_wei, c_bag, c_pri, c_cnt, c_led, c_yea, c_log, c_rdr, c_msc, c_img⟩ := I
  have K131 : gK h (b + 131) = (0, 9) := s.K 131 (by decide) rfl
  have K132 : gK h (b + 132) = (1, 79) := s.K 132 (by decide) rfl
  have R131_1 : gR h (b + 131) 1 = some (b + 132) := s.R 131 1 rfl
  obtain ⟨⟨hnt, hno⟩, _⟩ := c_realm
  have k131 : gK hh (b + 131) = (0, 9) := by rw [t.1]; exact K131
  have k132 : gK hh (b + 132) = (1, 79) := by rw [t.1]; exact K132
  have p1 : gR hh (b + 131) 1 = some (b + 132) := by rw [t.2.1]; exact R131_1
  obtain ⟨v1, v2, v3, v4, v5⟩ := va
  have cl := clo_eq rb
  have pt : ∀ k x, k < 79 → Sn [(132, 0, 79)] b hh (sI hh (b + 132) k x) := fun k x hk => Sn.rf.put 132 k x (inL_in (lo := 0) (hi := 79) (by decide) (by omega) hk)
  have ds : ∀ c d : Nat, c ≤ 5 → d ≤ 5 → c ≠ d → ¬ nI c = nI d := fun c d hc hd hn z => hn ((nI_eq (by omega) (by omega)).mp z)
  have nn : ∀ c : Nat, c ≤ 5 → (c ≠ 0 → ¬ nI c = 0) ∧ (c ≠ 1 → ¬ nI c = 1) ∧ (c ≠ 2 → ¬ nI c = 2) ∧ (c ≠ 3 → ¬ nI c = 3) ∧ (c ≠ 4 → ¬ nI c = 4) ∧ (c ≠ 5 → ¬ nI c = 5) := fun c hc => ⟨ds c 0 hc (by omega), ds c 1 hc (by omega), ds c 2 hc (by omega), ds c 3 hc (by omega), ds c 4 hc (by omega), ds c 5 hc (by omega)⟩
  have r6 : rdA hh (b + 132) 6 = some (nI (clo g)) := rd_at (k := 6) k132 (by decide) (by decide) (by rw [rw' 6 (by omega)]; exact cl.2)
  have w6 : ∀ x, wrA hh (b + 132) 6 x = some (sI hh (b + 132) 6 x) := fun x => wr_at (k := 6) k132 (by decide) (by decide)
  have : w = 0 ∨ w = 1 ∨ w = 2 ∨ w = 3 ∨ w = 4 ∨ w = 5 := by omega
  rcases this with rfl | rfl | rfl | rfl | rfl | rfl
  · have ht := v2 (by omega)
    have a31 : 31 + who < 79 := by omega
    have z0 : (nI 0 = 0) = True := eq_true nI_0
    obtain ⟨_, z1, z2, z3, z4, z5⟩ := nn 0 (by omega)
    refine ⟨_, pt (31 + who) (v + 1) a31, by unfold actR; rw [if_pos rfl]; exact rw'.put, ?_⟩
    simp (disch := omega) only [f_Mo_acts, f_Mo_acts_16, f_Mo_acts_41, f_Mo_acts_73, f_Mo_acts_88, f_Mo_acts_113, ↓ob_eq, ob_so, ldI, ldR, ldO, stI, stZ, stR, isO, wrA_n, rdA_n, wrA_l, rdA_l, gK_sI, gR_sI, gX_sI, gN_sI, gK_cp, gR_cp, gX_cp, gN_cp, rtZ_0, rtZ_1, if_true, reduceIte, and_self, true_and, and_true, k131, k132, p1, a31, z0, z1 (by decide), z2 (by decide), z3 (by decide), z4 (by decide), z5 (by decide), L_addn, if_false]
  · have ht := v2 (by omega)
    have a19 : 19 + who < 79 := by omega
    have z1 : (nI 1 = 1) = True := eq_true rfl
    obtain ⟨z0, _, z2, z3, z4, z5⟩ := nn 1 (by omega)
    have rv : gI hh (b + 132) (19 + who) = g (19 + who) := rw' _ a19
    have dv : dvI (g (19 + who)) 2 = some (g (19 + who) / 2) := by unfold dvI; rw [if_neg (by decide)]
    refine ⟨_, pt (19 + who) (g (19 + who) / 2) a19, by unfold actR; rw [if_neg (by decide), if_pos rfl]; exact rw'.put, ?_⟩
    simp (disch := omega) only [f_Mo_acts, f_Mo_acts_16, f_Mo_acts_41, f_Mo_acts_73, f_Mo_acts_88, f_Mo_acts_113, ↓ob_eq, ob_so, ldI, ldR, ldO, stI, stZ, stR, isO, wrA_n, rdA_n, wrA_l, rdA_l, gK_sI, gR_sI, gX_sI, gN_sI, gK_cp, gR_cp, gX_cp, gN_cp, rtZ_0, rtZ_1, if_true, reduceIte, and_self, true_and, and_true, k131, k132, p1, a19, rv, dv, z1, z0 (by decide), z2 (by decide), z3 (by decide), z4 (by decide), z5 (by decide), L_addn, if_false]
  · have ht := v2 (by omega)
    have a19 : 19 + who < 79 := by omega
    have z2 : (nI 2 = 2) = True := eq_true rfl
    obtain ⟨z0, z1, _, z3, z4, z5⟩ := nn 2 (by omega)
    have rv : gI hh (b + 132) (19 + who) = g (19 + who) := rw' _ a19
    refine ⟨_, pt (19 + who) (jmin 99 (g (19 + who) + 20)) a19, by unfold actR; rw [if_neg (by decide), if_neg (by decide), if_pos rfl]; exact rw'.put, ?_⟩
    simp (disch := omega) only [f_Mo_acts, f_Mo_acts_16, f_Mo_acts_41, f_Mo_acts_73, f_Mo_acts_88, f_Mo_acts_113, ↓ob_eq, ob_so, ldI, ldR, ldO, stI, stZ, stR, isO, wrA_n, rdA_n, wrA_l, rdA_l, gK_sI, gR_sI, gX_sI, gN_sI, gK_cp, gR_cp, gX_cp, gN_cp, rtZ_0, rtZ_1, if_true, reduceIte, and_self, true_and, and_true, k131, k132, p1, a19, rv, mo_ls, z2, z0 (by decide), z1 (by decide), z3 (by decide), z4 (by decide), z5 (by decide), L_addn, if_false]
  · have ho := v3 rfl
    have a67 : 67 + who < 79 := by omega
    have z3 : (nI 3 = 3) = True := eq_true rfl
    obtain ⟨z0, z1, z2, _, z4, z5⟩ := nn 3 (by omega)
    refine ⟨_, pt (67 + who) v a67, by unfold actR; rw [if_neg (by decide), if_neg (by decide), if_neg (by decide), if_pos rfl]; exact rw'.put, ?_⟩
    simp (disch := omega) only [f_Mo_acts, f_Mo_acts_16, f_Mo_acts_41, f_Mo_acts_73, f_Mo_acts_88, f_Mo_acts_113, ↓ob_eq, ob_so, ldI, ldR, ldO, stI, stZ, stR, isO, wrA_n, rdA_n, wrA_l, rdA_l, gK_sI, gR_sI, gX_sI, gN_sI, gK_cp, gR_cp, gX_cp, gN_cp, rtZ_0, rtZ_1, if_true, reduceIte, and_self, true_and, and_true, k131, k132, p1, a67, z3, z0 (by decide), z1 (by decide), z2 (by decide), z4 (by decide), z5 (by decide), L_addn, if_false]
  · have w4 := v4 (by omega)
    have z4 : (nI 4 = 4) = True := eq_true rfl
    obtain ⟨z0, z1, z2, z3, _, z5⟩ := nn 4 (by omega)
    obtain ⟨o1, o2, o3, o4, o5, o6⟩ := b16 _ cl.1 who w4
    have cb : (clo g).testBit who = true := by unfold canA at ca; rw [if_neg (by decide), if_neg (by decide), if_pos rfl] at ca; exact ca
    have sh : jshl 1 (nI who) = nI (2 ^ who) := jshl1 who (by omega)
    have ex : nI (clo g) &&& (nI (2 ^ who) ^^^ (-1)) = nI (clo g ^^^ 2 ^ who) := by rw [andnot, fa_and, nI_xor, o5 cb]
    refine ⟨_, pt 6 (nI (clo g ^^^ 2 ^ who)) (by omega), by unfold actR; rw [if_neg (by decide), if_neg (by decide), if_neg (by decide), if_neg (by decide)]; exact rw'.put, ?_⟩
    simp (disch := omega) only [r6, w6, f_Mo_acts, f_Mo_acts_16, f_Mo_acts_41, f_Mo_acts_73, f_Mo_acts_88, f_Mo_acts_113, ↓ob_eq, ob_so, ldI, ldR, ldO, stI, stZ, stR, isO, wrA_n, rdA_n, wrA_l, rdA_l, gK_sI, gR_sI, gX_sI, gN_sI, gK_cp, gR_cp, gX_cp, gN_cp, rtZ_0, rtZ_1, if_true, reduceIte, and_self, true_and, and_true, k131, p1, sh, ex, z4, z0 (by decide), z1 (by decide), z2 (by decide), z3 (by decide), z5 (by decide), if_false]
  · have w4 := v4 (by omega)
    have z5 : (nI 5 = 5) = True := eq_true rfl
    obtain ⟨z0, z1, z2, z3, z4, _⟩ := nn 5 (by omega)
    obtain ⟨o1, o2, o3, o4, o5, o6⟩ := b16 _ cl.1 who w4
    have cb : (clo g).testBit who = false := by unfold canA at ca; rw [if_neg (by decide), if_neg (by decide), if_neg (by decide)] at ca; simpa using ca
    have sh : jshl 1 (nI who) = nI (2 ^ who) := jshl1 who (by omega)
    have ex : nI (clo g) ||| nI (2 ^ who) = nI (clo g ^^^ 2 ^ who) := by rw [fa_or, o6 cb]
    refine ⟨_, pt 6 (nI (clo g ^^^ 2 ^ who)) (by omega), by unfold actR; rw [if_neg (by decide), if_neg (by decide), if_neg (by decide), if_neg (by decide)]; exact rw'.put, ?_⟩
    simp (disch := omega) only [r6, w6, f_Mo_acts, f_Mo_acts_16, f_Mo_acts_41, f_Mo_acts_73, f_Mo_acts_88, f_Mo_acts_113, ↓ob_eq, ob_so, ldI, ldR, ldO, stI, stZ, stR, isO, wrA_n, rdA_n, wrA_l, rdA_l, gK_sI, gR_sI, gX_sI, gN_sI, gK_cp, gR_cp, gX_cp, gN_cp, rtZ_0, rtZ_1, if_true, reduceIte, and_self, true_and, and_true, k131, p1, sh, ex, z5, z0 (by decide), z1 (by decide), z2 (by decide), z3 (by decide), z4 (by decide), if_false]
