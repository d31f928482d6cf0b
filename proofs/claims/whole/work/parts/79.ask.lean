/-! ===== of whom the law is asked ===== -/
def pcd (n : Nat) : Nat := pcn 12 n
theorem pcd_le (n : Nat) : pcd n ≤ 12 := pcn_le 12 n
theorem bitd_t2 : ∀ q, q < 64 → ∀ r, r < 64 → bc5 (bc4 (bc3 (bc2 (bc1 (nI (64 * q + r)))))) = nI (pcd (64 * q + r)) := by decide +kernel
theorem bitd_tab (n : Nat) (hn : n < 4096) : bc5 (bc4 (bc3 (bc2 (bc1 (nI n))))) = nI (pcd n) := by
  have := bitd_t2 (n / 64) (by omega) (n % 64) (by omega)
  rw [Nat.div_add_mod] at this
  exact this
theorem bitd {n : Nat} (hn : n < 4096) (h : PH) : f_Int_bitCount (nI n) h = some (nI (pcd n), h) := by
  rw [← bitd_tab n hn]; rfl
theorem oned_t2 : ∀ q, q < 64 → ∀ r, r < 64 → 64 * q + r = 0 ∨ ((64 * q + r) &&& (64 * q + r - 1) < 64 * q + r ∧ pcd ((64 * q + r) &&& (64 * q + r - 1)) + 1 = pcd (64 * q + r)) := by decide +kernel
theorem oned_tab (n : Nat) (hn : n < 4096) : n = 0 ∨ (n &&& (n - 1) < n ∧ pcd (n &&& (n - 1)) + 1 = pcd n) := by
  have := oned_t2 (n / 64) (by omega) (n % 64) (by omega)
  rw [Nat.div_add_mod] at this
  exact this
theorem oned4 (h : PH) : ∀ m n s M, n ≤ m → n < 4096 → m < M → f_Mo_onesOf_4 M (nI s) (nI n) h = some (nI (s + pcd n), h) := by
  intro m
  induction m with
  | zero =>
    intro n s M hm hn hM
    obtain ⟨N, rfl⟩ : ∃ N, M = N + 1 := ⟨M - 1, by omega⟩
    obtain rfl : n = 0 := by omega
    rw [f_Mo_onesOf_4, if_pos nI_0]; rfl
  | succ m ih =>
    intro n s M hm hn hM
    obtain ⟨N, rfl⟩ : ∃ N, M = N + 1 := ⟨M - 1, by omega⟩
    by_cases q : n = 0
    · subst q
      rw [f_Mo_onesOf_4, if_pos nI_0]; rfl
    · have z : ¬ nI n = 0 := fun e => q ((nI_eqL (n := 0) (by omega) (by decide)).mp e)
      rcases oned_tab n hn with e | ⟨e1, e2⟩
      · exact absurd e q
      · have e3 : nI n - 1 = nI (n - 1) := pk_sub (a := n) (b := 1) (by omega)
        rw [f_Mo_onesOf_4, if_neg z, e3, fa_and, nI_addL, ih _ _ N (by omega) (by omega) (by omega), ← e2]
        congr 3
        show s + 1 + pcd (n &&& (n - 1)) = _
        omega
theorem oned {n : Nat} (hn : n < 4096) (a : Nat) (h : PH) : f_Mo_onesOf a (nI n) h = some (nI (pcd n), h) := by
  unfold f_Mo_onesOf
  have := oned4 h n n 0 FU (Nat.le_refl _) hn (by rw [FU_eq]; omega)
  rw [nI_0, Nat.zero_add] at this
  exact this
theorem kset_nat {C : Nat → Int32} {a : Nat} : ∀ {n : Nat}, (∀ l, l < n → ∃ x y, x < 12 ∧ y < 12 ∧ C (4 * l) = nI x ∧ C (4 * l + 1) = nI y) → ∃ A, A < 4096 ∧ kset C a n = nI A
  | 0, _ => ⟨0, by decide, nI_0.symm⟩
  | n + 1, h => by
    obtain ⟨A, a1, a2⟩ := kset_nat (a := a) (n := n) (fun l hl => h l (by omega))
    obtain ⟨x, y, h1, h2, h3, h4⟩ := h n (by omega)
    have ox : A ||| 2 ^ x < 4096 := Nat.or_lt_two_pow (n := 12) a1 (Nat.pow_lt_pow_right (by decide) h1)
    have oy : A ||| 2 ^ y < 4096 := Nat.or_lt_two_pow (n := 12) a1 (Nat.pow_lt_pow_right (by decide) h2)
    rw [kset]
    split
    · exact ⟨_, oy, by rw [a2, h4, jshl1 y (by omega), fa_or]⟩
    · split
      · exact ⟨_, ox, by rw [a2, h3, jshl1 x (by omega), fa_or]⟩
      · exact ⟨A, a1, a2⟩
/-- whose kin, as a number -/
def knO (h : PH) (b t : Nat) : Nat := (gI h (b + 150) t).toNatClampNeg
theorem kn_eq {h : PH} {b t : Nat} (I : Inv b h) (ht : t < 12) : knO h b t < 4096 ∧ gI h (b + 150) t = nI (knO h b t) := by
  obtain ⟨s, cd, c_stat, c_realm, c_book, c_law, c_kin, c_shi, c_roa, c_ord, c_han, c_wei, c_bag, c_pri, c_cnt, c_led, c_yea, c_log, c_rdr, c_msc, c_img⟩ := I
  obtain ⟨hb, _⟩ := c_realm
  obtain ⟨n, n16, _, _, LL, MK⟩ := c_kin
  obtain ⟨A, a1, a2⟩ := kset_nat (C := gI h (b + 20)) (a := t) (n := n) (fun l hl => by
    obtain ⟨x, y, h1, h2, h3, h4, h5⟩ := LL l hl
    exact ⟨x, y, by omega, by omega, h4, h5⟩)
  have e : gI h (b + 150) t = nI A := (MK t ht).trans a2
  have e2 : knO h b t = A := by unfold knO; rw [e, tn_nI (by omega)]
  rw [e2]
  exact ⟨a1, e⟩
theorem cl_kin {h hh : PH} {b t : Nat} (I : Inv b h) (tt : Sn DYN b h hh) (ht : t < 12) : f_Land_kinOf (b + 1) (nI t) hh = some (nI (knO h b t), hh) := by
  have kn := kn_eq I ht
  obtain ⟨s, cd, c_stat, c_realm, c_book, c_law, c_kin, c_shi, c_roa, c_ord, c_han, c_wei, c_bag, c_pri, c_cnt, c_led, c_yea, c_log, c_rdr, c_msc, c_img⟩ := I
  have K1 : gK h (b + 1) = (0, 1) := s.K 1 (by decide) rfl
  have K19 : gK h (b + 19) = (0, 6) := s.K 19 (by decide) rfl
  have K20 : gK h (b + 20) = (1, 64) := s.K 20 (by decide) rfl
  have R1_3 : gR h (b + 1) 3 = some (b + 19) := s.R 1 3 rfl
  have R19_1 : gR h (b + 19) 1 = some (b + 20) := s.R 19 1 rfl
  obtain ⟨hb, _⟩ := c_realm
  obtain ⟨n, n16, ⟨W0, N2⟩, _, LL, MK⟩ := c_kin
  have k1 : gK hh (b + 1) = (0, 1) := by rw [tt.1]; exact K1
  have k19 : gK hh (b + 19) = (0, 6) := by rw [tt.1]; exact K19
  have k20 : gK hh (b + 20) = (1, 64) := by rw [tt.1]; exact K20
  have r1 : gR hh (b + 1) 3 = some (b + 19) := by rw [tt.2.1]; exact R1_3
  have r19 : gR hh (b + 19) 1 = some (b + 20) := by rw [tt.2.1]; exact R19_1
  have w0 : gI hh (b + 19) 0 = nI 4 := by rw [tt.I (by decide)]; exact W0
  have n2 : gI hh (b + 19) 2 = nI n := by rw [tt.I (by decide)]; exact N2
  have key := lp (fun N (s : Int32) i => f_Land_kinOf_4 N (b + 1) (nI t) s (nI i) hh) (fun i s => if gI h (b + 20) (4 * i) = nI t then s ||| jshl 1 (gI h (b + 20) (4 * i + 1)) else if gI h (b + 20) (4 * i + 1) = nI t then s ||| jshl 1 (gI h (b + 20) (4 * i)) else s) (fun i s => s = kset (gI h (b + 20)) t i) n (fun s => some (s, hh))
    (fun N i s hi _ => by
      have e2 : ¬ n ≤ i := by omega
      have c20 : ∀ j, j < 64 → gI hh (b + 20) j = gI h (b + 20) j := fun j hj => tt.I (disj_ok (M := U_kin) (by decide) (inL_in (lo := 0) (hi := 64) (by decide) (by omega) hj))
      have g0 : f_Row_get (b + 19) (nI i) 0 hh = some (gI h (b + 20) (4 * i), hh) := by
        have := row_get (w := 4) (l := i) (i := 0) k19 r19 k20 w0 n2 hi (by omega) (by omega) (by omega) (by omega)
        rw [Nat.mul_comm i 4] at this
        have this : f_Row_get (b + 19) (nI i) 0 hh = some (gI hh (b + 20) (4 * i), hh) := this
        rw [c20 _ (by omega)] at this
        exact this
      have g1 : f_Row_get (b + 19) (nI i) 1 hh = some (gI h (b + 20) (4 * i + 1), hh) := by
        have := row_get (w := 4) (l := i) (i := 1) k19 r19 k20 w0 n2 hi (by omega) (by omega) (by omega) (by omega)
        rw [Nat.mul_comm i 4] at this
        have this : f_Row_get (b + 19) (nI i) 1 hh = some (gI hh (b + 20) (4 * i + 1), hh) := this
        rw [c20 _ (by omega)] at this
        exact this
      rw [f_Land_kinOf_4]
      generalize gI h (b + 20) (4 * i) = X at *
      generalize gI h (b + 20) (4 * i + 1) = Y at *
      by_cases q : X = nI t
      · have q' : (X = nI t) = True := eq_true q
        simp (disch := omega) only [↓ob_eq, ob_so, ldI, ldR, ldO, stI, stZ, stR, isO, wrA_n, rdA_n, wrA_l, rdA_l, gK_sI, gR_sI, gX_sI, gN_sI, gK_cp, gR_cp, gX_cp, gN_cp, rtZ_0, rtZ_1, if_true, reduceIte, and_self, true_and, and_true, k1, k19, r1, n2, e2, g0, g1, q', nI_le', nI_addL, if_false]
      · by_cases q2 : Y = nI t
        · have q2' : (Y = nI t) = True := eq_true q2
          simp (disch := omega) only [↓ob_eq, ob_so, ldI, ldR, ldO, stI, stZ, stR, isO, wrA_n, rdA_n, wrA_l, rdA_l, gK_sI, gR_sI, gX_sI, gN_sI, gK_cp, gR_cp, gX_cp, gN_cp, rtZ_0, rtZ_1, if_true, reduceIte, and_self, true_and, and_true, k1, k19, r1, n2, e2, g0, g1, q, q2', nI_le', nI_addL, if_false]
        · simp (disch := omega) only [↓ob_eq, ob_so, ldI, ldR, ldO, stI, stZ, stR, isO, wrA_n, rdA_n, wrA_l, rdA_l, gK_sI, gR_sI, gX_sI, gN_sI, gK_cp, gR_cp, gX_cp, gN_cp, rtZ_0, rtZ_1, if_true, reduceIte, and_self, true_and, and_true, k1, k19, r1, n2, e2, g0, g1, q, q2, nI_le', nI_addL, if_false])
    (fun i s hi q => by subst q; rfl)
    (fun N s q => by
      rw [f_Land_kinOf_4]
      simp (disch := omega) only [↓ob_eq, ob_so, ldI, ldR, ldO, stI, stZ, stR, isO, wrA_n, rdA_n, wrA_l, rdA_l, gK_sI, gR_sI, gX_sI, gN_sI, gK_cp, gR_cp, gX_cp, gN_cp, rtZ_0, rtZ_1, if_true, reduceIte, and_self, true_and, and_true, k1, k19, r1, n2, nI_le', Nat.le_refl])
    n 0 0 FU (by omega) rfl (by rw [FU_eq]; omega)
  have k1 := key.1
  rw [key.2, ← MK t ht, kn.2] at k1
  exact k1
/-- what is asked -/
def askv (h : PH) (b : Nat) (g : Nat → Int32) (t : Nat) (o : Option Nat) (a : Nat) : Int32 :=
  if a = 0 then gI h (b + 135) t else if a = 1 then gI h (b + 136) t else if a = 2 then g (19 + t) else if a = 3 then g (7 + t) else if a = 4 then jrem (g 0) 24 else if a = 5 then jmax 0 (g (31 + t) - 1)
  else if a = 6 then (match o with
    | none => 0
    | some o => gI h (b + 137) o) else if a = 7 then (match o with
    | none => 0
    | some o => gI h (b + 138) o) else if a = 8 then (match o with
    | none => 0
    | some o => g (73 + o)) else nI (pcd (knO h b t &&& bs (ntOf h b) (fun t => g (43 + t) == 1)))
def oc : Option Nat → Int32
  | none => -1
  | some o => nI o
/-- a realm's shape -/
def RS (h : PH) (b r : Nat) : Prop := (gK h (b + r) = (0, 5) ∧ gK h (b + (r + 1)) = (1, 12) ∧ gK h (b + (r + 2)) = (1, 12) ∧ gK h (b + (r + 3)) = (1, 12) ∧ gK h (b + (r + 4)) = (1, 12) ∧ gK h (b + (r + 5)) = (1, 12) ∧ gK h (b + (r + 6)) = (1, 6) ∧ gK h (b + (r + 7)) = (1, 6) ∧ gK h (b + (r + 8)) = (1, 6) ∧ gK h (b + (r + 9)) = (1, 6)) ∧ gR h (b + r) 2 = some (b + (r + 1)) ∧ gR h (b + r) 3 = some (b + (r + 2)) ∧ gR h (b + r) 4 = some (b + (r + 3)) ∧ gR h (b + r) 5 = some (b + (r + 4)) ∧ gR h (b + r) 6 = some (b + (r + 5)) ∧ gR h (b + r) 10 = some (b + (r + 6)) ∧ gR h (b + r) 11 = some (b + (r + 7)) ∧ gR h (b + r) 12 = some (b + (r + 8)) ∧ gR h (b + r) 13 = some (b + (r + 9))
theorem RS_of {h : PH} {b : Nat} (s : Shp h b) : RS h b 2 ∧ RS h b 114 :=
  ⟨⟨⟨s.K 2 (by decide) rfl, s.K 3 (by decide) rfl, s.K 4 (by decide) rfl, s.K 5 (by decide) rfl, s.K 6 (by decide) rfl, s.K 7 (by decide) rfl, s.K 8 (by decide) rfl, s.K 9 (by decide) rfl, s.K 10 (by decide) rfl, s.K 11 (by decide) rfl⟩, s.R 2 2 rfl, s.R 2 3 rfl, s.R 2 4 rfl, s.R 2 5 rfl, s.R 2 6 rfl, s.R 2 10 rfl, s.R 2 11 rfl, s.R 2 12 rfl, s.R 2 13 rfl⟩,
   ⟨⟨s.K 114 (by decide) rfl, s.K 115 (by decide) rfl, s.K 116 (by decide) rfl, s.K 117 (by decide) rfl, s.K 118 (by decide) rfl, s.K 119 (by decide) rfl, s.K 120 (by decide) rfl, s.K 121 (by decide) rfl, s.K 122 (by decide) rfl, s.K 123 (by decide) rfl⟩, s.R 114 2 rfl, s.R 114 3 rfl, s.R 114 4 rfl, s.R 114 5 rfl, s.R 114 6 rfl, s.R 114 10 rfl, s.R 114 11 rfl, s.R 114 12 rfl, s.R 114 13 rfl⟩⟩
theorem RS_r {h hh : PH} {b r : Nat} {L : SL} (s : Shp h b) (t : Sn L b h hh) (hr : r = 2 ∨ r = 114) : RS hh b r := by
  have s2 := s.sn t
  rcases hr with rfl | rfl
  · exact (RS_of s2).1
  · exact (RS_of s2).2
/-- the realm at r is the row g -/
def Rl (h hh : PH) (b r : Nat) (g : Nat → Int32) : Prop := RealmAt hh b r (ntOf h b) (noOf h b) (gI h (b + 135)) (gI h (b + 136)) (gI h (b + 137)) (gI h (b + 138)) g
def Rw (hh : PH) (b : Nat) (g : Nat → Int32) : Prop := ∀ j, j < 79 → gI hh (b + 132) j = g j
theorem rd_at {h : PH} {a n k : Nat} {v : Int32} (K : gK h a = (1, n)) (hk : k < n) (hn : n ≤ 1200) (e : gI h a k = v) : rdA h a (nI k) = some v := by
  rw [rdA_n (by omega), K, if_pos ⟨rfl, hk⟩, e]
theorem wr_at {h : PH} {a n k : Nat} {v : Int32} (K : gK h a = (1, n)) (hk : k < n) (hn : n ≤ 1200) : wrA h a (nI k) v = some (sI h a k v) := by
  rw [wrA_n (by omega), K, if_pos ⟨rfl, hk⟩]
theorem cl_ask {h hh : PH} {b r t : Nat} {o : Option Nat} {g : Nat → Int32} (I : Inv b h) (tt : Sn DYN b h hh) (hr : r = 2 ∨ r = 114) (rl : Rl h hh b r g) (ht : t < ntOf h b) (ho : ∀ o', o = some o' → o' < noOf h b) : ∃ h', Sn [(17, 0, 10)] b hh h' ∧ (∀ a, a < 10 → gI h' (b + 17) a = askv h b g t o a) ∧ f_Law_ask (b + 13) (b + r) (nI t) (oc o) (nI (pcd (knO h b t &&& bs (ntOf h b) (fun t => g (43 + t) == 1)))) hh = some h' := by
  obtain ⟨s, cd, c_stat, c_realm, c_book, c_law, c_kin, c_shi, c_roa, c_ord, c_han, c_wei, c_bag, c_pri, c_cnt, c_led, c_yea, c_log, c_rdr, c_msc, c_img⟩ := I
  have K13 : gK h (b + 13) = (0, 2) := s.K 13 (by decide) rfl
  have K17 : gK h (b + 17) = (1, 10) := s.K 17 (by decide) rfl
  have R13_3 : gR h (b + 13) 3 = some (b + 17) := s.R 13 3 rfl
  obtain ⟨⟨k0, k1, k2, k3, k4, k5, k6, k7, k8, k9⟩, q2, q3, q4, q5, q6, q10, q11, q12, q13⟩ := RS_r s tt hr
  obtain ⟨⟨hnt, hno⟩, _⟩ := c_realm
  obtain ⟨F1, F9, F0, F15, F16, F17, F18, F19, F14, F7, F8, RT, RO⟩ := rl
  obtain ⟨r1, r2, r3, r4, r5⟩ := RT t ht
  have k13 : gK hh (b + 13) = (0, 2) := by rw [tt.1]; exact K13
  have k17 : gK hh (b + 17) = (1, 10) := by rw [tt.1]; exact K17
  have r13 : gR hh (b + 13) 3 = some (b + 17) := by rw [tt.2.1]; exact R13_3
  have e0 : ¬ nI t < 0 := nI_pos (by omega)
  have e1 : ¬ ntOf h b ≤ t := by omega
  have t12 : t < 12 := by omega
  have iT : f_Realm_isTraveller (b + r) (nI t) hh = some (1, hh) := by
    simp (disch := omega) [f_Realm_isTraveller, ↓ob_eq, ob_so, ldI, ldR, ldO, stI, stZ, stR, isO, wrA_n, rdA_n, wrA_l, rdA_l, gK_sI, gR_sI, gX_sI, gN_sI, gK_cp, gR_cp, gX_cp, gN_cp, rtZ_0, rtZ_1, if_true, reduceIte, and_self, true_and, and_true, k0, F1, e0, e1, nI_le']
  have rm : rmI (gI hh (b + r) 18) 24 = some (jrem (g 0) 24) := by
    unfold rmI; rw [if_neg (by decide), F18]
  obtain ⟨A, hAd⟩ : ∃ A, A = askv h b g t o := ⟨_, rfl⟩
  refine ⟨sI (sI (sI (sI (sI (sI (sI (sI (sI (sI hh (b + 17) 0 (A 0)) (b + 17) 1 (A 1)) (b + 17) 2 (A 2)) (b + 17) 3 (A 3)) (b + 17) 4 (A 4)) (b + 17) 5 (A 5)) (b + 17) 6 (A 6)) (b + 17) 7 (A 7)) (b + 17) 8 (A 8)) (b + 17) 9 (A 9), ?_, fun a ha => ?_, ?_⟩
  · exact (((((((((Sn.rf.put 17 0 _ (by decide)).put 17 1 _ (by decide)).put 17 2 _ (by decide)).put 17 3 _ (by decide)).put 17 4 _ (by decide)).put 17 5 _ (by decide)).put 17 6 _ (by decide)).put 17 7 _ (by decide)).put 17 8 _ (by decide)).put 17 9 _ (by decide)
  · rw [← hAd]
    have : a = 0 ∨ a = 1 ∨ a = 2 ∨ a = 3 ∨ a = 4 ∨ a = 5 ∨ a = 6 ∨ a = 7 ∨ a = 8 ∨ a = 9 := by omega
    rcases this with rfl | rfl | rfl | rfl | rfl | rfl | rfl | rfl | rfl | rfl <;> simp (disch := omega) only [gI_q, gI_n1, gI_n2]
  · have a0 : A 0 = gI h (b + 135) t := by rw [hAd]; rfl
    have a1 : A 1 = gI h (b + 136) t := by rw [hAd]; rfl
    have a2 : A 2 = g (19 + t) := by rw [hAd]; rfl
    have a3 : A 3 = g (7 + t) := by rw [hAd]; rfl
    have a4 : A 4 = jrem (g 0) 24 := by rw [hAd]; rfl
    have a5 : A 5 = jmax 0 (g (31 + t) - 1) := by rw [hAd]; rfl
    have a9 : A 9 = nI (pcd (knO h b t &&& bs (ntOf h b) (fun t => g (43 + t) == 1))) := by rw [hAd]; rfl
    have G : ∀ (hz : PH) k v o' j, o' ≠ 17 → gI (sI hz (b + 17) k v) (b + o') j = gI hz (b + o') j := fun hz k v o' j ho' => gI_n1 (by omega)
    have r1 := r1.trans a0.symm
    have r2 := r2.trans a1.symm
    have r3 := r3.trans a3.symm
    have r4 := r4.trans a2.symm
    have rm : rmI (gI hh (b + r) 18) 24 = some (A 4) := by rw [rm, a4]
    have j5 : jmax 0 (gI hh (b + (r + 5)) t) = A 5 := by rw [r5, a5]
    rw [← a9]
    cases o with
    | none =>
      have a6 : A 6 = 0 := by rw [hAd]; rfl
      have a7 : A 7 = 0 := by rw [hAd]; rfl
      have a8 : A 8 = 0 := by rw [hAd]; rfl
      have iO : f_Realm_isOfficer (b + r) (oc none) hh = some (0, hh) := by
        have z : (-1 : Int32) < 0 := by decide
        simp [f_Realm_isOfficer, oc, z, ↓ob_eq, ob_so, ldI, ldR, ldO, stI, stZ, stR, isO, wrA_n, rdA_n, wrA_l, rdA_l, gK_sI, gR_sI, gX_sI, gN_sI, gK_cp, gR_cp, gX_cp, gN_cp, rtZ_0, rtZ_1, if_true, reduceIte, and_self, true_and, and_true]
      rw [a6, a7, a8]
      have y0 : wrA hh (b + 17) 0 (A 0) = some (sI hh (b + 17) 0 (A 0)) := wr_at (k := 0) (n := 10) k17 (by decide) (by decide)
      have y1 : wrA (sI hh (b + 17) 0 (A 0)) (b + 17) 1 (A 1) = some (sI (sI hh (b + 17) 0 (A 0)) (b + 17) 1 (A 1)) := wr_at (k := 1) (n := 10) k17 (by decide) (by decide)
      have y2 : wrA (sI (sI hh (b + 17) 0 (A 0)) (b + 17) 1 (A 1)) (b + 17) 2 (A 2) = some (sI (sI (sI hh (b + 17) 0 (A 0)) (b + 17) 1 (A 1)) (b + 17) 2 (A 2)) := wr_at (k := 2) (n := 10) k17 (by decide) (by decide)
      have y3 : wrA (sI (sI (sI hh (b + 17) 0 (A 0)) (b + 17) 1 (A 1)) (b + 17) 2 (A 2)) (b + 17) 3 (A 3) = some (sI (sI (sI (sI hh (b + 17) 0 (A 0)) (b + 17) 1 (A 1)) (b + 17) 2 (A 2)) (b + 17) 3 (A 3)) := wr_at (k := 3) (n := 10) k17 (by decide) (by decide)
      have y4 : wrA (sI (sI (sI (sI hh (b + 17) 0 (A 0)) (b + 17) 1 (A 1)) (b + 17) 2 (A 2)) (b + 17) 3 (A 3)) (b + 17) 4 (A 4) = some (sI (sI (sI (sI (sI hh (b + 17) 0 (A 0)) (b + 17) 1 (A 1)) (b + 17) 2 (A 2)) (b + 17) 3 (A 3)) (b + 17) 4 (A 4)) := wr_at (k := 4) (n := 10) k17 (by decide) (by decide)
      have y5 : wrA (sI (sI (sI (sI (sI hh (b + 17) 0 (A 0)) (b + 17) 1 (A 1)) (b + 17) 2 (A 2)) (b + 17) 3 (A 3)) (b + 17) 4 (A 4)) (b + 17) 5 (A 5) = some (sI (sI (sI (sI (sI (sI hh (b + 17) 0 (A 0)) (b + 17) 1 (A 1)) (b + 17) 2 (A 2)) (b + 17) 3 (A 3)) (b + 17) 4 (A 4)) (b + 17) 5 (A 5)) := wr_at (k := 5) (n := 10) k17 (by decide) (by decide)
      have y6 : wrA (sI (sI (sI (sI (sI (sI hh (b + 17) 0 (A 0)) (b + 17) 1 (A 1)) (b + 17) 2 (A 2)) (b + 17) 3 (A 3)) (b + 17) 4 (A 4)) (b + 17) 5 (A 5)) (b + 17) 6 0 = some (sI (sI (sI (sI (sI (sI (sI hh (b + 17) 0 (A 0)) (b + 17) 1 (A 1)) (b + 17) 2 (A 2)) (b + 17) 3 (A 3)) (b + 17) 4 (A 4)) (b + 17) 5 (A 5)) (b + 17) 6 0) := wr_at (k := 6) (n := 10) k17 (by decide) (by decide)
      have y7 : wrA (sI (sI (sI (sI (sI (sI (sI hh (b + 17) 0 (A 0)) (b + 17) 1 (A 1)) (b + 17) 2 (A 2)) (b + 17) 3 (A 3)) (b + 17) 4 (A 4)) (b + 17) 5 (A 5)) (b + 17) 6 0) (b + 17) 7 0 = some (sI (sI (sI (sI (sI (sI (sI (sI hh (b + 17) 0 (A 0)) (b + 17) 1 (A 1)) (b + 17) 2 (A 2)) (b + 17) 3 (A 3)) (b + 17) 4 (A 4)) (b + 17) 5 (A 5)) (b + 17) 6 0) (b + 17) 7 0) := wr_at (k := 7) (n := 10) k17 (by decide) (by decide)
      have y8 : wrA (sI (sI (sI (sI (sI (sI (sI (sI hh (b + 17) 0 (A 0)) (b + 17) 1 (A 1)) (b + 17) 2 (A 2)) (b + 17) 3 (A 3)) (b + 17) 4 (A 4)) (b + 17) 5 (A 5)) (b + 17) 6 0) (b + 17) 7 0) (b + 17) 8 0 = some (sI (sI (sI (sI (sI (sI (sI (sI (sI hh (b + 17) 0 (A 0)) (b + 17) 1 (A 1)) (b + 17) 2 (A 2)) (b + 17) 3 (A 3)) (b + 17) 4 (A 4)) (b + 17) 5 (A 5)) (b + 17) 6 0) (b + 17) 7 0) (b + 17) 8 0) := wr_at (k := 8) (n := 10) k17 (by decide) (by decide)
      have y9 : wrA (sI (sI (sI (sI (sI (sI (sI (sI (sI hh (b + 17) 0 (A 0)) (b + 17) 1 (A 1)) (b + 17) 2 (A 2)) (b + 17) 3 (A 3)) (b + 17) 4 (A 4)) (b + 17) 5 (A 5)) (b + 17) 6 0) (b + 17) 7 0) (b + 17) 8 0) (b + 17) 9 (A 9) = some (sI (sI (sI (sI (sI (sI (sI (sI (sI (sI hh (b + 17) 0 (A 0)) (b + 17) 1 (A 1)) (b + 17) 2 (A 2)) (b + 17) 3 (A 3)) (b + 17) 4 (A 4)) (b + 17) 5 (A 5)) (b + 17) 6 0) (b + 17) 7 0) (b + 17) 8 0) (b + 17) 9 (A 9)) := wr_at (k := 9) (n := 10) k17 (by decide) (by decide)
      simp (disch := omega) only [f_Law_ask, f_Law_ask_114, f_Law_ask_136, f_Law_ask_158, ↓ob_eq, ob_so, ldI, ldR, isO, rdA_n, gK_sI, gR_sI, if_true, reduceIte, and_self, true_and, and_true, y0, y1, y2, y3, y4, y5, y6, y7, y8, y9, k0, k1, k2, k3, k4, k5, k13, k17, r13, q2, q3, q4, q5, q6, iT, iO, t12, r1, r2, r3, r4, j5, G, rm, show ¬ (1 : Int32) = 0 from by decide, if_false]
    | some o =>
      have ho2 := ho o rfl
      obtain ⟨p1, p2, p3, p4⟩ := RO o ho2
      have a6 : A 6 = gI h (b + 137) o := by rw [hAd]; rfl
      have a7 : A 7 = gI h (b + 138) o := by rw [hAd]; rfl
      have a8 : A 8 = g (73 + o) := by rw [hAd]; rfl
      have p2 := p2.trans a6.symm
      have p3 := p3.trans a7.symm
      have p4 := p4.trans a8.symm
      have f0 : ¬ nI o < 0 := nI_pos (by omega)
      have f1 : ¬ noOf h b ≤ o := by omega
      have o6 : o < 6 := by omega
      have iO : f_Realm_isOfficer (b + r) (oc (some o)) hh = some (1, hh) := by
        show f_Realm_isOfficer (b + r) (nI o) hh = some (1, hh)
        simp (disch := omega) [f_Realm_isOfficer, ↓ob_eq, ob_so, ldI, ldR, ldO, stI, stZ, stR, isO, wrA_n, rdA_n, wrA_l, rdA_l, gK_sI, gR_sI, gX_sI, gN_sI, gK_cp, gR_cp, gX_cp, gN_cp, rtZ_0, rtZ_1, if_true, reduceIte, and_self, true_and, and_true, k0, F9, f0, f1, nI_le']
      have eo : oc (some o) = nI o := rfl
      rw [eo] at iO ⊢
      have y0 : wrA hh (b + 17) 0 (A 0) = some (sI hh (b + 17) 0 (A 0)) := wr_at (k := 0) (n := 10) k17 (by decide) (by decide)
      have y1 : wrA (sI hh (b + 17) 0 (A 0)) (b + 17) 1 (A 1) = some (sI (sI hh (b + 17) 0 (A 0)) (b + 17) 1 (A 1)) := wr_at (k := 1) (n := 10) k17 (by decide) (by decide)
      have y2 : wrA (sI (sI hh (b + 17) 0 (A 0)) (b + 17) 1 (A 1)) (b + 17) 2 (A 2) = some (sI (sI (sI hh (b + 17) 0 (A 0)) (b + 17) 1 (A 1)) (b + 17) 2 (A 2)) := wr_at (k := 2) (n := 10) k17 (by decide) (by decide)
      have y3 : wrA (sI (sI (sI hh (b + 17) 0 (A 0)) (b + 17) 1 (A 1)) (b + 17) 2 (A 2)) (b + 17) 3 (A 3) = some (sI (sI (sI (sI hh (b + 17) 0 (A 0)) (b + 17) 1 (A 1)) (b + 17) 2 (A 2)) (b + 17) 3 (A 3)) := wr_at (k := 3) (n := 10) k17 (by decide) (by decide)
      have y4 : wrA (sI (sI (sI (sI hh (b + 17) 0 (A 0)) (b + 17) 1 (A 1)) (b + 17) 2 (A 2)) (b + 17) 3 (A 3)) (b + 17) 4 (A 4) = some (sI (sI (sI (sI (sI hh (b + 17) 0 (A 0)) (b + 17) 1 (A 1)) (b + 17) 2 (A 2)) (b + 17) 3 (A 3)) (b + 17) 4 (A 4)) := wr_at (k := 4) (n := 10) k17 (by decide) (by decide)
      have y5 : wrA (sI (sI (sI (sI (sI hh (b + 17) 0 (A 0)) (b + 17) 1 (A 1)) (b + 17) 2 (A 2)) (b + 17) 3 (A 3)) (b + 17) 4 (A 4)) (b + 17) 5 (A 5) = some (sI (sI (sI (sI (sI (sI hh (b + 17) 0 (A 0)) (b + 17) 1 (A 1)) (b + 17) 2 (A 2)) (b + 17) 3 (A 3)) (b + 17) 4 (A 4)) (b + 17) 5 (A 5)) := wr_at (k := 5) (n := 10) k17 (by decide) (by decide)
      have y6 : wrA (sI (sI (sI (sI (sI (sI hh (b + 17) 0 (A 0)) (b + 17) 1 (A 1)) (b + 17) 2 (A 2)) (b + 17) 3 (A 3)) (b + 17) 4 (A 4)) (b + 17) 5 (A 5)) (b + 17) 6 (A 6) = some (sI (sI (sI (sI (sI (sI (sI hh (b + 17) 0 (A 0)) (b + 17) 1 (A 1)) (b + 17) 2 (A 2)) (b + 17) 3 (A 3)) (b + 17) 4 (A 4)) (b + 17) 5 (A 5)) (b + 17) 6 (A 6)) := wr_at (k := 6) (n := 10) k17 (by decide) (by decide)
      have y7 : wrA (sI (sI (sI (sI (sI (sI (sI hh (b + 17) 0 (A 0)) (b + 17) 1 (A 1)) (b + 17) 2 (A 2)) (b + 17) 3 (A 3)) (b + 17) 4 (A 4)) (b + 17) 5 (A 5)) (b + 17) 6 (A 6)) (b + 17) 7 (A 7) = some (sI (sI (sI (sI (sI (sI (sI (sI hh (b + 17) 0 (A 0)) (b + 17) 1 (A 1)) (b + 17) 2 (A 2)) (b + 17) 3 (A 3)) (b + 17) 4 (A 4)) (b + 17) 5 (A 5)) (b + 17) 6 (A 6)) (b + 17) 7 (A 7)) := wr_at (k := 7) (n := 10) k17 (by decide) (by decide)
      have y8 : wrA (sI (sI (sI (sI (sI (sI (sI (sI hh (b + 17) 0 (A 0)) (b + 17) 1 (A 1)) (b + 17) 2 (A 2)) (b + 17) 3 (A 3)) (b + 17) 4 (A 4)) (b + 17) 5 (A 5)) (b + 17) 6 (A 6)) (b + 17) 7 (A 7)) (b + 17) 8 (A 8) = some (sI (sI (sI (sI (sI (sI (sI (sI (sI hh (b + 17) 0 (A 0)) (b + 17) 1 (A 1)) (b + 17) 2 (A 2)) (b + 17) 3 (A 3)) (b + 17) 4 (A 4)) (b + 17) 5 (A 5)) (b + 17) 6 (A 6)) (b + 17) 7 (A 7)) (b + 17) 8 (A 8)) := wr_at (k := 8) (n := 10) k17 (by decide) (by decide)
      have y9 : wrA (sI (sI (sI (sI (sI (sI (sI (sI (sI hh (b + 17) 0 (A 0)) (b + 17) 1 (A 1)) (b + 17) 2 (A 2)) (b + 17) 3 (A 3)) (b + 17) 4 (A 4)) (b + 17) 5 (A 5)) (b + 17) 6 (A 6)) (b + 17) 7 (A 7)) (b + 17) 8 (A 8)) (b + 17) 9 (A 9) = some (sI (sI (sI (sI (sI (sI (sI (sI (sI (sI hh (b + 17) 0 (A 0)) (b + 17) 1 (A 1)) (b + 17) 2 (A 2)) (b + 17) 3 (A 3)) (b + 17) 4 (A 4)) (b + 17) 5 (A 5)) (b + 17) 6 (A 6)) (b + 17) 7 (A 7)) (b + 17) 8 (A 8)) (b + 17) 9 (A 9)) := wr_at (k := 9) (n := 10) k17 (by decide) (by decide)
      simp (disch := omega) only [f_Law_ask, f_Law_ask_114, f_Law_ask_136, f_Law_ask_158, ↓ob_eq, ob_so, ldI, ldR, isO, rdA_n, gK_sI, gR_sI, if_true, reduceIte, and_self, true_and, and_true, y0, y1, y2, y3, y4, y5, y6, y7, y8, y9, k0, k1, k2, k3, k4, k5, k6, k7, k8, k9, k13, k17, r13, q2, q3, q4, q5, q6, q11, q12, q13, iT, iO, t12, o6, r1, r2, r3, r4, j5, p2, p3, p4, G, rm, show ¬ (1 : Int32) = 0 from by decide, if_false]
