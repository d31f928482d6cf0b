/-! ===== feed ===== -/
def byt (x : Int32) (z : Int32) : Int32 := jshr x z &&& 255
theorem byt_ok (x z : Int32) : ∃ k, k ≤ 255 ∧ byt x z = nI k := by
  obtain ⟨j, hj, e⟩ := pk_andE (jshr x z) (m := 255) 8 rfl
  exact ⟨j, by omega, e⟩
def up4 (f : Nat → Int32) (n : Nat) (x : Int32) (j : Nat) : Int32 := if j = n + 3 then byt x 0 else if j = n + 2 then byt x 8 else if j = n + 1 then byt x 16 else if j = n then byt x 24 else f j
theorem FigR.bytes {f g : Nat → Int32} (c : FigR 400 400 255 255 f g) (n : Nat) (x : Int32) : FigR 400 400 255 255 (up4 f n x) (up4 g n x) := by
  intro j hj
  unfold up4
  obtain ⟨k0, a0, b0⟩ := byt_ok x 0
  obtain ⟨k1, a1, b1⟩ := byt_ok x 8
  obtain ⟨k2, a2, b2⟩ := byt_ok x 16
  obtain ⟨k3, a3, b3⟩ := byt_ok x 24
  rw [if_pos hj, b0, b1, b2, b3]
  by_cases q0 : j = n + 3
  · rw [if_pos q0, if_pos q0]; exact ⟨k0, a0, rfl, rfl⟩
  · rw [if_neg q0, if_neg q0]
    by_cases q1 : j = n + 2
    · rw [if_pos q1, if_pos q1]; exact ⟨k1, a1, rfl, rfl⟩
    · rw [if_neg q1, if_neg q1]
      by_cases q2 : j = n + 1
      · rw [if_pos q2, if_pos q2]; exact ⟨k2, a2, rfl, rfl⟩
      · rw [if_neg q2, if_neg q2]
        by_cases q3 : j = n
        · rw [if_pos q3, if_pos q3]; exact ⟨k3, a3, rfl, rfl⟩
        · rw [if_neg q3, if_neg q3]
          obtain ⟨k, a, e⟩ := c j hj
          rw [if_pos hj] at a
          exact ⟨k, a, e⟩
/-- four bytes behind what is there -/
def ap (b o k c : Nat) (x : Int32) (n : Nat) (h : PH) : PH := sI (sI (sI (sI (sI (sI (sI (sI h (b + c) n (byt x 24)) (b + o) k (nI (n + 1))) (b + c) (n + 1) (byt x 16)) (b + o) k (nI (n + 2))) (b + c) (n + 2) (byt x 8)) (b + o) k (nI (n + 3))) (b + c) (n + 3) (byt x 0)) (b + o) k (nI (n + 4))
theorem ap_n {b o k c n : Nat} {x : Int32} {h : PH} : gI (ap b o k c x n h) (b + o) k = nI (n + 4) := by
  unfold ap; simp (disch := omega) only [gI_q, gI_n1, gI_n2]
theorem ap_c {b o k c n : Nat} {x : Int32} {h : PH} (hc : c ≠ o) : gI (ap b o k c x n h) (b + c) = up4 (gI h (b + c)) n x := by
  funext j
  unfold ap up4
  by_cases q0 : j = n + 3
  · rw [if_pos q0]; simp (disch := omega) only [gI_q, gI_n1, gI_n2]
  · rw [if_neg q0]
    by_cases q1 : j = n + 2
    · rw [if_pos q1]; simp (disch := omega) only [gI_q, gI_n1, gI_n2]
    · rw [if_neg q1]
      by_cases q2 : j = n + 1
      · rw [if_pos q2]; simp (disch := omega) only [gI_q, gI_n1, gI_n2]
      · rw [if_neg q2]
        by_cases q3 : j = n
        · rw [if_pos q3]; simp (disch := omega) only [gI_q, gI_n1, gI_n2]
        · rw [if_neg q3]; simp (disch := omega) only [gI_q, gI_n1, gI_n2]
theorem ap_o {b o k c n p j : Nat} {x : Int32} {h : PH} (hc : p ≠ c) (ho : p ≠ o ∨ j ≠ k) : gI (ap b o k c x n h) (b + p) j = gI h (b + p) j := by
  unfold ap
  rcases ho with ho | ho
  · simp (disch := omega) only [gI_q, gI_n1, gI_n2]
  · simp (disch := omega) only [gI_q, gI_n1, gI_n2]
theorem ap_sn {L : SL} {b o k c n : Nat} {x : Int32} {h h2 : PH} (t : Sn L b h h2) (hn : n + 4 ≤ 400) (h1 : (c, 0, 400) ∈ L) (h3 : inL L o k = true) : Sn L b h (ap b o k c x n h2) :=
  (((((((t.put c n _ (inL_in h1 (by omega) (by omega))).put o k _ h3).put c (n + 1) _ (inL_in h1 (by omega) (by omega))).put o k _ h3).put c (n + 2) _ (inL_in h1 (by omega) (by omega))).put o k _ h3).put c (n + 3) _ (inL_in h1 (by omega) (by omega))).put o k _ h3
theorem rd_append {b n : Nat} {x : Int32} {h : PH} (K : gK h (b + 102) = (0, 4)) (R : gR h (b + 102) 0 = some (b + 103)) (Kc : gK h (b + 103) = (1, 400)) (N1 : gI h (b + 102) 1 = nI n) (hn : n + 4 ≤ 400) : f_Reader_append (b + 102) x h = some (ap b 102 1 103 x n h) := by
  have st : ∀ N m z h, gK h (b + 102) = (0, 4) → gR h (b + 102) 0 = some (b + 103) → gK h (b + 103) = (1, 400) → gI h (b + 102) 1 = nI m → m < 400 → ¬ z < 0 → f_Reader_append_3 (N + 1) (b + 102) x z h = f_Reader_append_3 N (b + 102) x (z + -8) (sI (sI h (b + 103) m (byt x z)) (b + 102) 1 (nI (m + 1))) := by
    intro N m z h K R Kc N1 hm hz
    have e1 : ¬ 400 ≤ m := by omega
    rw [f_Reader_append_3]
    simp (disch := omega) [lnA, byt, ↓ob_eq, ob_some, ldI, ldR, ldO, stI, stZ, stR, isO, wrA_n, rdA_n, wrA_l, rdA_l, gK_sI, gR_sI, gX_sI, gN_sI, gK_cp, gR_cp, gX_cp, gN_cp, rtZ_0, rtZ_1, if_true, reduceIte, and_self, true_and, and_true, K, R, Kc, N1, hz, e1, hm, nI_le', gI_q, gI_n1, gI_n2, nI_addL]
  have en : ∀ N h, f_Reader_append_3 (N + 1) (b + 102) x (-8) h = some h := fun N h => by
    rw [f_Reader_append_3, if_pos (by decide)]
  unfold f_Reader_append
  refine (st 69999 n 24 h K R Kc N1 (by omega) (by decide)).trans ?_
  refine (st 69998 (n + 1) 16 _ (by exact K) (by exact R) (by exact Kc) (by simp (disch := omega) only [gI_q, gI_n1, gI_n2]) (by omega) (by decide)).trans ?_
  refine (st 69997 (n + 2) 8 _ (by exact K) (by exact R) (by exact Kc) (by simp (disch := omega) only [gI_q, gI_n1, gI_n2]) (by omega) (by decide)).trans ?_
  refine (st 69996 (n + 3) 0 _ (by exact K) (by exact R) (by exact Kc) (by simp (disch := omega) only [gI_q, gI_n1, gI_n2]) (by omega) (by decide)).trans ?_
  exact en 69995 _
theorem mo_types {b n : Nat} {x : Int32} {h : PH} (K : gK h (b + 131) = (0, 9)) (R : gR h (b + 131) 13 = some (b + 140)) (Kc : gK h (b + 140) = (1, 400)) (N1 : gI h (b + 131) 14 = nI n) (hn : n + 4 ≤ 400) : f_Mo_types (b + 131) x h = some (ap b 131 14 140 x n h) := by
  have st : ∀ N m z h, gK h (b + 131) = (0, 9) → gR h (b + 131) 13 = some (b + 140) → gK h (b + 140) = (1, 400) → gI h (b + 131) 14 = nI m → m < 400 → ¬ z < 0 → f_Mo_types_3 (N + 1) (b + 131) x z h = f_Mo_types_3 N (b + 131) x (z + -8) (sI (sI h (b + 140) m (byt x z)) (b + 131) 14 (nI (m + 1))) := by
    intro N m z h K R Kc N1 hm hz
    rw [f_Mo_types_3]
    simp (disch := omega) [byt, ↓ob_eq, ob_some, ldI, ldR, ldO, stI, stZ, stR, isO, wrA_n, rdA_n, wrA_l, rdA_l, gK_sI, gR_sI, gX_sI, gN_sI, gK_cp, gR_cp, gX_cp, gN_cp, rtZ_0, rtZ_1, if_true, reduceIte, and_self, true_and, and_true, K, R, Kc, N1, hz, hm, gI_q, gI_n1, gI_n2, nI_addL]
  have en : ∀ N h, f_Mo_types_3 (N + 1) (b + 131) x (-8) h = some h := fun N h => by
    rw [f_Mo_types_3, if_pos (by decide)]
  unfold f_Mo_types
  refine (st 69999 n 24 h K R Kc N1 (by omega) (by decide)).trans ?_
  refine (st 69998 (n + 1) 16 _ (by exact K) (by exact R) (by exact Kc) (by simp (disch := omega) only [gI_q, gI_n1, gI_n2]) (by omega) (by decide)).trans ?_
  refine (st 69997 (n + 2) 8 _ (by exact K) (by exact R) (by exact Kc) (by simp (disch := omega) only [gI_q, gI_n1, gI_n2]) (by omega) (by decide)).trans ?_
  refine (st 69996 (n + 3) 0 _ (by exact K) (by exact R) (by exact Kc) (by simp (disch := omega) only [gI_q, gI_n1, gI_n2]) (by omega) (by decide)).trans ?_
  exact en 69995 _
theorem op_feed (b : Nat) : B_feed (Inv b) b (b + 131) := by
  intro h I x1 x2 x3 x4 x5
  have I0 := I
  obtain ⟨s, cd, c_stat, c_realm, c_book, c_law, c_kin, c_shi, c_roa, c_ord, c_han, c_wei, c_bag, c_pri, c_cnt, c_led, c_yea, c_log, c_rdr, c_msc, c_img⟩ := I
  have K0 : gK h b = (0, 8) := s.K 0 (by decide) rfl
  have K102 : gK h (b + 102) = (0, 4) := s.K 102 (by decide) rfl
  have K103 : gK h (b + 103) = (1, 400) := s.K 103 (by decide) rfl
  have K131 : gK h (b + 131) = (0, 9) := s.K 131 (by decide) rfl
  have K140 : gK h (b + 140) = (1, 400) := s.K 140 (by decide) rfl
  have R0_2 : gR h b 2 = some (b + 102) := s.R 0 2 rfl
  have R102_0 : gR h (b + 102) 0 = some (b + 103) := s.R 102 0 rfl
  have R131_13 : gR h (b + 131) 13 = some (b + 140) := s.R 131 13 rfl
  obtain ⟨⟨n, hn, m1, m2⟩, q1, q2, q3⟩ := c_rdr
  by_cases hc : n + 20 ≤ 400
  · obtain ⟨c1, hc1⟩ : ∃ c, c = ap b 102 1 103 x1 n h := ⟨_, rfl⟩
    obtain ⟨c2, hc2⟩ : ∃ c, c = ap b 102 1 103 x2 (n + 4) c1 := ⟨_, rfl⟩
    obtain ⟨c3, hc3⟩ : ∃ c, c = ap b 102 1 103 x3 (n + 8) c2 := ⟨_, rfl⟩
    obtain ⟨c4, hc4⟩ : ∃ c, c = ap b 102 1 103 x4 (n + 12) c3 := ⟨_, rfl⟩
    obtain ⟨c5, hc5⟩ : ∃ c, c = ap b 102 1 103 x5 (n + 16) c4 := ⟨_, rfl⟩
    have t1 : Sn [(103, 0, 400), (102, 1, 2)] b h c1 := by rw [hc1]; exact ap_sn Sn.rf (by omega) (by decide) (by decide)
    have t2 : Sn [(103, 0, 400), (102, 1, 2)] b h c2 := by rw [hc2]; exact ap_sn t1 (by omega) (by decide) (by decide)
    have t3 : Sn [(103, 0, 400), (102, 1, 2)] b h c3 := by rw [hc3]; exact ap_sn t2 (by omega) (by decide) (by decide)
    have t4 : Sn [(103, 0, 400), (102, 1, 2)] b h c4 := by rw [hc4]; exact ap_sn t3 (by omega) (by decide) (by decide)
    have t5 : Sn [(103, 0, 400), (102, 1, 2)] b h c5 := by rw [hc5]; exact ap_sn t4 (by omega) (by decide) (by decide)
    have n1 : gI c1 (b + 102) 1 = nI (n + 4) := by rw [hc1]; exact ap_n
    have n2 : gI c2 (b + 102) 1 = nI (n + 8) := by rw [hc2]; exact ap_n
    have n3 : gI c3 (b + 102) 1 = nI (n + 12) := by rw [hc3]; exact ap_n
    have n4 : gI c4 (b + 102) 1 = nI (n + 16) := by rw [hc4]; exact ap_n
    have n5 : gI c5 (b + 102) 1 = nI (n + 20) := by rw [hc5]; exact ap_n
    have a1 : f_Reader_append (b + 102) x1 h = some c1 := by rw [hc1]; exact rd_append K102 R102_0 K103 m1 (by omega)
    have a2 : f_Reader_append (b + 102) x2 c1 = some c2 := by rw [hc2]; exact rd_append (by rw [t1.1]; exact K102) (by rw [t1.2.1]; exact R102_0) (by rw [t1.1]; exact K103) n1 (by omega)
    have a3 : f_Reader_append (b + 102) x3 c2 = some c3 := by rw [hc3]; exact rd_append (by rw [t2.1]; exact K102) (by rw [t2.2.1]; exact R102_0) (by rw [t2.1]; exact K103) n2 (by omega)
    have a4 : f_Reader_append (b + 102) x4 c3 = some c4 := by rw [hc4]; exact rd_append (by rw [t3.1]; exact K102) (by rw [t3.2.1]; exact R102_0) (by rw [t3.1]; exact K103) n3 (by omega)
    have a5 : f_Reader_append (b + 102) x5 c4 = some c5 := by rw [hc5]; exact rd_append (by rw [t4.1]; exact K102) (by rw [t4.2.1]; exact R102_0) (by rw [t4.1]; exact K103) n4 (by omega)
    have hk : gK c1 = gK h ∧ gK c2 = gK h ∧ gK c3 = gK h ∧ gK c4 = gK h ∧ gK c5 = gK h := ⟨t1.1, t2.1, t3.1, t4.1, t5.1⟩
    have hr : gR c1 = gR h ∧ gR c2 = gR h ∧ gR c3 = gR h ∧ gR c4 = gR h ∧ gR c5 = gR h := ⟨t1.2.1, t2.2.1, t3.2.1, t4.2.1, t5.2.1⟩
    have e1 : f_Tc_feed b x1 x2 x3 x4 x5 h = some (nI (n + 20), c5) := by
      simp (disch := omega) [f_Tc_feed, ↓ob_eq, ob_some, ldI, ldR, ldO, stI, stZ, stR, isO, wrA_n, rdA_n, wrA_l, rdA_l, gK_sI, gR_sI, gX_sI, gN_sI, gK_cp, gR_cp, gX_cp, gN_cp, rtZ_0, rtZ_1, if_true, reduceIte, and_self, true_and, and_true, K0, K102, R0_2, m1, nI_addL, nI_leL, hc, a1, a2, a3, a4, a5, hk, hr, n5]
    obtain ⟨d0, hd0⟩ : ∃ c, c = sI c5 (b + 131) 0 0 := ⟨_, rfl⟩
    obtain ⟨d1, hd1⟩ : ∃ c, c = ap b 131 14 140 x1 n d0 := ⟨_, rfl⟩
    obtain ⟨d2, hd2⟩ : ∃ c, c = ap b 131 14 140 x2 (n + 4) d1 := ⟨_, rfl⟩
    obtain ⟨d3, hd3⟩ : ∃ c, c = ap b 131 14 140 x3 (n + 8) d2 := ⟨_, rfl⟩
    obtain ⟨d4, hd4⟩ : ∃ c, c = ap b 131 14 140 x4 (n + 12) d3 := ⟨_, rfl⟩
    obtain ⟨d5, hd5⟩ : ∃ c, c = ap b 131 14 140 x5 (n + 16) d4 := ⟨_, rfl⟩
    have u0 : Sn [(140, 0, 400), (131, 14, 15), (131, 0, 1)] b c5 d0 := by rw [hd0]; exact Sn.rf.put 131 0 0 (by decide)
    have u1 : Sn [(140, 0, 400), (131, 14, 15), (131, 0, 1)] b c5 d1 := by rw [hd1]; exact ap_sn u0 (by omega) (by decide) (by decide)
    have u2 : Sn [(140, 0, 400), (131, 14, 15), (131, 0, 1)] b c5 d2 := by rw [hd2]; exact ap_sn u1 (by omega) (by decide) (by decide)
    have u3 : Sn [(140, 0, 400), (131, 14, 15), (131, 0, 1)] b c5 d3 := by rw [hd3]; exact ap_sn u2 (by omega) (by decide) (by decide)
    have u4 : Sn [(140, 0, 400), (131, 14, 15), (131, 0, 1)] b c5 d4 := by rw [hd4]; exact ap_sn u3 (by omega) (by decide) (by decide)
    have u5 : Sn [(140, 0, 400), (131, 14, 15), (131, 0, 1)] b c5 d5 := by rw [hd5]; exact ap_sn u4 (by omega) (by decide) (by decide)
    have p0 : gI d0 (b + 131) 14 = nI n := by rw [hd0]; simp (disch := omega) only [gI_q, gI_n1, gI_n2]; rw [t5.I (by decide)]; exact m2
    have p1 : gI d1 (b + 131) 14 = nI (n + 4) := by rw [hd1]; exact ap_n
    have p2 : gI d2 (b + 131) 14 = nI (n + 8) := by rw [hd2]; exact ap_n
    have p3 : gI d3 (b + 131) 14 = nI (n + 12) := by rw [hd3]; exact ap_n
    have p4 : gI d4 (b + 131) 14 = nI (n + 16) := by rw [hd4]; exact ap_n
    have p5 : gI d5 (b + 131) 14 = nI (n + 20) := by rw [hd5]; exact ap_n
    have gk : gK d0 = gK h ∧ gK d1 = gK h ∧ gK d2 = gK h ∧ gK d3 = gK h ∧ gK d4 = gK h ∧ gK d5 = gK h := ⟨u0.1.trans t5.1, u1.1.trans t5.1, u2.1.trans t5.1, u3.1.trans t5.1, u4.1.trans t5.1, u5.1.trans t5.1⟩
    have gr : gR d0 = gR h ∧ gR d1 = gR h ∧ gR d2 = gR h ∧ gR d3 = gR h ∧ gR d4 = gR h := ⟨u0.2.1.trans t5.2.1, u1.2.1.trans t5.2.1, u2.2.1.trans t5.2.1, u3.2.1.trans t5.2.1, u4.2.1.trans t5.2.1⟩
    obtain ⟨gk0, gk1, gk2, gk3, gk4, gk5⟩ := gk
    obtain ⟨gr0, gr1, gr2, gr3, gr4⟩ := gr
    have b1 : f_Mo_types (b + 131) x1 d0 = some d1 := by rw [hd1]; exact mo_types (by rw [gk0]; exact K131) (by rw [gr0]; exact R131_13) (by rw [gk0]; exact K140) p0 (by omega)
    have b2 : f_Mo_types (b + 131) x2 d1 = some d2 := by rw [hd2]; exact mo_types (by rw [gk1]; exact K131) (by rw [gr1]; exact R131_13) (by rw [gk1]; exact K140) p1 (by omega)
    have b3 : f_Mo_types (b + 131) x3 d2 = some d3 := by rw [hd3]; exact mo_types (by rw [gk2]; exact K131) (by rw [gr2]; exact R131_13) (by rw [gk2]; exact K140) p2 (by omega)
    have b4 : f_Mo_types (b + 131) x4 d3 = some d4 := by rw [hd4]; exact mo_types (by rw [gk3]; exact K131) (by rw [gr3]; exact R131_13) (by rw [gk3]; exact K140) p3 (by omega)
    have b5 : f_Mo_types (b + 131) x5 d4 = some d5 := by rw [hd5]; exact mo_types (by rw [gk4]; exact K131) (by rw [gr4]; exact R131_13) (by rw [gk4]; exact K140) p4 (by omega)
    have e380 : n ≤ 380 := by omega
    have e2 : f_Mo_feed (b + 131) x1 x2 x3 x4 x5 c5 = some (nI (n + 20), d5) := by
      simp (disch := omega) [f_Mo_feed, ↓ob_eq, ob_some, ldI, ldR, ldO, stI, stZ, stR, isO, wrA_n, rdA_n, wrA_l, rdA_l, gK_sI, gR_sI, gX_sI, gN_sI, gK_cp, gR_cp, gX_cp, gN_cp, rtZ_0, rtZ_1, if_true, reduceIte, and_self, true_and, and_true, hk, K131, ← hd0, p0, e380, nI_leL, b1, b2, b3, b4, b5, gk0, gk1, gk2, gk3, gk4, gk5, p5]
    have t := t5.app u5
    refine both_mk (r := nI (n + 20)) e1 t5 e2 u5 ?_
    have n_rdr : C_rdr d5 b := by
      refine ⟨⟨n + 20, hc, ?_, p5⟩, ?_, ?_, ?_⟩
      · rw [u5.I (by decide)]; exact n5
      · rw [u5.I (by decide), u5.I (by decide), t5.I (by decide), t5.I (by decide)]; exact q1
      · rw [u5.I (by decide), u5.I (by decide), t5.I (by decide), t5.I (by decide)]; exact q2
      · have f1 : gI d5 (b + 103) = up4 (up4 (up4 (up4 (up4 (gI h (b + 103)) n x1) (n + 4) x2) (n + 8) x3) (n + 12) x4) (n + 16) x5 := by
          have : gI d5 (b + 103) = gI c5 (b + 103) := by
            funext j
            rw [hd5, ap_o (by omega) (by omega), hd4, ap_o (by omega) (by omega), hd3, ap_o (by omega) (by omega), hd2, ap_o (by omega) (by omega), hd1, ap_o (by omega) (by omega), hd0]
            simp (disch := omega) only [gI_q, gI_n1, gI_n2]
          rw [this, hc5, ap_c (by omega), hc4, ap_c (by omega), hc3, ap_c (by omega), hc2, ap_c (by omega), hc1, ap_c (by omega)]
        have f2 : gI d5 (b + 140) = up4 (up4 (up4 (up4 (up4 (gI h (b + 140)) n x1) (n + 4) x2) (n + 8) x3) (n + 12) x4) (n + 16) x5 := by
          have : gI d0 (b + 140) = gI h (b + 140) := by
            funext j
            rw [hd0]
            simp (disch := omega) only [gI_q, gI_n1, gI_n2]
            rw [hc5, ap_o (by omega) (by omega), hc4, ap_o (by omega) (by omega), hc3, ap_o (by omega) (by omega), hc2, ap_o (by omega) (by omega), hc1, ap_o (by omega) (by omega)]
          rw [hd5, ap_c (by omega), hd4, ap_c (by omega), hd3, ap_c (by omega), hd2, ap_c (by omega), hd1, ap_c (by omega), this]
        rw [f1, f2]
        exact ((((q3.bytes _ _).bytes _ _).bytes _ _).bytes _ _).bytes _ _
    exact ⟨s.sn t, cd.cg t, c_stat.cg t (by decide), c_realm.cg t (by decide), c_book.cg t (by decide), c_law.cg t (by decide), c_kin.cg t (by decide), c_shi.cg t (by decide), c_roa.cg t (by decide), c_ord.cg t (by decide), c_han.cg t (by decide), c_wei.cg t (by decide), c_bag.cg t (by decide), c_pri.cg t (by decide), c_cnt.cg t (by decide), c_led.cg t (by decide), c_yea.cg t (by decide), c_log.cg t (by decide), n_rdr, c_msc.cg t (by decide), c_img.cg t (by decide)⟩
  · have e380 : ¬ n ≤ 380 := by omega
    exact both_ref I0 (r := -1) (by simp (disch := omega) [f_Tc_feed, ↓ob_eq, ob_some, ldI, ldR, ldO, stI, stZ, stR, isO, wrA_n, rdA_n, wrA_l, rdA_l, gK_sI, gR_sI, gX_sI, gN_sI, gK_cp, gR_cp, gX_cp, gN_cp, rtZ_0, rtZ_1, if_true, reduceIte, and_self, true_and, and_true, K0, K102, R0_2, m1, nI_addL, nI_leL, hc]) (by simp (disch := omega) [f_Mo_feed, ↓ob_eq, ob_some, ldI, ldR, ldO, stI, stZ, stR, isO, wrA_n, rdA_n, wrA_l, rdA_l, gK_sI, gR_sI, gX_sI, gN_sI, gK_cp, gR_cp, gX_cp, gN_cp, rtZ_0, rtZ_1, if_true, reduceIte, and_self, true_and, and_true, K131, gI_q, gI_n1, gI_n2, m2, nI_leL, e380])
