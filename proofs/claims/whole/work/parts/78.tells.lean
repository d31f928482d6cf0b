/-! ===== what the law tells ===== -/
/-- what weighing, acts and hours may change -/
def DYN : SL := [(2, 0, 20), (3, 0, 12), (4, 0, 12), (5, 0, 12), (6, 0, 12), (7, 0, 12), (8, 0, 6), (9, 0, 6), (10, 0, 6), (11, 0, 6), (12, 0, 600), (17, 0, 10), (18, 0, 32), (40, 1, 3), (42, 0, 20), (43, 0, 12), (44, 0, 12), (45, 0, 12), (46, 0, 12), (47, 0, 12), (48, 0, 6), (49, 0, 6), (50, 0, 6), (51, 0, 6), (52, 0, 20), (53, 0, 12), (54, 0, 12), (55, 0, 12), (56, 0, 12), (57, 0, 12), (58, 0, 6), (59, 0, 6), (60, 0, 6), (61, 0, 6), (62, 0, 20), (63, 0, 12), (64, 0, 12), (65, 0, 12), (66, 0, 12), (67, 0, 12), (68, 0, 6), (69, 0, 6), (70, 0, 6), (71, 0, 6), (72, 0, 20), (73, 0, 12), (74, 0, 12), (75, 0, 12), (76, 0, 12), (77, 0, 12), (78, 0, 6), (79, 0, 6), (80, 0, 6), (81, 0, 6), (82, 0, 20), (83, 0, 12), (84, 0, 12), (85, 0, 12), (86, 0, 12), (87, 0, 12), (88, 0, 6), (89, 0, 6), (90, 0, 6), (91, 0, 6), (92, 0, 20), (93, 0, 12), (94, 0, 12), (95, 0, 12), (96, 0, 12), (97, 0, 12), (98, 0, 6), (99, 0, 6), (100, 0, 6), (101, 0, 6), (114, 0, 20), (115, 0, 12), (116, 0, 12), (117, 0, 12), (118, 0, 12), (119, 0, 12), (120, 0, 6), (121, 0, 6), (122, 0, 6), (123, 0, 6), (131, 0, 1), (131, 3, 4), (131, 5, 6), (132, 0, 79), (133, 0, 474), (134, 0, 79), (139, 0, 600), (153, 0, 10), (154, 0, 420)]
def sgv (mo ma A : Nat → Int32) (f t : Nat) : Int32 := (evs mo ma A (t - f) f []).headD 0
def hld (x m : Int32) : Int32 := if 0 ≤ x then (if x ≤ m then x else m) else 0
theorem cl_held (x m : Int32) (h : PH) : f_Tc_held x m h = some (hld x m, h) := by
  unfold f_Tc_held hld
  by_cases q : 0 ≤ x
  · rw [if_pos q, if_pos q]
    have e : jmin x m = if x ≤ m then x else m := by
      unfold jmin
      by_cases q2 : x ≤ m
      · have q3 : ¬ m < x := by rw [fa_lt]; rw [fa_le] at q2; omega
        rw [if_pos q2, if_neg q3]
      · have q3 : m < x := by rw [fa_lt]; rw [fa_le] at q2; omega
        rw [if_neg q2, if_pos q3]
    rw [e]
  · rw [if_neg q, if_neg q]
theorem mo_held (a : Nat) (x m : Int32) (h : PH) : f_Mo_held a x 0 m h = some (hld x m, h) := by
  unfold f_Mo_held hld
  by_cases q : 0 ≤ x
  · rw [if_pos q, if_pos q]
    by_cases q2 : x ≤ m
    · rw [if_pos q2, if_pos q2]
    · rw [if_neg q2, if_neg q2]
  · rw [if_neg q, if_neg q]
theorem hld_bd (x : Int32) (m : Nat) (hm : m ≤ 1000) : ∃ v, v ≤ m ∧ hld x (nI m) = nI v := by
  unfold hld
  by_cases q : 0 ≤ x
  · rw [if_pos q]
    by_cases q2 : x ≤ nI m
    · rw [if_pos q2]
      have q3 : ¬ x < 0 := by
        rw [fa_lt]; rw [fa_le] at q
        omega
      obtain ⟨k, hk, rfl⟩ := nI_of q3
      exact ⟨k, (nI_le' (by omega) (by omega)).mp q2, rfl⟩
    · rw [if_neg q2]; exact ⟨m, Nat.le_refl _, rfl⟩
  · rw [if_neg q]; exact ⟨0, Nat.zero_le _, rfl⟩
theorem hld_id {v m : Nat} (h : v ≤ m) (hm : m ≤ 1000) : hld (nI v) (nI m) = nI v := by
  unfold hld
  rw [if_pos, if_pos]
  · exact (nI_le' (by omega) (by omega)).mpr h
  · exact (L_len (n := 0) (by omega) (by decide)).mpr (Nat.zero_le _)
/-- a line of the law is the one that tells -/
def tlX (mw mn mt mo ma A : Nat → Int32) (w l : Nat) : Bool := decide (mw l = nI w) && (decide (mn l = mt l) || !decide (sgv mo ma A (mn l).toNatClampNeg (mt l).toNatClampNeg = 0))
def tlV (mf mn mo ma A : Nat → Int32) (w l : Nat) : Int32 := hld (sgv mo ma A (mf l).toNatClampNeg (mn l).toNatClampNeg) (if w = 2 then 1000 else 99)
def tlD (A : Nat → Int32) (w : Nat) : Int32 := if w = 0 then 9 - A 1 else if w = 1 then A 0 + 1 else 500 + 50 * A 6
def tel (h : PH) (b : Nat) (A : Nat → Int32) (w : Nat) : Int32 := fox (fun l (_ : Unit) => tlX (gI h (b + 143)) (gI h (b + 145)) (gI h (b + 146)) (gI h (b + 147)) (gI h (b + 148)) A w l) (fun l _ => tlV (gI h (b + 144)) (gI h (b + 145)) (gI h (b + 147)) (gI h (b + 148)) A w l) (fun _ s => s) (fun _ => tlD A w) 0 (gI h (b + 142) 0).toNatClampNeg ()
theorem seg_one {S : List Nat} {V : List Int32} {x : Nat} (t : TV S V) (e : S = [x]) : ∃ v, V = [v] := by
  subst e
  match V, t with
  | [v], _ => exact ⟨v, rfl⟩
/-- the class reckons a piece of a line -/
theorem cl_reckon {h hh : PH} {b f e x : Nat} {A : Nat → Int32} (I : Inv b h) (t : Sn DYN b h hh) (hA : ∀ a, a < 10 → gI hh (b + 17) a = A a) (fe : f ≤ e) (eu : ∀ u, gI h (b + 13) 2 = nI u → u ≤ 400 → e ≤ u) (sg : segT (gI h (b + 147)) (gI h (b + 148)) (e - f) f [] = some [x]) : ∃ h', Sn [(18, 0, 32)] b hh h' ∧ f_Law_reckon (b + 13) (nI f) (nI e) hh = some (sgv (gI h (b + 147)) (gI h (b + 148)) A f e, h') := by
  obtain ⟨s, cd, c_stat, c_realm, c_book, c_law, c_kin, c_shi, c_roa, c_ord, c_han, c_wei, c_bag, c_pri, c_cnt, c_led, c_yea, c_log, c_rdr, c_msc, c_img⟩ := I
  have K13 : gK h (b + 13) = (0, 2) := s.K 13 (by decide) rfl
  have K16 : gK h (b + 16) = (1, 400) := s.K 16 (by decide) rfl
  have K17 : gK h (b + 17) = (1, 10) := s.K 17 (by decide) rfl
  have K18 : gK h (b + 18) = (1, 32) := s.K 18 (by decide) rfl
  have R13_1 : gR h (b + 13) 1 = some (b + 16) := s.R 13 1 rfl
  have R13_3 : gR h (b + 13) 3 = some (b + 17) := s.R 13 3 rfl
  have R13_4 : gR h (b + 13) 4 = some (b + 18) := s.R 13 4 rfl
  obtain ⟨n, u, n16, u4, _, hu, _, hcode, _⟩ := c_law
  have eu' := eu u hu u4
  have kk : ∀ o, gK hh (b + o) = gK h (b + o) := fun o => by rw [t.1]
  have rr : ∀ o k, gR hh (b + o) k = gR h (b + o) k := fun o k => by rw [t.2.1]
  have uu : gI hh (b + 13) 2 = nI u := by rw [t.I (by decide)]; exact hu
  have cc : ∀ i, i < u → gI hh (b + 16) i = enc (gI h (b + 147) i) (gI h (b + 148) i) := fun i hi => by
    rw [t.I (disj_ok (M := U_law) (by decide) (inL_in (lo := 0) (hi := 400) (by decide) (by omega) (by omega)))]; exact hcode i hi
  obtain ⟨h', t', st, r⟩ := cl_seg (h := hh) (b := b) (u := u) (mo := gI h (b + 147)) (ma := gI h (b + 148)) (A := A) (by rw [kk]; exact K13) (by rw [kk]; exact K16) (by rw [kk]; exact K17) (by rw [kk]; exact K18) (by rw [rr]; exact R13_1) (by rw [rr]; exact R13_3) (by rw [rr]; exact R13_4) uu u4 cc hA (e - f) f [] [x] [] FU hh sg trivial (by simp) (by rw [FU_eq]; omega) (by omega) Sn.rf trivial
  refine ⟨h', t', ?_⟩
  have ef : f + (e - f) = e := by omega
  rw [ef] at r
  obtain ⟨v, hv⟩ := seg_one (evs_TV (A := A) (V := []) sg trivial) rfl
  have e0 : jmax 0 (nI f) = nI f := by
    have := jmaxN (a := 0) (c := f) (by omega) (by omega)
    rw [nI_0] at this
    rw [this]
    have e : Nat.max 0 f = f := Nat.max_eq_right (Nat.zero_le _)
    rw [e]
  have k13 : gK h' (b + 13) = (0, 2) := by rw [t'.1, kk]; exact K13
  have k18 : gK h' (b + 18) = (1, 32) := by rw [t'.1, kk]; exact K18
  have r13 : gR h' (b + 13) 4 = some (b + 18) := by rw [t'.2.1, rr]; exact R13_4
  have rl : f_Law_reckon_153 (b + 13) (nI (evs (gI h (b + 147)) (gI h (b + 148)) A (e - f) f []).length) h' = some (sgv (gI h (b + 147)) (gI h (b + 148)) A f e, h') := by
    unfold sgv
    rw [hv] at st ⊢
    have l1 : nI [v].length = nI 1 := rfl
    have z1 : ¬ nI 1 ≤ 0 := by decide
    have z2 : nI 1 - 1 = nI 0 := by decide
    have z3 : (0 : Nat) < 32 := by decide
    have s0 : gI h' (b + 18) 0 = v := st.1
    rw [l1]
    unfold f_Law_reckon_153
    simp (disch := omega) only [↓ob_eq, ob_so, ldI, ldR, ldO, stI, stZ, stR, isO, wrA_n, rdA_n, wrA_l, rdA_l, gK_sI, gR_sI, gX_sI, gN_sI, gK_cp, gR_cp, gX_cp, gN_cp, rtZ_0, rtZ_1, if_true, reduceIte, and_self, true_and, and_true, z1, z2, z3, k13, k18, r13, s0, if_false]
    rfl
  unfold f_Law_reckon
  rw [e0]
  have r : f_Law_reckon_9 FU (b + 13) (nI e) 0 (nI f) hh = f_Law_reckon_153 (b + 13) (nI (evs (gI h (b + 147)) (gI h (b + 148)) A (e - f) f []).length) h' := by
    have l0 : nI ([] : List Int32).length = 0 := nI_0
    rw [l0] at r
    exact r
  exact r.trans rl
/-- the reference runs a piece of a line -/
theorem mo_runs {h hh : PH} {b f e x : Nat} {A : Nat → Int32} (I : Inv b h) (t : Sn DYN b h hh) (hA : ∀ a, a < 10 → gI hh (b + 153) a = A a) (fe : f ≤ e) (e4 : e ≤ 400) (sg : segT (gI h (b + 147)) (gI h (b + 148)) (e - f) f [] = some [x]) : ∃ h', Sn [(154, 0, 420)] b hh h' ∧ f_Mo_runs (b + 131) 0 (nI f) (nI e) hh = some (sgv (gI h (b + 147)) (gI h (b + 148)) A f e, h') := by
  obtain ⟨s, cd, c_stat, c_realm, c_book, c_law, c_kin, c_shi, c_roa, c_ord, c_han, c_wei, c_bag, c_pri, c_cnt, c_led, c_yea, c_log, c_rdr, c_msc, c_img⟩ := I
  have K131 : gK h (b + 131) = (0, 9) := s.K 131 (by decide) rfl
  have K147 : gK h (b + 147) = (1, 1200) := s.K 147 (by decide) rfl
  have K148 : gK h (b + 148) = (1, 1200) := s.K 148 (by decide) rfl
  have K153 : gK h (b + 153) = (1, 10) := s.K 153 (by decide) rfl
  have K154 : gK h (b + 154) = (1, 420) := s.K 154 (by decide) rfl
  have R131_25 : gR h (b + 131) 25 = some (b + 147) := s.R 131 25 rfl
  have R131_26 : gR h (b + 131) 26 = some (b + 148) := s.R 131 26 rfl
  have R131_42 : gR h (b + 131) 42 = some (b + 153) := s.R 131 42 rfl
  have R131_43 : gR h (b + 131) 43 = some (b + 154) := s.R 131 43 rfl
  have kk : ∀ o, gK hh (b + o) = gK h (b + o) := fun o => by rw [t.1]
  have rr : ∀ o k, gR hh (b + o) k = gR h (b + o) k := fun o k => by rw [t.2.1]
  have q7 : ∀ i, i < 400 → gI hh (b + 147) i = gI h (b + 147) i := fun i hi => t.I (disj_ok (M := U_law) (by decide) (inL_in (lo := 0) (hi := 400) (by decide) (by omega) hi))
  have q8 : ∀ i, i < 400 → gI hh (b + 148) i = gI h (b + 148) i := fun i hi => t.I (disj_ok (M := U_law) (by decide) (inL_in (lo := 0) (hi := 400) (by decide) (by omega) hi))
  obtain ⟨h', t', st, r⟩ := mo_seg (h := hh) (b := b) (mo := gI h (b + 147)) (ma := gI h (b + 148)) (A := A) (by rw [kk]; exact K131) (by rw [kk]; exact K147) (by rw [kk]; exact K148) (by rw [kk]; exact K153) (by rw [kk]; exact K154) (by rw [rr]; exact R131_25) (by rw [rr]; exact R131_26) (by rw [rr]; exact R131_42) (by rw [rr]; exact R131_43) q7 q8 hA (e - f) f [] [x] [] FU hh sg trivial (by simp) (by rw [FU_eq]; omega) (by omega) Sn.rf trivial
  refine ⟨h', t', ?_⟩
  have ef : f + (e - f) = e := by omega
  rw [ef] at r
  obtain ⟨v, hv⟩ := seg_one (evs_TV (A := A) (V := []) sg trivial) rfl
  have sv : gI h' (b + 154) 0 = sgv (gI h (b + 147)) (gI h (b + 148)) A f e := by
    unfold sgv
    rw [hv] at st ⊢
    exact st.1
  rw [sv] at r
  have z0 : (400 : Int32) * 0 + nI f = nI f := by rw [Int32.mul_zero, Int32.zero_add]
  have l0 : nI ([] : List Int32).length = 0 := nI_0
  rw [l0] at r
  unfold f_Mo_runs
  rw [z0]
  exact r
def subL (L M : SL) : Bool := L.all (fun p => M.any (fun q => q.1 == p.1 && (decide (q.2.1 ≤ p.2.1) && decide (p.2.2 ≤ q.2.2))))
theorem sub_ok {L M : SL} (h : subL L M = true) {o j : Nat} (hm : inL M o j = false) : inL L o j = false := by
  cases q : inL L o j
  · rfl
  · exfalso
    unfold inL at q
    rw [List.any_eq_true] at q
    obtain ⟨p, hp, e⟩ := q
    unfold subL at h
    rw [List.all_eq_true] at h
    have h2 := h p hp
    rw [List.any_eq_true] at h2
    obtain ⟨r, hr, e2⟩ := h2
    simp only [Bool.and_eq_true, beq_iff_eq, decide_eq_true_eq] at e e2
    have : inL M o j = true := by
      unfold inL
      rw [List.any_eq_true]
      refine ⟨r, hr, ?_⟩
      simp only [Bool.and_eq_true, beq_iff_eq, decide_eq_true_eq]
      exact ⟨by rw [e2.1]; exact e.1, by omega, by omega⟩
    rw [this] at hm
    cases hm
theorem Sn.up {L M : SL} {b : Nat} {h h2 : PH} (t : Sn L b h h2) (hl : subL L M = true) : Sn M b h h2 := ⟨t.1, t.2.1, t.2.2.1, t.2.2.2.1, fun o j ho => t.2.2.2.2 o j (sub_ok hl ho)⟩
theorem cl_tells {h hh : PH} {b w : Nat} {A : Nat → Int32} (I : Inv b h) (t : Sn DYN b h hh) (hA : ∀ a, a < 10 → gI hh (b + 17) a = A a) (hw : w ≤ 2) : ∃ h', Sn [(18, 0, 32)] b hh h' ∧ f_Law_tells (b + 13) (nI w) hh = some (tel h b A w, h') := by
  have I0 := I
  obtain ⟨s, cd, c_stat, c_realm, c_book, c_law, c_kin, c_shi, c_roa, c_ord, c_han, c_wei, c_bag, c_pri, c_cnt, c_led, c_yea, c_log, c_rdr, c_msc, c_img⟩ := I
  have K13 : gK h (b + 13) = (0, 2) := s.K 13 (by decide) rfl
  have K14 : gK h (b + 14) = (0, 6) := s.K 14 (by decide) rfl
  have K15 : gK h (b + 15) = (1, 64) := s.K 15 (by decide) rfl
  have K17 : gK h (b + 17) = (1, 10) := s.K 17 (by decide) rfl
  have R13_0 : gR h (b + 13) 0 = some (b + 14) := s.R 13 0 rfl
  have R13_3 : gR h (b + 13) 3 = some (b + 17) := s.R 13 3 rfl
  have R14_1 : gR h (b + 14) 1 = some (b + 15) := s.R 14 1 rfl
  obtain ⟨n, u, n16, u4, ⟨W0, N2⟩, hu, hm, hcode, hln⟩ := c_law
  have kk : ∀ o, gK hh (b + o) = gK h (b + o) := fun o => by rw [t.1]
  have rr : ∀ o k, gR hh (b + o) k = gR h (b + o) k := fun o k => by rw [t.2.1]
  have go : ∀ e l M hx, l + e = n → e < M → Sn [(18, 0, 32)] b hh hx → ∃ h', Sn [(18, 0, 32)] b hh h' ∧ f_Law_tells_2 M (b + 13) (nI w) (nI l) hx = some (fox (fun l (_ : Unit) => tlX (gI h (b + 143)) (gI h (b + 145)) (gI h (b + 146)) (gI h (b + 147)) (gI h (b + 148)) A w l) (fun l _ => tlV (gI h (b + 144)) (gI h (b + 145)) (gI h (b + 147)) (gI h (b + 148)) A w l) (fun _ s => s) (fun _ => tlD A w) l e (), h') := by
    intro e
    induction e with
    | zero =>
      intro l M hx hl hM tx
      obtain ⟨N, rfl⟩ : ∃ N, M = N + 1 := ⟨M - 1, by omega⟩
      obtain rfl : l = n := by omega
      refine ⟨hx, tx, ?_⟩
      have td : Sn DYN b h hx := t.tr (tx.up (by decide))
      have k13 : gK hx (b + 13) = (0, 2) ∧ gK hx (b + 14) = (0, 6) ∧ gK hx (b + 17) = (1, 10) := ⟨by rw [td.1]; exact K13, by rw [td.1]; exact K14, by rw [td.1]; exact K17⟩
      have r13 : gR hx (b + 13) 0 = some (b + 14) ∧ gR hx (b + 13) 3 = some (b + 17) := ⟨by rw [td.2.1]; exact R13_0, by rw [td.2.1]; exact R13_3⟩
      have nn : gI hx (b + 14) 2 = nI l := by rw [td.I (by decide)]; exact N2
      have aa : ∀ a, a < 10 → gI hx (b + 17) a = A a := fun a ha => by rw [tx.2.2.2.2 17 a (by simp [inL])]; exact hA a ha
      have rd : ∀ a, a < 10 → rdA hx (b + 17) (nI a) = some (A a) := fun a ha => by
        rw [rdA_n (by omega), k13.2.2, if_pos ⟨rfl, ha⟩, aa a ha]
      have rd0 : rdA hx (b + 17) 0 = some (A 0) := rd 0 (by omega)
      have rd1 : rdA hx (b + 17) 1 = some (A 1) := rd 1 (by omega)
      have rd6 : rdA hx (b + 17) 6 = some (A 6) := rd 6 (by omega)
      rw [f_Law_tells_2]
      unfold fox tlD
      have : w = 0 ∨ w = 1 ∨ w = 2 := by omega
      rcases this with rfl | rfl | rfl
      · have z : (nI 0 = 0) = True := eq_true nI_0
        simp (disch := omega) only [rd1, ↓ob_eq, ob_so, ldI, ldR, ldO, stI, stZ, stR, isO, wrA_n, rdA_n, wrA_l, rdA_l, gK_sI, gR_sI, gX_sI, gN_sI, gK_cp, gR_cp, gX_cp, gN_cp, rtZ_0, rtZ_1, if_true, reduceIte, and_self, true_and, and_true, k13, r13, nn, z, nI_le', Nat.le_refl]
      · have z0 : ¬ nI 1 = 0 := by decide
        have z1 : (nI 1 = 1) = True := eq_true rfl
        have z2 : ¬ (1 : Nat) = 0 := by decide
        simp (disch := omega) only [rd0, ↓ob_eq, ob_so, ldI, ldR, ldO, stI, stZ, stR, isO, wrA_n, rdA_n, wrA_l, rdA_l, gK_sI, gR_sI, gX_sI, gN_sI, gK_cp, gR_cp, gX_cp, gN_cp, rtZ_0, rtZ_1, if_true, reduceIte, and_self, true_and, and_true, k13, r13, nn, z0, z1, z2, nI_le', Nat.le_refl, if_false]
      · have z0 : ¬ nI 2 = 0 := by decide
        have z1 : ¬ nI 2 = 1 := by decide
        have z2 : ¬ (2 : Nat) = 0 := by decide
        have z3 : ¬ (2 : Nat) = 1 := by decide
        simp (disch := omega) only [rd6, ↓ob_eq, ob_so, ldI, ldR, ldO, stI, stZ, stR, isO, wrA_n, rdA_n, wrA_l, rdA_l, gK_sI, gR_sI, gX_sI, gN_sI, gK_cp, gR_cp, gX_cp, gN_cp, rtZ_0, rtZ_1, if_true, reduceIte, and_self, true_and, and_true, k13, r13, nn, z0, z1, z2, z3, nI_le', Nat.le_refl, if_false]
    | succ e ih =>
      intro l M hx hl hM tx
      obtain ⟨N, rfl⟩ : ∃ N, M = N + 1 := ⟨M - 1, by omega⟩
      have ll : l < n := by omega
      obtain ⟨lw, lf, lt, le, a1, a2, a3, a4, b1, b2, b3, b4, b5, b6, b7, b8, ⟨x, x1, sx⟩, sy⟩ := hln l ll
      have td : Sn DYN b h hx := t.tr (tx.up (by decide))
      have k13 : gK hx (b + 13) = (0, 2) ∧ gK hx (b + 14) = (0, 6) := ⟨by rw [td.1]; exact K13, by rw [td.1]; exact K14⟩
      have r13 : gR hx (b + 13) 0 = some (b + 14) := by rw [td.2.1]; exact R13_0
      have nn : gI hx (b + 14) 2 = nI n := by rw [td.I (by decide)]; exact N2
      have gt : ∀ hz, Sn DYN b h hz → ∀ i, i < 4 → f_Row_get (b + 14) (nI l) (nI i) hz = some (gI h (b + 15) (4 * l + i), hz) := fun hz tz i hi => by
        have := row_get (w := 4) (l := l) (i := i) (h := hz) (by rw [tz.1]; exact K14) (by rw [tz.2.1]; exact R14_1) (by rw [tz.1]; exact K15) (by rw [tz.I (by decide)]; exact W0) (by rw [tz.I (by decide)]; exact N2) ll hi (by omega) (by omega) (by omega)
        rw [Nat.mul_comm l 4, tz.I (disj_ok (M := U_law) (by decide) (inL_in (lo := 0) (hi := 64) (by decide) (by omega) (by omega)))] at this
        exact this
      have g0 : ∀ hz, Sn DYN b h hz → f_Row_get (b + 14) (nI l) 0 hz = some (nI lw, hz) := fun hz tz => by rw [← b1]; exact gt hz tz 0 (by omega)
      have g1 : ∀ hz, Sn DYN b h hz → f_Row_get (b + 14) (nI l) 1 hz = some (nI lf, hz) := fun hz tz => by rw [← b3]; exact gt hz tz 1 (by omega)
      have g2 : ∀ hz, Sn DYN b h hz → f_Row_get (b + 14) (nI l) 2 hz = some (nI lt, hz) := fun hz tz => by rw [← b5]; exact gt hz tz 2 (by omega)
      have g3 : ∀ hz, Sn DYN b h hz → f_Row_get (b + 14) (nI l) 3 hz = some (nI le, hz) := fun hz tz => by rw [← b7]; exact gt hz tz 3 (by omega)
      have e2 : ¬ n ≤ l := by omega
      have aa : ∀ hz, Sn [(18, 0, 32)] b hh hz → ∀ a, a < 10 → gI hz (b + 17) a = A a := fun hz tz a ha => by rw [tz.2.2.2.2 17 a (by simp [inL])]; exact hA a ha
      have euu : ∀ u', gI h (b + 13) 2 = nI u' → u' ≤ 400 → le ≤ u' := fun u' hu' h4 => by
        rw [hu] at hu'
        have := (nI_eq (by omega) (by omega)).mp hu'
        omega
      -- the line tells
      have tells : ∀ hz, Sn [(18, 0, 32)] b hh hz → ∃ h', Sn [(18, 0, 32)] b hh h' ∧ f_Law_tells_63 (b + 13) (nI w) (nI l) (nI lt) hz = some (tlV (gI h (b + 144)) (gI h (b + 145)) (gI h (b + 147)) (gI h (b + 148)) A w l, h') := fun hz tz => by
        have tdz : Sn DYN b h hz := t.tr (tz.up (by decide))
        obtain ⟨h', t', r'⟩ := cl_reckon (A := A) I0 tdz (aa hz tz) a2 (fun u' p q => by have := euu u' p q; omega) sx
        refine ⟨h', tz.tr t', ?_⟩
        have kz : gK hz (b + 13) = (0, 2) ∧ gK hz (b + 14) = (0, 6) := ⟨by rw [tdz.1]; exact K13, by rw [tdz.1]; exact K14⟩
        have rz : gR hz (b + 13) 0 = some (b + 14) := by rw [tdz.2.1]; exact R13_0
        have ev : tlV (gI h (b + 144)) (gI h (b + 145)) (gI h (b + 147)) (gI h (b + 148)) A w l = hld (sgv (gI h (b + 147)) (gI h (b + 148)) A lf lt) (if w = 2 then 1000 else 99) := by
          unfold tlV; rw [b4, b6, tn_nI (by omega), tn_nI (by omega)]
        rw [ev]
        by_cases q2 : w = 2
        · have q3 : (nI w = 2) = True := eq_true (by rw [q2]; rfl)
          rw [if_pos q2]
          simp (disch := omega) only [f_Law_tells_63, f_Law_tells_90, ↓ob_eq, ob_so, ldI, ldR, ldO, stI, stZ, stR, isO, wrA_n, rdA_n, wrA_l, rdA_l, gK_sI, gR_sI, gX_sI, gN_sI, gK_cp, gR_cp, gX_cp, gN_cp, rtZ_0, rtZ_1, if_true, reduceIte, and_self, true_and, and_true, kz, rz, g1 hz tdz, r', cl_held, q3]
        · have q3 : ¬ nI w = 2 := fun z => q2 ((nI_eqL (n := 2) (by omega) (by decide)).mp z)
          rw [if_neg q2]
          simp (disch := omega) only [f_Law_tells_63, f_Law_tells_90, ↓ob_eq, ob_so, ldI, ldR, ldO, stI, stZ, stR, isO, wrA_n, rdA_n, wrA_l, rdA_l, gK_sI, gR_sI, gX_sI, gN_sI, gK_cp, gR_cp, gX_cp, gN_cp, rtZ_0, rtZ_1, if_true, reduceIte, and_self, true_and, and_true, kz, rz, g1 hz tdz, r', cl_held, q3, if_false]
      rw [fox]
      by_cases qw : lw = w
      · by_cases qe : lt = le
        · have X1 : tlX (gI h (b + 143)) (gI h (b + 145)) (gI h (b + 146)) (gI h (b + 147)) (gI h (b + 148)) A w l = true := by
            unfold tlX; rw [b2, b6, b8, qw, qe]; simp
          rw [if_pos X1]
          obtain ⟨h', t', r'⟩ := tells hx tx
          refine ⟨h', t', ?_⟩
          have q1 : (nI lw = nI w) = True := eq_true (by rw [qw])
          have q2 : (nI lt = nI le) = True := eq_true (by rw [qe])
          have main : f_Law_tells_2 (N + 1) (b + 13) (nI w) (nI l) hx = f_Law_tells_63 (b + 13) (nI w) (nI l) (nI lt) hx := by
            rw [f_Law_tells_2]
            simp (disch := omega) only [↓ob_eq, ob_so, ldI, ldR, ldO, stI, stZ, stR, isO, wrA_n, rdA_n, wrA_l, rdA_l, gK_sI, gR_sI, gX_sI, gN_sI, gK_cp, gR_cp, gX_cp, gN_cp, rtZ_0, rtZ_1, if_true, reduceIte, and_self, true_and, and_true, k13, r13, nn, e2, g0 hx td, g2 hx td, g3 hx td, q1, q2, nI_le', if_false]
          exact main.trans r'
        · rcases sy with sy | sy
          · exact absurd sy qe
          obtain ⟨h1, t1, r1⟩ := cl_reckon (A := A) I0 td (aa hx tx) a3 euu sy
          have tx1 := tx.tr t1
          have td1 : Sn DYN b h h1 := t.tr (tx1.up (by decide))
          have q1 : (nI lw = nI w) = True := eq_true (by rw [qw])
          have q2 : ¬ nI lt = nI le := fun z => qe ((nI_eq (by omega) (by omega)).mp z)
          by_cases qs : sgv (gI h (b + 147)) (gI h (b + 148)) A lt le = 0
          · have X1 : tlX (gI h (b + 143)) (gI h (b + 145)) (gI h (b + 146)) (gI h (b + 147)) (gI h (b + 148)) A w l = false := by
              unfold tlX; rw [b2, b6, b8, qw, tn_nI (by omega), tn_nI (by omega), qs]; simp [q2]
            rw [X1, if_neg (by decide)]
            obtain ⟨h', t', r'⟩ := ih (l + 1) N h1 (by omega) (by omega) tx1
            refine ⟨h', t', ?_⟩
            rw [qs] at r1
            have main : f_Law_tells_2 (N + 1) (b + 13) (nI w) (nI l) hx = f_Law_tells_2 N (b + 13) (nI w) (nI (l + 1)) h1 := by
              rw [f_Law_tells_2]
              simp (disch := omega) only [↓ob_eq, ob_so, ldI, ldR, ldO, stI, stZ, stR, isO, wrA_n, rdA_n, wrA_l, rdA_l, gK_sI, gR_sI, gX_sI, gN_sI, gK_cp, gR_cp, gX_cp, gN_cp, rtZ_0, rtZ_1, if_true, reduceIte, and_self, true_and, and_true, k13, r13, nn, e2, g0 hx td, g2 hx td, g3 hx td, q1, q2, r1, nI_le', nI_addL, if_false]
            exact main.trans r'
          · have X1 : tlX (gI h (b + 143)) (gI h (b + 145)) (gI h (b + 146)) (gI h (b + 147)) (gI h (b + 148)) A w l = true := by
              unfold tlX; rw [b2, b6, b8, qw, tn_nI (by omega), tn_nI (by omega)]; simp [qs]
            rw [if_pos X1]
            obtain ⟨h', t', r'⟩ := tells h1 tx1
            refine ⟨h', t', ?_⟩
            have main : f_Law_tells_2 (N + 1) (b + 13) (nI w) (nI l) hx = f_Law_tells_63 (b + 13) (nI w) (nI l) (nI lt) h1 := by
              rw [f_Law_tells_2]
              simp (disch := omega) only [↓ob_eq, ob_so, ldI, ldR, ldO, stI, stZ, stR, isO, wrA_n, rdA_n, wrA_l, rdA_l, gK_sI, gR_sI, gX_sI, gN_sI, gK_cp, gR_cp, gX_cp, gN_cp, rtZ_0, rtZ_1, if_true, reduceIte, and_self, true_and, and_true, k13, r13, nn, e2, g0 hx td, g2 hx td, g3 hx td, q1, q2, r1, qs, nI_le', if_false]
            exact main.trans r'
      · have q1 : ¬ nI lw = nI w := fun z => qw ((nI_eq (by omega) (by omega)).mp z)
        have X1 : tlX (gI h (b + 143)) (gI h (b + 145)) (gI h (b + 146)) (gI h (b + 147)) (gI h (b + 148)) A w l = false := by
          unfold tlX; rw [b2]; simp [q1]
        rw [X1, if_neg (by decide)]
        obtain ⟨h', t', r'⟩ := ih (l + 1) N hx (by omega) (by omega) tx
        refine ⟨h', t', ?_⟩
        have main : f_Law_tells_2 (N + 1) (b + 13) (nI w) (nI l) hx = f_Law_tells_2 N (b + 13) (nI w) (nI (l + 1)) hx := by
          rw [f_Law_tells_2]
          simp (disch := omega) only [↓ob_eq, ob_so, ldI, ldR, ldO, stI, stZ, stR, isO, wrA_n, rdA_n, wrA_l, rdA_l, gK_sI, gR_sI, gX_sI, gN_sI, gK_cp, gR_cp, gX_cp, gN_cp, rtZ_0, rtZ_1, if_true, reduceIte, and_self, true_and, and_true, k13, r13, nn, e2, g0 hx td, g2 hx td, g3 hx td, q1, nI_le', nI_addL, if_false]
        exact main.trans r'
  obtain ⟨h', t', r'⟩ := go n 0 FU hh (by omega) (by rw [FU_eq]; omega) Sn.rf
  refine ⟨h', t', ?_⟩
  rw [nI_0] at r'
  unfold tel
  rw [hm, tn_nI (by omega)]
  exact r'
theorem mo_tells {h hh : PH} {b w m : Nat} {A : Nat → Int32} {dv : Int32} (I : Inv b h) (t : Sn DYN b h hh) (hA : ∀ a, a < 10 → gI hh (b + 153) a = A a) (hw : w ≤ 2) (hm2 : nI m = if w = 2 then 1000 else 99) (hd : hld dv (nI m) = tlD A w) : ∃ h', Sn [(154, 0, 420)] b hh h' ∧ f_Mo_lawTells (b + 131) (nI w) dv (nI m) hh = some (tel h b A w, h') := by
  have I0 := I
  obtain ⟨s, cd, c_stat, c_realm, c_book, c_law, c_kin, c_shi, c_roa, c_ord, c_han, c_wei, c_bag, c_pri, c_cnt, c_led, c_yea, c_log, c_rdr, c_msc, c_img⟩ := I
  have K131 : gK h (b + 131) = (0, 9) := s.K 131 (by decide) rfl
  have K142 : gK h (b + 142) = (1, 2) := s.K 142 (by decide) rfl
  have K143 : gK h (b + 143) = (1, 48) := s.K 143 (by decide) rfl
  have K144 : gK h (b + 144) = (1, 48) := s.K 144 (by decide) rfl
  have K145 : gK h (b + 145) = (1, 48) := s.K 145 (by decide) rfl
  have K146 : gK h (b + 146) = (1, 48) := s.K 146 (by decide) rfl
  have R131_20 : gR h (b + 131) 20 = some (b + 142) := s.R 131 20 rfl
  have R131_21 : gR h (b + 131) 21 = some (b + 143) := s.R 131 21 rfl
  have R131_22 : gR h (b + 131) 22 = some (b + 144) := s.R 131 22 rfl
  have R131_23 : gR h (b + 131) 23 = some (b + 145) := s.R 131 23 rfl
  have R131_24 : gR h (b + 131) 24 = some (b + 146) := s.R 131 24 rfl
  obtain ⟨n, u, n16, u4, ⟨W0, N2⟩, hu, hm, hcode, hln⟩ := c_law
  have go : ∀ e l M hx, l + e = n → e < M → Sn [(154, 0, 420)] b hh hx → ∃ h', Sn [(154, 0, 420)] b hh h' ∧ f_Mo_lineOf_2 M (b + 131) (nI w) (nI l) hx = some (fox (fun l (_ : Unit) => tlX (gI h (b + 143)) (gI h (b + 145)) (gI h (b + 146)) (gI h (b + 147)) (gI h (b + 148)) A w l) (fun l _ => nI l) (fun _ s => s) (fun _ => -1) l e (), h') := by
    intro e
    induction e with
    | zero =>
      intro l M hx hl hM tx
      obtain ⟨N, rfl⟩ : ∃ N, M = N + 1 := ⟨M - 1, by omega⟩
      obtain rfl : l = n := by omega
      refine ⟨hx, tx, ?_⟩
      have td : Sn DYN b h hx := t.tr (tx.up (by decide))
      have kk : gK hx (b + 131) = (0, 9) ∧ gK hx (b + 142) = (1, 2) := ⟨by rw [td.1]; exact K131, by rw [td.1]; exact K142⟩
      have rr : gR hx (b + 131) 20 = some (b + 142) := by rw [td.2.1]; exact R131_20
      have nn : gI hx (b + 142) 0 = nI l := by rw [td.I (by decide)]; exact hm
      have rd : rdA hx (b + 142) 0 = some (nI l) := by
        have := rdA_n (h := hx) (a := b + 142) (j := 0) (by omega)
        rw [kk.2, if_pos ⟨rfl, by decide⟩, nn, nI_0] at this
        exact this
      rw [f_Mo_lineOf_2]
      unfold fox
      simp (disch := omega) only [rd, ↓ob_eq, ob_so, ldI, ldR, ldO, stI, stZ, stR, isO, wrA_n, rdA_n, wrA_l, rdA_l, gK_sI, gR_sI, gX_sI, gN_sI, gK_cp, gR_cp, gX_cp, gN_cp, rtZ_0, rtZ_1, if_true, reduceIte, and_self, true_and, and_true, kk, rr, nI_le', Nat.le_refl]
    | succ e ih =>
      intro l M hx hl hM tx
      obtain ⟨N, rfl⟩ : ∃ N, M = N + 1 := ⟨M - 1, by omega⟩
      have ll : l < n := by omega
      obtain ⟨lw, lf, lt, le, a1, a2, a3, a4, b1, b2, b3, b4, b5, b6, b7, b8, ⟨x, x1, sx⟩, sy⟩ := hln l ll
      have td : Sn DYN b h hx := t.tr (tx.up (by decide))
      have kk : gK hx (b + 131) = (0, 9) ∧ gK hx (b + 142) = (1, 2) ∧ gK hx (b + 143) = (1, 48) ∧ gK hx (b + 145) = (1, 48) ∧ gK hx (b + 146) = (1, 48) := ⟨by rw [td.1]; exact K131, by rw [td.1]; exact K142, by rw [td.1]; exact K143, by rw [td.1]; exact K145, by rw [td.1]; exact K146⟩
      have rr : gR hx (b + 131) 20 = some (b + 142) ∧ gR hx (b + 131) 21 = some (b + 143) ∧ gR hx (b + 131) 23 = some (b + 145) ∧ gR hx (b + 131) 24 = some (b + 146) := ⟨by rw [td.2.1]; exact R131_20, by rw [td.2.1]; exact R131_21, by rw [td.2.1]; exact R131_23, by rw [td.2.1]; exact R131_24⟩
      have nn : gI hx (b + 142) 0 = nI n := by rw [td.I (by decide)]; exact hm
      have rd : rdA hx (b + 142) 0 = some (nI n) := by
        have := rdA_n (h := hx) (a := b + 142) (j := 0) (by omega)
        rw [kk.2.1, if_pos ⟨rfl, by decide⟩, nn, nI_0] at this
        exact this
      have gx : ∀ o, (o = 143 ∨ o = 144 ∨ o = 145 ∨ o = 146) → gI hx (b + o) l = gI h (b + o) l := fun o ho => by
        rcases ho with rfl | rfl | rfl | rfl <;> exact td.I (disj_ok (M := U_law) (by decide) (inL_in (lo := 0) (hi := 16) (by decide) (by omega) (by omega)))
      have g3 : gI hx (b + 143) l = nI lw := by rw [gx 143 (by omega)]; exact b2
      have g5 : gI hx (b + 145) l = nI lt := by rw [gx 145 (by omega)]; exact b6
      have g6 : gI hx (b + 146) l = nI le := by rw [gx 146 (by omega)]; exact b8
      have e2 : ¬ n ≤ l := by omega
      have e3 : l < 48 := by omega
      have aa : ∀ a, a < 10 → gI hx (b + 153) a = A a := fun a ha => by rw [tx.2.2.2.2 153 a (by simp [inL])]; exact hA a ha
      rw [fox]
      by_cases qw : lw = w
      · by_cases qe : lt = le
        · have X1 : tlX (gI h (b + 143)) (gI h (b + 145)) (gI h (b + 146)) (gI h (b + 147)) (gI h (b + 148)) A w l = true := by
            unfold tlX; rw [b2, b6, b8, qw, qe]; simp
          rw [if_pos X1]
          refine ⟨hx, tx, ?_⟩
          have q1 : (nI lw = nI w) = True := eq_true (by rw [qw])
          have q2 : (nI lt = nI le) = True := eq_true (by rw [qe])
          rw [f_Mo_lineOf_2]
          simp (disch := omega) only [rd, ↓ob_eq, ob_so, ldI, ldR, ldO, stI, stZ, stR, isO, wrA_n, rdA_n, wrA_l, rdA_l, gK_sI, gR_sI, gX_sI, gN_sI, gK_cp, gR_cp, gX_cp, gN_cp, rtZ_0, rtZ_1, if_true, reduceIte, and_self, true_and, and_true, kk, rr, e2, e3, g3, g5, g6, q1, q2, nI_le', if_false]
        · rcases sy with sy | sy
          · exact absurd sy qe
          obtain ⟨h1, t1, r1⟩ := mo_runs (A := A) I0 td aa a3 (by omega) sy
          have tx1 := tx.tr t1
          have q1 : (nI lw = nI w) = True := eq_true (by rw [qw])
          have q2 : ¬ nI lt = nI le := fun z => qe ((nI_eq (by omega) (by omega)).mp z)
          by_cases qs : sgv (gI h (b + 147)) (gI h (b + 148)) A lt le = 0
          · have X1 : tlX (gI h (b + 143)) (gI h (b + 145)) (gI h (b + 146)) (gI h (b + 147)) (gI h (b + 148)) A w l = false := by
              unfold tlX; rw [b2, b6, b8, qw, tn_nI (by omega), tn_nI (by omega), qs]; simp [q2]
            rw [X1, if_neg (by decide)]
            obtain ⟨h', t', r'⟩ := ih (l + 1) N h1 (by omega) (by omega) tx1
            refine ⟨h', t', ?_⟩
            rw [qs] at r1
            have main : f_Mo_lineOf_2 (N + 1) (b + 131) (nI w) (nI l) hx = f_Mo_lineOf_2 N (b + 131) (nI w) (nI (l + 1)) h1 := by
              rw [f_Mo_lineOf_2]
              simp (disch := omega) only [rd, ↓ob_eq, ob_so, ldI, ldR, ldO, stI, stZ, stR, isO, wrA_n, rdA_n, wrA_l, rdA_l, gK_sI, gR_sI, gX_sI, gN_sI, gK_cp, gR_cp, gX_cp, gN_cp, rtZ_0, rtZ_1, if_true, reduceIte, and_self, true_and, and_true, kk, rr, e2, e3, g3, g5, g6, q1, q2, r1, nI_le', nI_addL, if_false]
            exact main.trans r'
          · have X1 : tlX (gI h (b + 143)) (gI h (b + 145)) (gI h (b + 146)) (gI h (b + 147)) (gI h (b + 148)) A w l = true := by
              unfold tlX; rw [b2, b6, b8, qw, tn_nI (by omega), tn_nI (by omega)]; simp [qs]
            rw [if_pos X1]
            refine ⟨h1, tx1, ?_⟩
            rw [f_Mo_lineOf_2]
            simp (disch := omega) only [rd, ↓ob_eq, ob_so, ldI, ldR, ldO, stI, stZ, stR, isO, wrA_n, rdA_n, wrA_l, rdA_l, gK_sI, gR_sI, gX_sI, gN_sI, gK_cp, gR_cp, gX_cp, gN_cp, rtZ_0, rtZ_1, if_true, reduceIte, and_self, true_and, and_true, kk, rr, e2, e3, g3, g5, g6, q1, q2, r1, qs, nI_le', if_false]
      · have q1 : ¬ nI lw = nI w := fun z => qw ((nI_eq (by omega) (by omega)).mp z)
        have X1 : tlX (gI h (b + 143)) (gI h (b + 145)) (gI h (b + 146)) (gI h (b + 147)) (gI h (b + 148)) A w l = false := by
          unfold tlX; rw [b2]; simp [q1]
        rw [X1, if_neg (by decide)]
        obtain ⟨h', t', r'⟩ := ih (l + 1) N hx (by omega) (by omega) tx
        refine ⟨h', t', ?_⟩
        have main : f_Mo_lineOf_2 (N + 1) (b + 131) (nI w) (nI l) hx = f_Mo_lineOf_2 N (b + 131) (nI w) (nI (l + 1)) hx := by
          rw [f_Mo_lineOf_2]
          simp (disch := omega) only [rd, ↓ob_eq, ob_so, ldI, ldR, ldO, stI, stZ, stR, isO, wrA_n, rdA_n, wrA_l, rdA_l, gK_sI, gR_sI, gX_sI, gN_sI, gK_cp, gR_cp, gX_cp, gN_cp, rtZ_0, rtZ_1, if_true, reduceIte, and_self, true_and, and_true, kk, rr, e2, e3, g3, q1, nI_le', nI_addL, if_false]
        exact main.trans r'
  obtain ⟨h1, t1, r1⟩ := go n 0 FU hh (by omega) (by rw [FU_eq]; omega) Sn.rf
  have td1 : Sn DYN b h h1 := t.tr (t1.up (by decide))
  have kk : gK hh (b + 131) = (0, 9) := by rw [t.1]; exact K131
  have k1 : gK h1 (b + 131) = (0, 9) ∧ gK h1 (b + 144) = (1, 48) ∧ gK h1 (b + 145) = (1, 48) := ⟨by rw [td1.1]; exact K131, by rw [td1.1]; exact K144, by rw [td1.1]; exact K145⟩
  have rr : gR h1 (b + 131) 22 = some (b + 144) ∧ gR h1 (b + 131) 23 = some (b + 145) := ⟨by rw [td1.2.1]; exact R131_22, by rw [td1.2.1]; exact R131_23⟩
  have r1 : f_Mo_lineOf (b + 131) (nI w) hh = some (fox (fun l (_ : Unit) => tlX (gI h (b + 143)) (gI h (b + 145)) (gI h (b + 146)) (gI h (b + 147)) (gI h (b + 148)) A w l) (fun l _ => nI l) (fun _ s => s) (fun _ => -1) 0 n (), h1) := by
    rw [nI_0] at r1
    exact r1
  have en : (gI h (b + 142) 0).toNatClampNeg = n := by rw [hm, tn_nI (by omega)]
  by_cases ex : ∃ l, l < n ∧ tlX (gI h (b + 143)) (gI h (b + 145)) (gI h (b + 146)) (gI h (b + 147)) (gI h (b + 148)) A w l = true ∧ ∀ j, j < l → tlX (gI h (b + 143)) (gI h (b + 145)) (gI h (b + 146)) (gI h (b + 147)) (gI h (b + 148)) A w j = false
  · obtain ⟨l, ll, hx, hj⟩ := ex
    have f1 : ∀ {ρ : Type} (o : Nat → ρ) (f : ρ), fox (fun l (_ : Unit) => tlX (gI h (b + 143)) (gI h (b + 145)) (gI h (b + 146)) (gI h (b + 147)) (gI h (b + 148)) A w l) (fun l _ => o l) (fun _ s => s) (fun _ => f) 0 n () = o l := fun o f => by
      have := fox_at (ex := fun l (_ : Unit) => tlX (gI h (b + 143)) (gI h (b + 145)) (gI h (b + 146)) (gI h (b + 147)) (gI h (b + 148)) A w l) (out := fun l _ => o l) (st := fun _ s => s) (fin := fun _ => f) n 0 () l ll (fun j h => by rw [Nat.zero_add]; exact hj j h) (by rw [Nat.zero_add]; exact hx)
      rw [this, Nat.zero_add]
    rw [f1] at r1
    unfold tel
    rw [en, f1]
    obtain ⟨lw, lf, lt, le, a1, a2, a3, a4, b1, b2, b3, b4, b5, b6, b7, b8, ⟨x, x1, sx⟩, sy⟩ := hln l ll
    have aa : ∀ a, a < 10 → gI h1 (b + 153) a = A a := fun a ha => by rw [t1.2.2.2.2 153 a (by simp [inL])]; exact hA a ha
    obtain ⟨h2, t2, r2⟩ := mo_runs (A := A) I0 td1 aa a2 (by omega) sx
    refine ⟨h2, t1.tr t2, ?_⟩
    have g4 : gI h1 (b + 144) l = nI lf := by rw [td1.I (disj_ok (M := U_law) (by decide) (inL_in (lo := 0) (hi := 16) (by decide) (by omega) (by omega)))]; exact b4
    have g5 : gI h1 (b + 145) l = nI lt := by rw [td1.I (disj_ok (M := U_law) (by decide) (inL_in (lo := 0) (hi := 16) (by decide) (by omega) (by omega)))]; exact b6
    have e3 : l < 48 := by omega
    have e4 : ¬ nI l = -1 := nI_m1 (by omega)
    have k2 : gK h2 (b + 131) = (0, 9) := by rw [t2.1]; exact k1.1
    have ev : tlV (gI h (b + 144)) (gI h (b + 145)) (gI h (b + 147)) (gI h (b + 148)) A w l = hld (sgv (gI h (b + 147)) (gI h (b + 148)) A lf lt) (nI m) := by
      unfold tlV; rw [b4, b6, tn_nI (by omega), tn_nI (by omega), hm2]
    rw [ev]
    simp (disch := omega) only [f_Mo_lawTells, f_Mo_lawTells_37, ↓ob_eq, ob_so, ldI, ldR, ldO, stI, stZ, stR, isO, wrA_n, rdA_n, wrA_l, rdA_l, gK_sI, gR_sI, gX_sI, gN_sI, gK_cp, gR_cp, gX_cp, gN_cp, rtZ_0, rtZ_1, if_true, reduceIte, and_self, true_and, and_true, kk, k1, k2, rr, r1, r2, e3, e4, g4, g5, mo_held, if_false]
  · have no : ∀ j, j < n → tlX (gI h (b + 143)) (gI h (b + 145)) (gI h (b + 146)) (gI h (b + 147)) (gI h (b + 148)) A w j = false := by
      intro j
      induction j using Nat.strongRecOn with
      | ind j ih =>
        intro hj
        cases q : tlX (gI h (b + 143)) (gI h (b + 145)) (gI h (b + 146)) (gI h (b + 147)) (gI h (b + 148)) A w j
        · rfl
        · exact absurd ⟨j, hj, q, fun i hi => ih i hi (by omega)⟩ ex
    have f1 : ∀ {ρ : Type} (o : Nat → ρ) (f : ρ), fox (fun l (_ : Unit) => tlX (gI h (b + 143)) (gI h (b + 145)) (gI h (b + 146)) (gI h (b + 147)) (gI h (b + 148)) A w l) (fun l _ => o l) (fun _ s => s) (fun _ => f) 0 n () = f := fun o f => by
      exact fox_no (ex := fun l (_ : Unit) => tlX (gI h (b + 143)) (gI h (b + 145)) (gI h (b + 146)) (gI h (b + 147)) (gI h (b + 148)) A w l) (out := fun l _ => o l) (st := fun _ s => s) (fin := fun _ => f) n 0 () (fun j h => by rw [Nat.zero_add]; exact no j h)
    rw [f1] at r1
    unfold tel
    rw [en, f1]
    refine ⟨h1, t1, ?_⟩
    simp (disch := omega) only [f_Mo_lawTells, f_Mo_lawTells_37, ↓ob_eq, ob_so, ldI, ldR, ldO, stI, stZ, stR, isO, wrA_n, rdA_n, wrA_l, rdA_l, gK_sI, gR_sI, gX_sI, gN_sI, gK_cp, gR_cp, gX_cp, gN_cp, rtZ_0, rtZ_1, if_true, reduceIte, and_self, true_and, and_true, kk, k1, r1, mo_held, hd]
