/-! ===== keeping ahead, going back ===== -/
def shL (d : Nat) (D : SL) : SL := D.map (fun p => (d + p.1, p.2))
theorem shL_in {d o j : Nat} {D : SL} : inL (shL d D) (d + o) j = inL D o j := by
  unfold inL shL
  rw [List.any_map]
  congr 1
  funext p
  show ((d + p.1 == d + o) && _) = ((p.1 == o) && _)
  have : (d + p.1 == d + o) = (p.1 == o) := by
    by_cases q : p.1 = o
    · rw [q]; simp
    · have q2 : ¬ d + p.1 = d + o := by omega
      rw [beq_eq_false_iff_ne.mpr q, beq_eq_false_iff_ne.mpr q2]
  rw [this]
theorem Cp.sn {b d r : Nat} {h h' : PH} (c : Cp CPD b d r h h') : Sn (shL d CPD) b h h' := by
  obtain ⟨c1, c2, c3, c4, c5, c6, c7⟩ := c
  refine ⟨c1, c2, c3, c4, fun o j ho => ?_⟩
  by_cases q : o < d ∨ d + 10 ≤ o
  · exact c6 o j q
  · obtain ⟨i, rfl⟩ : ∃ i, o = d + i := ⟨o - d, by omega⟩
    rw [shL_in] at ho
    exact c7 i j (by omega) ho
theorem RS_log {h : PH} {b k : Nat} (s : Shp h b) (hk : k < 6) : RS h b (42 + 10 * k) := by
  have : k = 0 ∨ k = 1 ∨ k = 2 ∨ k = 3 ∨ k = 4 ∨ k = 5 := by omega
  rcases this with rfl | rfl | rfl | rfl | rfl | rfl
  · exact ⟨⟨s.K 42 (by decide) rfl, s.K 43 (by decide) rfl, s.K 44 (by decide) rfl, s.K 45 (by decide) rfl, s.K 46 (by decide) rfl, s.K 47 (by decide) rfl, s.K 48 (by decide) rfl, s.K 49 (by decide) rfl, s.K 50 (by decide) rfl, s.K 51 (by decide) rfl⟩, s.R 42 2 rfl, s.R 42 3 rfl, s.R 42 4 rfl, s.R 42 5 rfl, s.R 42 6 rfl, s.R 42 10 rfl, s.R 42 11 rfl, s.R 42 12 rfl, s.R 42 13 rfl⟩
  · exact ⟨⟨s.K 52 (by decide) rfl, s.K 53 (by decide) rfl, s.K 54 (by decide) rfl, s.K 55 (by decide) rfl, s.K 56 (by decide) rfl, s.K 57 (by decide) rfl, s.K 58 (by decide) rfl, s.K 59 (by decide) rfl, s.K 60 (by decide) rfl, s.K 61 (by decide) rfl⟩, s.R 52 2 rfl, s.R 52 3 rfl, s.R 52 4 rfl, s.R 52 5 rfl, s.R 52 6 rfl, s.R 52 10 rfl, s.R 52 11 rfl, s.R 52 12 rfl, s.R 52 13 rfl⟩
  · exact ⟨⟨s.K 62 (by decide) rfl, s.K 63 (by decide) rfl, s.K 64 (by decide) rfl, s.K 65 (by decide) rfl, s.K 66 (by decide) rfl, s.K 67 (by decide) rfl, s.K 68 (by decide) rfl, s.K 69 (by decide) rfl, s.K 70 (by decide) rfl, s.K 71 (by decide) rfl⟩, s.R 62 2 rfl, s.R 62 3 rfl, s.R 62 4 rfl, s.R 62 5 rfl, s.R 62 6 rfl, s.R 62 10 rfl, s.R 62 11 rfl, s.R 62 12 rfl, s.R 62 13 rfl⟩
  · exact ⟨⟨s.K 72 (by decide) rfl, s.K 73 (by decide) rfl, s.K 74 (by decide) rfl, s.K 75 (by decide) rfl, s.K 76 (by decide) rfl, s.K 77 (by decide) rfl, s.K 78 (by decide) rfl, s.K 79 (by decide) rfl, s.K 80 (by decide) rfl, s.K 81 (by decide) rfl⟩, s.R 72 2 rfl, s.R 72 3 rfl, s.R 72 4 rfl, s.R 72 5 rfl, s.R 72 6 rfl, s.R 72 10 rfl, s.R 72 11 rfl, s.R 72 12 rfl, s.R 72 13 rfl⟩
  · exact ⟨⟨s.K 82 (by decide) rfl, s.K 83 (by decide) rfl, s.K 84 (by decide) rfl, s.K 85 (by decide) rfl, s.K 86 (by decide) rfl, s.K 87 (by decide) rfl, s.K 88 (by decide) rfl, s.K 89 (by decide) rfl, s.K 90 (by decide) rfl, s.K 91 (by decide) rfl⟩, s.R 82 2 rfl, s.R 82 3 rfl, s.R 82 4 rfl, s.R 82 5 rfl, s.R 82 6 rfl, s.R 82 10 rfl, s.R 82 11 rfl, s.R 82 12 rfl, s.R 82 13 rfl⟩
  · exact ⟨⟨s.K 92 (by decide) rfl, s.K 93 (by decide) rfl, s.K 94 (by decide) rfl, s.K 95 (by decide) rfl, s.K 96 (by decide) rfl, s.K 97 (by decide) rfl, s.K 98 (by decide) rfl, s.K 99 (by decide) rfl, s.K 100 (by decide) rfl, s.K 101 (by decide) rfl⟩, s.R 92 2 rfl, s.R 92 3 rfl, s.R 92 4 rfl, s.R 92 5 rfl, s.R 92 6 rfl, s.R 92 10 rfl, s.R 92 11 rfl, s.R 92 12 rfl, s.R 92 13 rfl⟩
def LGC : SL := [(40, 1, 3), (42, 0, 20), (43, 0, 12), (44, 0, 12), (45, 0, 12), (46, 0, 12), (47, 0, 12), (48, 0, 6), (49, 0, 6), (50, 0, 6), (51, 0, 6), (52, 0, 20), (53, 0, 12), (54, 0, 12), (55, 0, 12), (56, 0, 12), (57, 0, 12), (58, 0, 6), (59, 0, 6), (60, 0, 6), (61, 0, 6), (62, 0, 20), (63, 0, 12), (64, 0, 12), (65, 0, 12), (66, 0, 12), (67, 0, 12), (68, 0, 6), (69, 0, 6), (70, 0, 6), (71, 0, 6), (72, 0, 20), (73, 0, 12), (74, 0, 12), (75, 0, 12), (76, 0, 12), (77, 0, 12), (78, 0, 6), (79, 0, 6), (80, 0, 6), (81, 0, 6), (82, 0, 20), (83, 0, 12), (84, 0, 12), (85, 0, 12), (86, 0, 12), (87, 0, 12), (88, 0, 6), (89, 0, 6), (90, 0, 6), (91, 0, 6), (92, 0, 20), (93, 0, 12), (94, 0, 12), (95, 0, 12), (96, 0, 12), (97, 0, 12), (98, 0, 6), (99, 0, 6), (100, 0, 6), (101, 0, 6)]
theorem sub_log {k : Nat} (hk : k < 6) : subL (shL (42 + 10 * k) CPD) LGC = true := by
  have : k = 0 ∨ k = 1 ∨ k = 2 ∨ k = 3 ∨ k = 4 ∨ k = 5 := by omega
  rcases this with rfl | rfl | rfl | rfl | rfl | rfl <;> decide
theorem rdQ_log {h : PH} {b k : Nat} (s : Shp h b) (hk : k < 6) : rdQ h (b + 41) (nI k) = some (b + (42 + 10 * k)) := by
  have K41 : gK h (b + 41) = (2, 6) := s.K 41 (by decide) rfl
  unfold rdQ isQ
  rw [K41, inb_dec (by omega), tn_nI (by omega), decide_eq_true hk]
  have : k = 0 ∨ k = 1 ∨ k = 2 ∨ k = 3 ∨ k = 4 ∨ k = 5 := by omega
  rcases this with rfl | rfl | rfl | rfl | rfl | rfl
  · rw [s.R 41 0 rfl]; simp
  · rw [s.R 41 1 rfl]; simp
  · rw [s.R 41 2 rfl]; simp
  · rw [s.R 41 3 rfl]; simp
  · rw [s.R 41 4 rfl]; simp
  · rw [s.R 41 5 rfl]; simp
theorem CPD_lt : ∀ p ∈ CPD, p.1 < 10 := by decide
theorem shL_far {d r : Nat} (hd : d + 10 ≤ r ∨ r + 10 ≤ d) : ∀ p ∈ shL d CPD, p.1 < r ∨ r + 10 ≤ p.1 := by
  intro p hp
  unfold shL at hp
  rw [List.mem_map] at hp
  obtain ⟨q, hq, rfl⟩ := hp
  have := CPD_lt q hq
  dsimp only
  omega
def LogC (h hh : PH) (b n nx : Nat) (G : Nat → Nat → Int32) : Prop := n ≤ 6 ∧ nx < 6 ∧ gI hh (b + 40) 2 = nI n ∧ gI hh (b + 40) 1 = nI nx ∧ ∀ i, i < n → Rl h hh b (logAt nx i) (G i)
def LogM (hh : PH) (b n : Nat) (G : Nat → Nat → Int32) : Prop := gI hh (b + 131) 3 = nI n ∧ ∀ i, i < n → ∀ j, j < 79 → gI hh (b + 133) (79 * (n - 1 - i) + j) = G i j
def cG (g : Nat → Int32) (G : Nat → Nat → Int32) : Nat → Nat → Int32
  | 0 => g
  | i + 1 => G i
def up6 (n : Nat) : Nat := Nat.min 6 (n + 1)
theorem up6_eq {n : Nat} (h : n ≤ 6) : up6 n = if n = 6 then 6 else n + 1 := by
  unfold up6
  by_cases q : n = 6
  · rw [if_pos q, q]; rfl
  · rw [if_neg q]; exact Nat.min_eq_right (by omega)
theorem cl_keep {h hh : PH} {b n nx : Nat} {g : Nat → Int32} {G : Nat → Nat → Int32} (I : Inv b h) (t : Sn DYN b h hh) (lc : LogC h hh b n nx G) (rl : Rl h hh b 2 g) : ∃ h' nx', Sn LGC b hh h' ∧ LogC h h' b (up6 n) nx' (cG g G) ∧ f_Log_keep (b + 40) (b + 2) hh = some h' := by
  have I0 := I
  obtain ⟨s, cd, c_stat, c_realm, c_book, c_law, c_kin, c_shi, c_roa, c_ord, c_han, c_wei, c_bag, c_pri, c_cnt, c_led, c_yea, c_log, c_rdr, c_msc, c_img⟩ := I
  have K40 : gK h (b + 40) = (0, 3) := s.K 40 (by decide) rfl
  have K41 : gK h (b + 41) = (2, 6) := s.K 41 (by decide) rfl
  have R40_0 : gR h (b + 40) 0 = some (b + 41) := s.R 40 0 rfl
  have s' := s.sn t
  obtain ⟨n6, x6, l2, l1, ll⟩ := lc
  obtain ⟨h1, e1, c1⟩ := copyFrom (hh := hh) (b := b) (d := 42 + 10 * nx) (r := 2) (by omega) (RS_log s' x6) (RS_of s').1
  have t1 := c1.sn
  have k40 : gK h1 (b + 40) = (0, 3) := by rw [t1.1, t.1]; exact K40
  have g40 : ∀ j, gI h1 (b + 40) j = gI hh (b + 40) j := fun j => c1.2.2.2.2.2.1 40 j (by omega)
  obtain ⟨h2, hh2⟩ : ∃ h2, h2 = sI (sI h1 (b + 40) 1 (nI ((nx + 1) % 6))) (b + 40) 2 (nI (up6 n)) := ⟨_, rfl⟩
  have t2 : Sn [(40, 1, 3)] b h1 h2 := by rw [hh2]; exact (Sn.rf.put 40 1 _ (by decide)).put 40 2 _ (by decide)
  refine ⟨h2, (nx + 1) % 6, (t1.up (sub_log x6)).tr (t2.up (by decide)), ⟨?_, Nat.mod_lt _ (by omega), ?_, ?_, fun i hi => ?_⟩, ?_⟩
  · rw [up6_eq n6]; split <;> omega
  · rw [hh2]; simp (disch := omega) only [gI_q, gI_n1, gI_n2]
  · rw [hh2]; simp (disch := omega) only [gI_q, gI_n1, gI_n2]
  · rw [up6_eq n6] at hi
    cases i with
    | zero =>
      have e : logAt ((nx + 1) % 6) 0 = 42 + 10 * nx := by unfold logAt; omega
      rw [e]
      exact (Cp.rl I0 rl c1).sn I0 t2 (fun p hp => by
        rw [List.mem_singleton] at hp
        rw [hp]
        dsimp only
        omega)
    | succ i =>
      have i5 : i < 5 := by split at hi <;> omega
      have hin : i < n := by split at hi <;> omega
      have e : logAt ((nx + 1) % 6) (i + 1) = logAt nx i := by unfold logAt; omega
      rw [e]
      have r1 := ll i hin
      have lb : logAt nx i = 42 + 10 * ((nx + 5 - i) % 6) := rfl
      exact (r1.sn I0 t1 (shL_far (by omega))).sn I0 t2 (fun p hp => by
        rw [List.mem_singleton] at hp
        rw [hp]
        dsimp only
        omega)
  · have r40 : gR hh (b + 40) 0 = some (b + 41) := by rw [t.2.1]; exact R40_0
    have k40' : gK hh (b + 40) = (0, 3) := by rw [t.1]; exact K40
    have kd := (RS_log s' x6).1.1
    have rm : rmI (nI nx + 1) 6 = some (nI ((nx + 1) % 6)) := by
      unfold rmI
      rw [if_neg (by decide), nI_addL]
      exact congrArg some (pk_rem (d := 6) (by omega) (by omega) (by omega))
    have jm : jmin 6 (nI n + 1) = nI (up6 n) := by
      rw [nI_addL]
      exact jminN (a := 6) (by omega) (by omega)
    have g1 : gI h1 (b + 40) 1 = nI nx := by rw [g40]; exact l1
    have g2 : gI (sI h1 (b + 40) 1 (nI ((nx + 1) % 6))) (b + 40) 2 = nI n := by rw [gI_n2 (by omega), g40]; exact l2
    rw [hh2]
    simp only [f_Log_keep, f_Log_keep_19, ↓ob_eq, ob_so, ldI, ldR, ldO, stI, stZ, stR, isO, wrA_n, rdA_n, wrA_l, rdA_l, gK_sI, gR_sI, gX_sI, gN_sI, gK_cp, gR_cp, gX_cp, gN_cp, rtZ_0, rtZ_1, if_true, reduceIte, and_self, true_and, and_true, k40', k40, r40, l1, rdQ_log s' x6, kd, e1, g1, rm, g2, jm]
theorem mo_keeps {h hh : PH} {b n : Nat} {g : Nat → Int32} {G : Nat → Nat → Int32} (I : Inv b h) (t : Sn DYN b h hh) (n6 : n ≤ 6) (lm : LogM hh b n G) (rw' : Rw hh b g) : ∃ h', Sn [(131, 3, 4), (133, 0, 474)] b hh h' ∧ LogM h' b (up6 n) (cG g G) ∧ f_Mo_keepsAhead (b + 131) hh = some h' := by
  obtain ⟨s, cd, c_stat, c_realm, c_book, c_law, c_kin, c_shi, c_roa, c_ord, c_han, c_wei, c_bag, c_pri, c_cnt, c_led, c_yea, c_log, c_rdr, c_msc, c_img⟩ := I
  have K131 : gK h (b + 131) = (0, 9) := s.K 131 (by decide) rfl
  have K132 : gK h (b + 132) = (1, 79) := s.K 132 (by decide) rfl
  have K133 : gK h (b + 133) = (1, 474) := s.K 133 (by decide) rfl
  have R131_1 : gR h (b + 131) 1 = some (b + 132) := s.R 131 1 rfl
  have R131_2 : gR h (b + 131) 2 = some (b + 133) := s.R 131 2 rfl
  have kk : ∀ hx, Sn [(131, 3, 4), (133, 0, 474)] b hh hx → gK hx (b + 131) = (0, 9) ∧ gK hx (b + 132) = (1, 79) ∧ gK hx (b + 133) = (1, 474) := fun hx tx => ⟨by rw [tx.1, t.1]; exact K131, by rw [tx.1, t.1]; exact K132, by rw [tx.1, t.1]; exact K133⟩
  have rr : ∀ hx, Sn [(131, 3, 4), (133, 0, 474)] b hh hx → gR hx (b + 131) 1 = some (b + 132) ∧ gR hx (b + 131) 2 = some (b + 133) := fun hx tx => ⟨by rw [tx.2.1, t.2.1]; exact R131_1, by rw [tx.2.1, t.2.1]; exact R131_2⟩
  obtain ⟨l3, ll⟩ := lm
  -- the row is written behind u others
  have wr : ∀ u hx, u ≤ 5 → Sn [(131, 3, 4), (133, 0, 474)] b hh hx → gI hx (b + 131) 3 = nI u → ∃ h', Sn [(131, 3, 4), (133, 0, 474)] b hh h' ∧ gI h' (b + 131) 3 = nI (u + 1) ∧ (∀ j, j < 79 → gI h' (b + 133) (79 * u + j) = g j) ∧ (∀ j, j < 79 * u → gI h' (b + 133) j = gI hx (b + 133) j) ∧ f_Mo_keepsAhead_53 (b + 131) hx = some h' := fun u hx hu tx g3 => by
    have key := lp (fun N (s : PH) k => f_Mo_keepsAhead_55 N (b + 131) (nI k) s) (fun k s => sI s (b + 133) (79 * u + k) (g k)) (fun k s => Sn [(131, 3, 4), (133, 0, 474)] b hh s ∧ gI s (b + 131) 3 = nI u ∧ (∀ j, j < k → gI s (b + 133) (79 * u + j) = g j) ∧ ∀ j, j < 79 * u → gI s (b + 133) j = gI hx (b + 133) j) 79 (fun s => some (sI s (b + 131) 3 (nI (u + 1))))
      (fun N k s hk q => by
        obtain ⟨q1, q2, q3, q4⟩ := q
        obtain ⟨k1, k2, k3⟩ := kk s q1
        obtain ⟨p1, p2⟩ := rr s q1
        have e2 : ¬ 79 ≤ k := by omega
        have e3 : 79 * u + k < 474 := by omega
        have rv : gI s (b + 132) k = g k := by rw [q1.2.2.2.2 132 k (by simp [inL])]; exact rw' k hk
        rw [f_Mo_keepsAhead_55]
        simp (disch := omega) only [↓ob_eq, ob_so, ldI, ldR, ldO, stI, stZ, stR, isO, wrA_n, rdA_n, wrA_l, rdA_l, gK_sI, gR_sI, gX_sI, gN_sI, gK_cp, gR_cp, gX_cp, gN_cp, rtZ_0, rtZ_1, if_true, reduceIte, and_self, true_and, and_true, k1, k2, k3, p1, p2, q2, e2, e3, hk, rv, L_len, L_muln, nI_add, nI_addL, if_false])
      (fun k s hk q => by
        obtain ⟨q1, q2, q3, q4⟩ := q
        refine ⟨q1.put 133 _ _ (inL_in (lo := 0) (hi := 474) (by decide) (by omega) (by omega)), by simp (disch := omega) only [gI_q, gI_n1, gI_n2]; exact q2, fun j hj => ?_, fun j hj => ?_⟩
        · by_cases y : j = k
          · subst y; simp (disch := omega) only [gI_q, gI_n1, gI_n2]
          · simp (disch := omega) only [gI_q, gI_n1, gI_n2]; exact q3 j (by omega)
        · simp (disch := omega) only [gI_q, gI_n1, gI_n2]; exact q4 j hj)
      (fun N s q => by
        obtain ⟨q1, q2, q3, q4⟩ := q
        obtain ⟨k1, k2, k3⟩ := kk s q1
        have e1 : (79 : Int32) ≤ nI 79 := by decide
        rw [f_Mo_keepsAhead_55]
        simp (disch := omega) only [↓ob_eq, ob_so, ldI, ldR, ldO, stI, stZ, stR, isO, wrA_n, rdA_n, wrA_l, rdA_l, gK_sI, gR_sI, gX_sI, gN_sI, gK_cp, gR_cp, gX_cp, gN_cp, rtZ_0, rtZ_1, if_true, reduceIte, and_self, true_and, and_true, k1, q2, e1, nI_addL])
      79 0 hx FU (by omega) ⟨tx, g3, fun j hj => absurd hj (by omega), fun j hj => rfl⟩ (by rw [FU_eq]; omega)
    obtain ⟨k1, q1, q2, q3, q4⟩ := key
    refine ⟨_, q1.put 131 3 (nI (u + 1)) (by decide), by simp (disch := omega) only [gI_q, gI_n1, gI_n2], fun j hj => ?_, fun j hj => ?_, k1⟩
    · rw [gI_n1 (by omega)]; exact q3 j hj
    · rw [gI_n1 (by omega)]; exact q4 j hj
  by_cases q6 : n = 6
  · subst q6
    have key := lp (fun N (s : PH) k => f_Mo_keepsAhead_21 N (b + 131) (nI k) s) (fun k s => sI s (b + 133) k (gI hh (b + 133) (k + 79))) (fun k s => Sn [(131, 3, 4), (133, 0, 474)] b hh s ∧ gI s (b + 131) 3 = nI 5 ∧ (∀ j, j < k → gI s (b + 133) j = gI hh (b + 133) (j + 79)) ∧ ∀ j, k ≤ j → gI s (b + 133) j = gI hh (b + 133) j) 395 (fun s => f_Mo_keepsAhead_53 (b + 131) s)
      (fun N k s hk q => by
        obtain ⟨q1, q2, q3, q4⟩ := q
        obtain ⟨k1, k2, k3⟩ := kk s q1
        obtain ⟨p1, p2⟩ := rr s q1
        have e2 : ¬ 79 * 5 ≤ k := by omega
        have e3 : k < 474 := by omega
        have e4 : k + 79 < 474 := by omega
        have rv := q4 (k + 79) (by omega)
        rw [f_Mo_keepsAhead_21]
        simp (disch := omega) only [↓ob_eq, ob_so, ldI, ldR, ldO, stI, stZ, stR, isO, wrA_n, rdA_n, wrA_l, rdA_l, gK_sI, gR_sI, gX_sI, gN_sI, gK_cp, gR_cp, gX_cp, gN_cp, rtZ_0, rtZ_1, if_true, reduceIte, and_self, true_and, and_true, k1, k3, p2, q2, e2, e3, e4, rv, nI_le', L_muln, nI_addL, if_false])
      (fun k s hk q => by
        obtain ⟨q1, q2, q3, q4⟩ := q
        refine ⟨q1.put 133 _ _ (inL_in (lo := 0) (hi := 474) (by decide) (by omega) (by omega)), by simp (disch := omega) only [gI_q, gI_n1, gI_n2]; exact q2, fun j hj => ?_, fun j hj => ?_⟩
        · by_cases y : j = k
          · subst y; simp (disch := omega) only [gI_q, gI_n1, gI_n2]
          · simp (disch := omega) only [gI_q, gI_n1, gI_n2]; exact q3 j (by omega)
        · simp (disch := omega) only [gI_q, gI_n1, gI_n2]; exact q4 j (by omega))
      (fun N s q => by
        obtain ⟨q1, q2, q3, q4⟩ := q
        obtain ⟨k1, k2, k3⟩ := kk s q1
        have e1 : (79 : Int32) * nI 5 ≤ nI 395 := by decide
        rw [f_Mo_keepsAhead_21]
        simp (disch := omega) only [↓ob_eq, ob_so, ldI, ldR, ldO, stI, stZ, stR, isO, wrA_n, rdA_n, wrA_l, rdA_l, gK_sI, gR_sI, gX_sI, gN_sI, gK_cp, gR_cp, gX_cp, gN_cp, rtZ_0, rtZ_1, if_true, reduceIte, and_self, true_and, and_true, k1, q2, e1])
      395 0 (sI hh (b + 131) 3 (nI 5)) FU (by omega) ⟨Sn.rf.put 131 3 _ (by decide), by simp (disch := omega) only [gI_q, gI_n1, gI_n2], fun j hj => absurd hj (by omega), fun j hj => by simp (disch := omega) only [gI_q, gI_n1, gI_n2]⟩ (by rw [FU_eq]; omega)
    obtain ⟨k1, q1, q2, q3, q4⟩ := key
    obtain ⟨h', t', g3, w1, w2, e2⟩ := wr 5 _ (by omega) q1 q2
    refine ⟨h', t', ⟨g3, fun i hi j hj => ?_⟩, ?_⟩
    · have hi : i < 6 := hi
      have e6 : up6 6 = 6 := rfl
      rw [e6]
      cases i with
      | zero => exact w1 j hj
      | succ i =>
        have e : 79 * (6 - 1 - (i + 1)) + j = 79 * (4 - i) + j := by congr 2; omega
        rw [e, w2 _ (by omega), q3 _ (by omega)]
        have e2 : 79 * (4 - i) + j + 79 = 79 * (6 - 1 - i) + j := by omega
        rw [e2]
        exact ll i (by omega) j hj
    · have k131 := (kk hh Sn.rf).1
      have z : (nI 6 = 6) = True := eq_true rfl
      have z5 : nI 6 - 1 = nI 5 := by decide
      have main : f_Mo_keepsAhead (b + 131) hh = f_Mo_keepsAhead_21 FU (b + 131) (nI 0) (sI hh (b + 131) 3 (nI 5)) := by
        simp only [f_Mo_keepsAhead, ↓ob_eq, ob_so, ldI, ldR, ldO, stI, stZ, stR, isO, wrA_n, rdA_n, wrA_l, rdA_l, gK_sI, gR_sI, gX_sI, gN_sI, gK_cp, gR_cp, gX_cp, gN_cp, rtZ_0, rtZ_1, if_true, reduceIte, and_self, true_and, and_true, k131, l3, z, z5, nI_0]
      exact main.trans (k1.trans e2)
  · obtain ⟨h', t', g3, w1, w2, e2⟩ := wr n hh (by omega) Sn.rf l3
    have eu : up6 n = n + 1 := by rw [up6_eq n6, if_neg q6]
    refine ⟨h', t', ⟨by rw [eu]; exact g3, fun i hi j hj => ?_⟩, ?_⟩
    · rw [eu] at hi ⊢
      cases i with
      | zero =>
        have e : 79 * (n + 1 - 1 - 0) + j = 79 * n + j := by congr 2
        rw [e]; exact w1 j hj
      | succ i =>
        have e : 79 * (n + 1 - 1 - (i + 1)) + j = 79 * (n - 1 - i) + j := by
          have : n + 1 - 1 - (i + 1) = n - 1 - i := by omega
          rw [this]
        rw [e, w2 _ (by omega)]
        exact ll i (by omega) j hj
    · have k131 := (kk hh Sn.rf).1
      have z : ¬ nI n = 6 := fun z => q6 ((nI_eqL (n := 6) (by omega) (by decide)).mp z)
      have main : f_Mo_keepsAhead (b + 131) hh = f_Mo_keepsAhead_53 (b + 131) hh := by
        simp only [f_Mo_keepsAhead, ↓ob_eq, ob_so, ldI, ldR, ldO, stI, stZ, stR, isO, wrA_n, rdA_n, wrA_l, rdA_l, gK_sI, gR_sI, gX_sI, gN_sI, gK_cp, gR_cp, gX_cp, gN_cp, rtZ_0, rtZ_1, if_true, reduceIte, and_self, true_and, and_true, k131, l3, z, if_false]
      exact main.trans e2
theorem C_log.get {h : PH} {b : Nat} (c : C_log h b) : ∃ n nx G, LogC h h b n nx G ∧ LogM h b n G ∧ ∀ i, i < n → RowOK (ntOf h b) (noOf h b) (G i) := by
  obtain ⟨_, n, nx, n6, x6, g2, g3, g1, ll⟩ := c
  exact ⟨n, nx, rowAt h b n, ⟨n6, x6, g2, g1, fun i hi => (ll i hi).2⟩, ⟨g3, fun i _ j _ => rfl⟩, fun i hi => (ll i hi).1⟩
/-- the realm's own relation in a later heap -/
theorem Rl.at {h h2 : PH} {b r : Nat} {g g' : Nat → Int32} (I : Inv b h) (t : Sn DYN b h h2) (rl : Rl h h2 b r g) (eg : ∀ j, j < 79 → g' j = g j) : RealmAt h2 b r (ntOf h2 b) (noOf h2 b) (gI h2 (b + 135)) (gI h2 (b + 136)) (gI h2 (b + 137)) (gI h2 (b + 138)) g' := by
  obtain ⟨s, cd, c_stat, c_realm, c_book, c_law, c_kin, c_shi, c_roa, c_ord, c_han, c_wei, c_bag, c_pri, c_cnt, c_led, c_yea, c_log, c_rdr, c_msc, c_img⟩ := I
  obtain ⟨⟨hnt, hno⟩, _⟩ := c_realm
  obtain ⟨s1, s2, s3, s4, s5, s6, s7⟩ := stat_at t
  have en : ntOf h2 b = ntOf h b := by unfold ntOf; rw [s5]
  have em : noOf h2 b = noOf h b := by unfold noOf; rw [s6]
  rw [en, em]
  exact RlR.cg hnt hno (fun _ _ => rfl) (fun _ _ => rfl) (fun _ _ => rfl) (fun _ _ => rfl) (fun _ _ => rfl) (fun _ _ => rfl) (fun _ _ => rfl) (fun _ _ => rfl) (fun _ _ => rfl) (fun _ _ => rfl) s1 s2 s3 s4 eg rl
theorem C_log.mk' {h h2 : PH} {b n nx : Nat} {G : Nat → Nat → Int32} (I : Inv b h) (t : Sn DYN b h h2) (lc : LogC h h2 b n nx G) (lm : LogM h2 b n G) (ro : ∀ i, i < n → RowOK (ntOf h b) (noOf h b) (G i)) : C_log h2 b := by
  have I0 := I
  obtain ⟨s, cd, c_stat, c_realm, c_book, c_law, c_kin, c_shi, c_roa, c_ord, c_han, c_wei, c_bag, c_pri, c_cnt, c_led, c_yea, c_log, c_rdr, c_msc, c_img⟩ := I
  obtain ⟨⟨hnt, hno⟩, _⟩ := c_realm
  obtain ⟨s1, s2, s3, s4, s5, s6, s7⟩ := stat_at t
  have en : ntOf h2 b = ntOf h b := by unfold ntOf; rw [s5]
  have em : noOf h2 b = noOf h b := by unfold noOf; rw [s6]
  obtain ⟨n6, x6, g2, g1, ll⟩ := lc
  refine ⟨⟨by rw [en]; exact hnt, by rw [em]; exact hno⟩, n, nx, n6, x6, g2, lm.1, g1, fun i hi => ⟨?_, ?_⟩⟩
  · rw [en, em]
    exact (ro i hi).cg hnt hno (fun j hj => lm.2 i hi j hj)
  · exact (ll i hi).at I0 t (fun j hj => lm.2 i hi j hj)
theorem C_realm.mk' {h h2 : PH} {b : Nat} {g : Nat → Int32} (I : Inv b h) (t : Sn DYN b h h2) (rl : Rl h h2 b 2 g) (rw' : Rw h2 b g) (ro : RowOK (ntOf h b) (noOf h b) g) : C_realm h2 b := by
  have I0 := I
  obtain ⟨s, cd, c_stat, c_realm, c_book, c_law, c_kin, c_shi, c_roa, c_ord, c_han, c_wei, c_bag, c_pri, c_cnt, c_led, c_yea, c_log, c_rdr, c_msc, c_img⟩ := I
  obtain ⟨⟨hnt, hno⟩, _⟩ := c_realm
  obtain ⟨s1, s2, s3, s4, s5, s6, s7⟩ := stat_at t
  have en : ntOf h2 b = ntOf h b := by unfold ntOf; rw [s5]
  have em : noOf h2 b = noOf h b := by unfold noOf; rw [s6]
  refine ⟨⟨by rw [en]; exact hnt, by rw [em]; exact hno⟩, ?_, rl.at I0 t rw'⟩
  rw [en, em]
  exact ro.cg hnt hno rw'
theorem op_undo (b : Nat) : B_undo (Inv b) b (b + 131) := by
  intro h I
  have I0 := I
  obtain ⟨s, cd, c_stat, c_realm, c_book, c_law, c_kin, c_shi, c_roa, c_ord, c_han, c_wei, c_bag, c_pri, c_cnt, c_led, c_yea, c_log, c_rdr, c_msc, c_img⟩ := I
  have K0 : gK h b = (0, 8) := s.K 0 (by decide) rfl
  have K1 : gK h (b + 1) = (0, 1) := s.K 1 (by decide) rfl
  have K2 : gK h (b + 2) = (0, 5) := s.K 2 (by decide) rfl
  have K40 : gK h (b + 40) = (0, 3) := s.K 40 (by decide) rfl
  have K41 : gK h (b + 41) = (2, 6) := s.K 41 (by decide) rfl
  have K131 : gK h (b + 131) = (0, 9) := s.K 131 (by decide) rfl
  have K132 : gK h (b + 132) = (1, 79) := s.K 132 (by decide) rfl
  have K133 : gK h (b + 133) = (1, 474) := s.K 133 (by decide) rfl
  have R0_0 : gR h b 0 = some (b + 1) := s.R 0 0 rfl
  have R0_1 : gR h b 1 = some (b + 40) := s.R 0 1 rfl
  have R1_0 : gR h (b + 1) 0 = some (b + 2) := s.R 1 0 rfl
  have R40_0 : gR h (b + 40) 0 = some (b + 41) := s.R 40 0 rfl
  have R131_1 : gR h (b + 131) 1 = some (b + 132) := s.R 131 1 rfl
  have R131_2 : gR h (b + 131) 2 = some (b + 133) := s.R 131 2 rfl
  obtain ⟨n, nx, G, ⟨n6, x6, l2, l1, ll⟩, ⟨m3, mm⟩, ro⟩ := c_log.get
  by_cases q0 : n = 0
  · subst q0
    have z : (nI 0 = 0) = True := eq_true nI_0
    have g3 : gI (sI h (b + 131) 0 0) (b + 131) 3 = nI 0 := by simp (disch := omega) only [gI_q, gI_n1, gI_n2]; exact m3
    exact both_ref I0 (r := 0) (by simp only [f_Tc_undo, f_Log_giveBack, ↓ob_eq, ob_so, ldI, ldR, ldO, stI, stZ, stR, isO, wrA_n, rdA_n, wrA_l, rdA_l, gK_sI, gR_sI, gX_sI, gN_sI, gK_cp, gR_cp, gX_cp, gN_cp, rtZ_0, rtZ_1, if_true, reduceIte, and_self, true_and, and_true, K0, K1, K40, R0_0, R0_1, R1_0, l2, z]) (by simp only [f_Mo_undo, ↓ob_eq, ob_so, ldI, ldR, ldO, stI, stZ, stR, isO, wrA_n, rdA_n, wrA_l, rdA_l, gK_sI, gR_sI, gX_sI, gN_sI, gK_cp, gR_cp, gX_cp, gN_cp, rtZ_0, rtZ_1, if_true, reduceIte, and_self, true_and, and_true, K131, g3, z])
  · have z : ¬ nI n = 0 := fun z => q0 ((nI_eqL (n := 0) (by omega) (by decide)).mp z)
    have sb : nI n - 1 = nI (n - 1) := pk_sub (a := n) (b := 1) (by omega)
    have rm : rmI (nI nx + 6 - 1) 6 = some (nI ((nx + 5) % 6)) := by
      unfold rmI
      have e : nI nx + 6 - 1 = nI (nx + 5) := by
        rw [nI_addL]; exact pk_sub (a := nx + 6) (b := 1) (by omega)
      rw [if_neg (by decide), e]
      exact congrArg some (pk_rem (d := 6) (by omega) (by omega) (by omega))
    have x6' : (nx + 5) % 6 < 6 := Nat.mod_lt _ (by omega)
    obtain ⟨ha, hha⟩ : ∃ ha, ha = sI (sI h (b + 40) 1 (nI ((nx + 5) % 6))) (b + 40) 2 (nI (n - 1)) := ⟨_, rfl⟩
    have ta : Sn [(40, 1, 3)] b h ha := by rw [hha]; exact (Sn.rf.put 40 1 _ (by decide)).put 40 2 _ (by decide)
    have sa := s.sn ta
    obtain ⟨h1, e1, c1⟩ := copyFrom (hh := ha) (b := b) (d := 2) (r := 42 + 10 * ((nx + 5) % 6)) (by omega) (RS_of sa).1 (RS_log sa x6')
    have tb := c1.sn
    have t1 := ta.app tb
    have la : ∀ i, i < n → Rl h ha b (logAt nx i) (G i) := fun i hi => (ll i hi).sn I0 ta (fun p hp => by
      rw [List.mem_singleton] at hp
      rw [hp]
      have : logAt nx i = 42 + 10 * ((nx + 5 - i) % 6) := rfl
      dsimp only
      omega)
    have r2 : Rl h h1 b 2 (G 0) := by
      have e : logAt nx 0 = 42 + 10 * ((nx + 5) % 6) := by unfold logAt; congr 2
      have := la 0 (by omega)
      rw [e] at this
      exact Cp.rl I0 this c1
    have g40 : ∀ j, gI h1 (b + 40) j = gI ha (b + 40) j := fun j => c1.2.2.2.2.2.1 40 j (by omega)
    have lc : LogC h h1 b (n - 1) ((nx + 5) % 6) (fun i => G (i + 1)) := by
      refine ⟨by omega, x6', ?_, ?_, fun i hi => ?_⟩
      · rw [g40, hha]; simp (disch := omega) only [gI_q, gI_n1, gI_n2]
      · rw [g40, hha]; simp (disch := omega) only [gI_q, gI_n1, gI_n2]
      · have e : logAt ((nx + 5) % 6) i = logAt nx (i + 1) := by unfold logAt; omega
        rw [e]
        have lb : logAt nx (i + 1) = 42 + 10 * ((nx + 5 - (i + 1)) % 6) := rfl
        exact (la (i + 1) (by omega)).sn I0 tb (shL_far (by omega))
    -- the reference
    have kk : ∀ hx, Sn [(131, 0, 1), (131, 3, 4), (132, 0, 79)] b h1 hx → gK hx (b + 131) = (0, 9) ∧ gK hx (b + 132) = (1, 79) ∧ gK hx (b + 133) = (1, 474) := fun hx tx => ⟨by rw [tx.1, t1.1]; exact K131, by rw [tx.1, t1.1]; exact K132, by rw [tx.1, t1.1]; exact K133⟩
    have rr : ∀ hx, Sn [(131, 0, 1), (131, 3, 4), (132, 0, 79)] b h1 hx → gR hx (b + 131) 1 = some (b + 132) ∧ gR hx (b + 131) 2 = some (b + 133) := fun hx tx => ⟨by rw [tx.2.1, t1.2.1]; exact R131_1, by rw [tx.2.1, t1.2.1]; exact R131_2⟩
    have c133 : ∀ hx, Sn [(131, 0, 1), (131, 3, 4), (132, 0, 79)] b h1 hx → ∀ j, j < 474 → gI hx (b + 133) j = gI h (b + 133) j := fun hx tx j hj => by
      rw [tx.2.2.2.2 133 j (by simp [inL]), t1.I (disj_ok (M := [(133, 0, 474)]) (by decide) (inL_in (lo := 0) (hi := 474) (by decide) (by omega) hj))]
    have key := lp (fun N (s : PH) k => f_Mo_undo_26 N (b + 131) (nI k) s) (fun k s => sI s (b + 132) k (G 0 k)) (fun k s => Sn [(131, 0, 1), (131, 3, 4), (132, 0, 79)] b h1 s ∧ gI s (b + 131) 3 = nI (n - 1) ∧ ∀ j, j < k → gI s (b + 132) j = G 0 j) 79 (fun s => some ((1 : Int32), s))
      (fun N k s hk q => by
        obtain ⟨q1, q2, q3⟩ := q
        obtain ⟨k1, k2, k3⟩ := kk s q1
        obtain ⟨p1, p2⟩ := rr s q1
        have e2 : ¬ 79 ≤ k := by omega
        have e3 : 79 * (n - 1) + k < 474 := by omega
        have rv : gI s (b + 133) (79 * (n - 1) + k) = G 0 k := by
          rw [c133 s q1 _ e3]
          exact mm 0 (by omega) k hk
        rw [f_Mo_undo_26]
        simp (disch := omega) only [↓ob_eq, ob_so, ldI, ldR, ldO, stI, stZ, stR, isO, wrA_n, rdA_n, wrA_l, rdA_l, gK_sI, gR_sI, gX_sI, gN_sI, gK_cp, gR_cp, gX_cp, gN_cp, rtZ_0, rtZ_1, if_true, reduceIte, and_self, true_and, and_true, k1, k2, k3, p1, p2, q2, e2, e3, hk, rv, L_len, L_muln, nI_add, nI_addL, if_false])
      (fun k s hk q => by
        obtain ⟨q1, q2, q3⟩ := q
        refine ⟨q1.put 132 _ _ (inL_in (lo := 0) (hi := 79) (by decide) (by omega) hk), by simp (disch := omega) only [gI_q, gI_n1, gI_n2]; exact q2, fun j hj => ?_⟩
        by_cases y : j = k
        · subst y; simp (disch := omega) only [gI_q, gI_n1, gI_n2]
        · simp (disch := omega) only [gI_q, gI_n1, gI_n2]; exact q3 j (by omega))
      (fun N s q => by
        have e1 : (79 : Int32) ≤ nI 79 := by decide
        rw [f_Mo_undo_26, if_pos e1, rtZ_1])
      79 0 (sI (sI h1 (b + 131) 0 0) (b + 131) 3 (nI (n - 1))) FU (by omega) ⟨(Sn.rf.put 131 0 _ (by decide)).put 131 3 _ (by decide), by simp (disch := omega) only [gI_q, gI_n1, gI_n2], fun j hj => absurd hj (by omega)⟩ (by rw [FU_eq]; omega)
    obtain ⟨k1, t2, q2, q3⟩ := key
    have t := t1.app t2
    have td : Sn DYN b h _ := t.up (by decide)
    have ef : ∀ p ∈ ([(131, 0, 1), (131, 3, 4), (132, 0, 79)] : SL), p.1 < 2 ∨ 2 + 10 ≤ p.1 := by decide
    have n_realm := C_realm.mk' I0 td (r2.sn I0 t2 (by decide)) q3 (ro 0 (by omega))
    have n_log := C_log.mk' I0 td (n := n - 1) (nx := (nx + 5) % 6) (G := fun i => G (i + 1)) ⟨lc.1, lc.2.1, by rw [t2.I (by decide)]; exact lc.2.2.1, by rw [t2.I (by decide)]; exact lc.2.2.2.1, fun i hi => (lc.2.2.2.2 i hi).sn I0 t2 (fun p hp => by
        have : logAt ((nx + 5) % 6) i = 42 + 10 * (((nx + 5) % 6 + 5 - i) % 6) := rfl
        have h6 : ((nx + 5) % 6 + 5 - i) % 6 < 6 := Nat.mod_lt _ (by omega)
        have hp2 : p.1 = 131 ∨ p.1 = 132 := by
          simp only [List.mem_cons, List.not_mem_nil, or_false] at hp
          rcases hp with rfl | rfl | rfl
          · exact Or.inl rfl
          · exact Or.inl rfl
          · exact Or.inr rfl
        omega)⟩ ⟨q2, fun i hi j hj => by
        rw [c133 _ t2 _ (by omega)]
        have e : 79 * (n - 1 - 1 - i) + j = 79 * (n - 1 - (i + 1)) + j := by congr 2; omega
        rw [e]
        exact mm (i + 1) (by omega) j hj⟩ (fun i hi => ro (i + 1) (by omega))
    refine both_mk (r := 1) ?_ t1 ?_ t2 ⟨s.sn t, cd.cg t, c_stat.cg t (by decide), n_realm, c_book.cg t (by decide), c_law.cg t (by decide), c_kin.cg t (by decide), c_shi.cg t (by decide), c_roa.cg t (by decide), c_ord.cg t (by decide), c_han.cg t (by decide), c_wei.cg t (by decide), c_bag.cg t (by decide), c_pri.cg t (by decide), c_cnt.cg t (by decide), c_led.cg t (by decide), c_yea.cg t (by decide), n_log, c_rdr.cg t (by decide), c_msc.cg t (by decide), c_img.cg t (by decide)⟩
    · have kr : gK ha (b + 2) = (0, 5) := by rw [ta.1]; exact K2
      have ka : gK ha (b + 40) = (0, 3) := by rw [ta.1]; exact K40
      have ra : gR ha (b + 40) 0 = some (b + 41) := by rw [ta.2.1]; exact R40_0
      have g1 : gI ha (b + 40) 1 = nI ((nx + 5) % 6) := by rw [hha]; simp (disch := omega) only [gI_q, gI_n1, gI_n2]
      have g2 : gI (sI h (b + 40) 1 (nI ((nx + 5) % 6))) (b + 40) 2 = nI n := by rw [gI_n2 (by omega)]; exact l2
      simp only [f_Tc_undo, f_Log_giveBack, ↓ob_eq, ob_so, ldI, ldR, ldO, stI, stZ, stR, isO, wrA_n, rdA_n, wrA_l, rdA_l, gK_sI, gR_sI, gX_sI, gN_sI, gK_cp, gR_cp, gX_cp, gN_cp, rtZ_0, rtZ_1, if_true, reduceIte, and_self, true_and, and_true, K0, K1, K40, R0_0, R0_1, R1_0, l2, l1, z, rm, g2, sb, ← hha, if_false]
      simp only [↓ob_eq, ob_so, ldI, ldR, ldO, stI, stZ, stR, isO, wrA_n, rdA_n, wrA_l, rdA_l, gK_sI, gR_sI, gX_sI, gN_sI, gK_cp, gR_cp, gX_cp, gN_cp, rtZ_0, rtZ_1, if_true, reduceIte, and_self, true_and, and_true, kr, ka, ra, g1, rdQ_log sa x6', e1]
    · have k131 := (kk h1 Sn.rf).1
      have g3 : gI (sI h1 (b + 131) 0 0) (b + 131) 3 = nI n := by
        rw [gI_n2 (by omega), t1.I (by decide)]; exact m3
      have main : f_Mo_undo (b + 131) h1 = f_Mo_undo_26 FU (b + 131) (nI 0) (sI (sI h1 (b + 131) 0 0) (b + 131) 3 (nI (n - 1))) := by
        simp only [f_Mo_undo, ↓ob_eq, ob_so, ldI, ldR, ldO, stI, stZ, stR, isO, wrA_n, rdA_n, wrA_l, rdA_l, gK_sI, gR_sI, gX_sI, gN_sI, gK_cp, gR_cp, gX_cp, gN_cp, rtZ_0, rtZ_1, if_true, reduceIte, and_self, true_and, and_true, k131, g3, z, sb, nI_0, if_false]
      exact main.trans k1
