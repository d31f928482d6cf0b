theorem op_driest (b : Nat) : B_driest (Inv b) b (b + 131) := by
  intro h I v1 v2 v3 v4
  have I0 := I
  obtain ⟨s, cd, c_stat, c_realm, c_book, c_law, c_kin, c_shi, c_roa, c_ord, c_han, c_wei, c_bag, c_pri, c_cnt, c_led, c_yea, c_log, c_rdr, c_msc, c_img⟩ := I
  have K0 : gK h b = (0, 8) := s.K 0 (by decide) rfl
  have K1 : gK h (b + 1) = (0, 1) := s.K 1 (by decide) rfl
  have K23 : gK h (b + 23) = (0, 6) := s.K 23 (by decide) rfl
  have K24 : gK h (b + 24) = (1, 64) := s.K 24 (by decide) rfl
  have K124 : gK h (b + 124) = (0, 0) := s.K 124 (by decide) rfl
  have K129 : gK h (b + 129) = (1, 10) := s.K 129 (by decide) rfl
  have K130 : gK h (b + 130) = (1, 10) := s.K 130 (by decide) rfl
  have K131 : gK h (b + 131) = (0, 9) := s.K 131 (by decide) rfl
  have K152 : gK h (b + 152) = (1, 128) := s.K 152 (by decide) rfl
  have K166 : gK h (b + 166) = (1, 10) := s.K 166 (by decide) rfl
  have K167 : gK h (b + 167) = (1, 10) := s.K 167 (by decide) rfl
  have R0_0 : gR h b 0 = some (b + 1) := s.R 0 0 rfl
  have R0_4 : gR h b 4 = some (b + 124) := s.R 0 4 rfl
  have R1_5 : gR h (b + 1) 5 = some (b + 23) := s.R 1 5 rfl
  have R23_1 : gR h (b + 23) 1 = some (b + 24) := s.R 23 1 rfl
  have R131_41 : gR h (b + 131) 41 = some (b + 152) := s.R 131 41 rfl
  have R131_60 : gR h (b + 131) 60 = some (b + 166) := s.R 131 60 rfl
  have R131_61 : gR h (b + 131) 61 = some (b + 167) := s.R 131 61 rfl
  obtain ⟨n, hn, ⟨W0, N2⟩, MM, LL⟩ := c_roa
  rcases in_cases v1 9 9 rfl (by omega) with ⟨fm, hfm, rfl, u1, i1⟩ | ⟨u1, i1⟩
  case inr => exact both_ref I0 (r := -1) (by simp [f_Tc_driest, u1, ↓ob_eq, ob_so, ldI, ldR, ldO, stI, stZ, stR, isO, wrA_n, rdA_n, wrA_l, rdA_l, gK_sI, gR_sI, gX_sI, gN_sI, gK_cp, gR_cp, gX_cp, gN_cp, rtZ_0, rtZ_1, if_true, reduceIte, and_self, true_and, and_true]) (by simp [f_Mo_driest, i1, ↓ob_eq, ob_so, ldI, ldR, ldO, stI, stZ, stR, isO, wrA_n, rdA_n, wrA_l, rdA_l, gK_sI, gR_sI, gX_sI, gN_sI, gK_cp, gR_cp, gX_cp, gN_cp, rtZ_0, rtZ_1, if_true, reduceIte, and_self, true_and, and_true, K131])
  rcases in_cases v2 9 9 rfl (by omega) with ⟨to, hto, rfl, u2, i2⟩ | ⟨u2, i2⟩
  case inr => exact both_ref I0 (r := -1) (by simp [f_Tc_driest, u1, u2, ↓ob_eq, ob_so, ldI, ldR, ldO, stI, stZ, stR, isO, wrA_n, rdA_n, wrA_l, rdA_l, gK_sI, gR_sI, gX_sI, gN_sI, gK_cp, gR_cp, gX_cp, gN_cp, rtZ_0, rtZ_1, if_true, reduceIte, and_self, true_and, and_true]) (by simp [f_Mo_driest, i1, i2, ↓ob_eq, ob_so, ldI, ldR, ldO, stI, stZ, stR, isO, wrA_n, rdA_n, wrA_l, rdA_l, gK_sI, gR_sI, gX_sI, gN_sI, gK_cp, gR_cp, gX_cp, gN_cp, rtZ_0, rtZ_1, if_true, reduceIte, and_self, true_and, and_true, K131])
  rcases in_cases v3 99 99 rfl (by omega) with ⟨w0, hw0, rfl, u3, i3⟩ | ⟨u3, i3⟩
  case inr => exact both_ref I0 (r := -1) (by simp [f_Tc_driest, u1, u2, u3, ↓ob_eq, ob_so, ldI, ldR, ldO, stI, stZ, stR, isO, wrA_n, rdA_n, wrA_l, rdA_l, gK_sI, gR_sI, gX_sI, gN_sI, gK_cp, gR_cp, gX_cp, gN_cp, rtZ_0, rtZ_1, if_true, reduceIte, and_self, true_and, and_true]) (by simp [f_Mo_driest, i1, i2, i3, ↓ob_eq, ob_so, ldI, ldR, ldO, stI, stZ, stR, isO, wrA_n, rdA_n, wrA_l, rdA_l, gK_sI, gR_sI, gX_sI, gN_sI, gK_cp, gR_cp, gX_cp, gN_cp, rtZ_0, rtZ_1, if_true, reduceIte, and_self, true_and, and_true, K131])
  rcases in_cases v4 1 1 rfl (by omega) with ⟨wh, hwh, rfl, u4, i4⟩ | ⟨u4, i4⟩
  case inr => exact both_ref I0 (r := -1) (by simp [f_Tc_driest, u1, u2, u3, u4, ↓ob_eq, ob_so, ldI, ldR, ldO, stI, stZ, stR, isO, wrA_n, rdA_n, wrA_l, rdA_l, gK_sI, gR_sI, gX_sI, gN_sI, gK_cp, gR_cp, gX_cp, gN_cp, rtZ_0, rtZ_1, if_true, reduceIte, and_self, true_and, and_true]) (by simp [f_Mo_driest, i1, i2, i3, i4, ↓ob_eq, ob_so, ldI, ldR, ldO, stI, stZ, stR, isO, wrA_n, rdA_n, wrA_l, rdA_l, gK_sI, gR_sI, gX_sI, gN_sI, gK_cp, gR_cp, gX_cp, gN_cp, rtZ_0, rtZ_1, if_true, reduceIte, and_self, true_and, and_true, K131])
  obtain ⟨X, hX⟩ : ∃ X : Nat → Nat, ∀ l, X l = (gI h (b + 24) (4 * l)).toNatClampNeg := ⟨_, fun l => rfl⟩
  obtain ⟨Y, hY⟩ : ∃ Y : Nat → Nat, ∀ l, Y l = (gI h (b + 24) (4 * l + 1)).toNatClampNeg := ⟨_, fun l => rfl⟩
  obtain ⟨U, hU⟩ : ∃ U : Nat → Nat, ∀ l, U l = (gI h (b + 24) (4 * l + 2)).toNatClampNeg := ⟨_, fun l => rfl⟩
  obtain ⟨W, hW⟩ : ∃ W : Nat → Nat, ∀ l, W l = (gI h (b + 24) (4 * l + 3)).toNatClampNeg := ⟨_, fun l => rfl⟩
  have D : ∀ l, l < n → (X l < 10 ∧ Y l < 10 ∧ U l ≤ 99 ∧ W l ≤ 99) ∧ (gI h (b + 24) (4 * l) = nI (X l) ∧ gI h (b + 24) (4 * l + 1) = nI (Y l) ∧ gI h (b + 24) (4 * l + 2) = nI (U l) ∧ gI h (b + 24) (4 * l + 3) = nI (W l)) ∧ gI h (b + 152) (4 * l) = nI (X l) ∧ gI h (b + 152) (4 * l + 1) = nI (Y l) ∧ gI h (b + 152) (4 * l + 2) = nI (U l) ∧ gI h (b + 152) (4 * l + 3) = nI (W l) := fun l hl => by
    obtain ⟨x, y, u, w, a1, a2, a3, a4, a5, a6, a7, a8, a9, a10, a11, a12⟩ := LL l hl
    rw [hX, hY, hU, hW, a5, a6, a7, a8, a9, a10, a11, a12, tn_nI (by omega), tn_nI (by omega), tn_nI (by omega), tn_nI (by omega)]
    exact ⟨⟨a1, a2, a3, a4⟩, ⟨rfl, rfl, rfl, rfl⟩, rfl, rfl, rfl, rfl⟩
  -- what the class reads of a road
  have rows : ∀ p q s, Sd p q b h s → gK s (b + 23) = (0, 6) ∧ gI s (b + 23) 2 = nI n ∧ (∀ l, l < n → f_Row_get (b + 23) (nI l) 0 s = some (nI (X l), s) ∧ f_Row_get (b + 23) (nI l) 1 s = some (nI (Y l), s) ∧ f_Row_get (b + 23) (nI l) 2 s = some (nI (U l), s) ∧ f_Row_get (b + 23) (nI l) 3 s = some (nI (W l), s)) := fun p q s t => by
    obtain ⟨t1, t2, t3, t4, t5, t6, t7⟩ := t
    have k23 : gK s (b + 23) = (0, 6) := by rw [t1]; exact K23
    have k24 : gK s (b + 24) = (1, 64) := by rw [t1]; exact K24
    have r23 : gR s (b + 23) 1 = some (b + 24) := by rw [t4 _ _ (fun z => absurd z.1 (by omega))]; exact R23_1
    have w0 : gI s (b + 23) 0 = nI 4 := by rw [t7 23 0 (by decide)]; exact W0
    have n2 : gI s (b + 23) 2 = nI n := by rw [t7 23 2 (by decide)]; exact N2
    have g24 : ∀ j, gI s (b + 24) j = gI h (b + 24) j := fun j => t7 24 j (by simp [inL])
    refine ⟨k23, n2, fun l hl => ?_⟩
    have gt : ∀ i, i < 4 → f_Row_get (b + 23) (nI l) (nI i) s = some (gI h (b + 24) (4 * l + i), s) := fun i hi => by
      have := row_get (w := 4) (l := l) (i := i) k23 r23 k24 w0 n2 hl hi (by omega) (by omega) (by omega)
      rw [Nat.mul_comm l 4, g24] at this
      exact this
    have d := (D l hl).2.1
    have g0 := gt 0 (by omega)
    have g1 := gt 1 (by omega)
    have g2 := gt 2 (by omega)
    have g3 := gt 3 (by omega)
    rw [d.2.1] at g1
    rw [d.2.2.1] at g2
    rw [d.2.2.2] at g3
    have g0 : f_Row_get (b + 23) (nI l) 0 s = some (gI h (b + 24) (4 * l), s) := g0
    rw [d.1] at g0
    exact ⟨g0, g1, g2, g3⟩
  have cfirst : ∀ p q s, Sd p q b h s → ∀ k, k < n → f_Desk_isFirst (b + 124) (b + 23) (nI k) s = some (fr X Y k, s) := fun p q s t k hk => by
    obtain ⟨k23, n2, gt⟩ := rows p q s t
    have gk := gt k hk
    have dk := (D k hk).1
    have st : ∀ N o, o < k → f_Desk_isFirst_2 (N + 1) (b + 23) (nI k) (nI o) s = if X o = X k ∧ Y o = Y k then some (0, s) else f_Desk_isFirst_2 N (b + 23) (nI k) (nI (o + 1)) s := fun N o ho => by
      have go := gt o (by omega)
      have do' := (D o (by omega)).1
      have e2 : ¬ k ≤ o := by omega
      rw [f_Desk_isFirst_2]
      by_cases q1 : X o = X k
      · by_cases q2 : Y o = Y k
        · simp (disch := omega) [↓ob_eq, ob_so, ldI, ldR, ldO, stI, stZ, stR, isO, wrA_n, rdA_n, wrA_l, rdA_l, gK_sI, gR_sI, gX_sI, gN_sI, gK_cp, gR_cp, gX_cp, gN_cp, rtZ_0, rtZ_1, if_true, reduceIte, and_self, true_and, and_true, k23, e2, go, gk, q1, q2, nI_le', nI_addL]
        · simp (disch := omega) [↓ob_eq, ob_so, ldI, ldR, ldO, stI, stZ, stR, isO, wrA_n, rdA_n, wrA_l, rdA_l, gK_sI, gR_sI, gX_sI, gN_sI, gK_cp, gR_cp, gX_cp, gN_cp, rtZ_0, rtZ_1, if_true, reduceIte, and_self, true_and, and_true, k23, e2, go, gk, q1, q2, nI_le', nI_eq', nI_addL]
      · simp (disch := omega) [↓ob_eq, ob_so, ldI, ldR, ldO, stI, stZ, stR, isO, wrA_n, rdA_n, wrA_l, rdA_l, gK_sI, gR_sI, gX_sI, gN_sI, gK_cp, gR_cp, gX_cp, gN_cp, rtZ_0, rtZ_1, if_true, reduceIte, and_self, true_and, and_true, k23, e2, go, gk, q1, nI_le', nI_eq', nI_addL]
    have a1 := lpx0 (fun N (_ : Unit) o => f_Desk_isFirst_2 N (b + 23) (nI k) (nI o) s) (fun o (_ : Unit) => decide (X o = X k ∧ Y o = Y k)) (fun _ _ => some ((0 : Int32), s)) (fun _ x => x) k (fun _ => some ((1 : Int32), s)) () FU (by rw [FU_eq]; omega) (fun N o _ ho w => by
        have w := of_decide_eq_true w
        show f_Desk_isFirst_2 (N + 1) (b + 23) (nI k) (nI o) s = some ((0 : Int32), s)
        rw [st N o ho, if_pos w]) (fun N o _ ho w => by
        have w := of_decide_eq_false w
        show f_Desk_isFirst_2 (N + 1) (b + 23) (nI k) (nI o) s = f_Desk_isFirst_2 N (b + 23) (nI k) (nI (o + 1)) s
        rw [st N o ho, if_neg w]) (fun N _ => by
        show f_Desk_isFirst_2 (N + 1) (b + 23) (nI k) (nI k) s = some ((1 : Int32), s)
        rw [f_Desk_isFirst_2, if_pos ((nI_le' (by omega) (by omega)).mpr (Nat.le_refl _)), rtZ_1])
    exact a1.trans (fox_via (fun r q => r = some (q, s)) k 0 () (fun _ _ _ _ => rfl) (fun _ => rfl))
  have w9 : ∀ x s, x < 10 → f_Tc_within (nI x) 9 s = some (1, s) := fun x s hx => by
    have e0 : ¬ nI x < 0 := nI_pos (by omega)
    have e3 : ¬ (9 : Int32) < nI x := fun z => by
      have this : 9 < x := (L_ltn (n := 9) (m := x) (by omega) (by decide)).mp z
      omega
    unfold f_Tc_within
    rw [if_neg e0, if_neg e3, rtZ_1]
  -- all roads, by the class
  have cgo : ∀ p q s (L : Nat → Option Nat), PQ p q → LB L → Sd p q b h s → Ov s (b + p) ec 10 L → ∃ s2, Sd q p b h s2 ∧ Ov s2 (b + q) ec 10 (nxL X Y U W n L) ∧ f_Desk_goOn (b + 124) (b + 23) s = some s2 := fun p q s L pq lb t ov => by
    have pq1 : p = 129 ∨ p = 130 := pq.elim (fun z => Or.inl z.1) (fun z => Or.inr z.1)
    have pq2 : q = 129 ∨ q = 130 := pq.elim (fun z => Or.inr z.2) (fun z => Or.inl z.2)
    have pne : p ≠ q := by rcases pq with ⟨rfl, rfl⟩ | ⟨rfl, rfl⟩ <;> decide
    have kp : gK h (b + p) = (1, 10) := by rcases pq1 with rfl | rfl; exact K129; exact K130
    have kq : gK h (b + q) = (1, 10) := by rcases pq2 with rfl | rfl; exact K129; exact K130
    have key := lp (fun N (s : PH) j => f_Desk_goOn_2 N (b + 124) (b + 23) (nI j) s) (fun j s => sI s (b + q) j (-1)) (fun j s => Sd p q b h s ∧ Ov s (b + p) ec 10 L ∧ Ov s (b + q) ec j (fun _ => none)) 10 (fun s => f_Desk_goOn_23 FU (b + 124) (b + 23) 0 s)
      (fun N j s hj z => by
        obtain ⟨z1, z2, z3⟩ := z
        have e2 : ¬ 10 ≤ j := by omega
        have kk : gK s (b + 124) = (0, 0) ∧ gK s (b + q) = (1, 10) := ⟨by rw [z1.1]; exact K124, by rw [z1.1]; exact kq⟩
        have rr : gR s (b + 124) 5 = some (b + q) := z1.2.2.2.2.2.1
        rw [f_Desk_goOn_2]
        simp (disch := omega) [↓ob_eq, ob_so, ldI, ldR, ldO, stI, stZ, stR, isO, wrA_n, rdA_n, wrA_l, rdA_l, gK_sI, gR_sI, gX_sI, gN_sI, gK_cp, gR_cp, gX_cp, gN_cp, rtZ_0, rtZ_1, if_true, reduceIte, and_self, true_and, and_true, kk, rr, e2, hj, L_len, nI_addL])
      (fun j s hj z => by
        obtain ⟨z1, z2, z3⟩ := z
        refine ⟨z1.put q j _ pq2 hj, fun i hi => ?_, fun i hi => ?_⟩
        · simp (disch := omega) only [gI_q, gI_n1, gI_n2]; exact z2 i hi
        · by_cases y : i = j
          · subst y; simp (disch := omega) only [gI_q, gI_n1, gI_n2]; rfl
          · simp (disch := omega) only [gI_q, gI_n1, gI_n2]; exact z3 i (by omega))
      (fun N s z => by rw [f_Desk_goOn_2, if_pos (by decide)])
      10 0 s FU (by omega) ⟨t, ov, fun i hi => absurd hi (by omega)⟩ (by rw [FU_eq]; omega)
    obtain ⟨k1, k2, k3, k4⟩ := key
    obtain ⟨T, hT⟩ : ∃ T : Nat → Nat → Option Nat, ∀ k, T k = fo (gs X Y U W L) 0 k (fun _ => none) := ⟨_, fun k => rfl⟩
    have Ts : ∀ k, T (k + 1) = gs X Y U W L k (T k) := fun k => by rw [hT, hT, fo_succ, Nat.zero_add]
    have TB : ∀ k, LB (T k) := fun k => by rw [hT]; exact nxL_LB (n := n) k
    have key2 := lp (fun N (s : PH) k => f_Desk_goOn_23 N (b + 124) (b + 23) (nI k) s) (fun k s => if fr X Y k = 0 ∨ L (X k) = none then s else sI s (b + q) (Y k) (ec (T (k + 1) (Y k)))) (fun k s => Sd p q b h s ∧ Ov s (b + p) ec 10 L ∧ Ov s (b + q) ec 10 (T k)) n (fun s => some (sR (sR s (b + 124) 4 (some (b + q))) (b + 124) 5 (some (b + p))))
      (fun N k s hk z => by
        obtain ⟨z1, z2, z3⟩ := z
        have e2 : ¬ n ≤ k := by omega
        obtain ⟨k23, n2, gt⟩ := rows p q s z1
        obtain ⟨g0, g1, g2, g3⟩ := gt k hk
        obtain ⟨d1, d2, d3, d4⟩ := (D k hk).1
        have kk : gK s (b + 124) = (0, 0) ∧ gK s (b + p) = (1, 10) ∧ gK s (b + q) = (1, 10) := ⟨by rw [z1.1]; exact K124, by rw [z1.1]; exact kp, by rw [z1.1]; exact kq⟩
        have r4 : gR s (b + 124) 4 = some (b + p) := z1.2.2.2.2.1
        have r5 : gR s (b + 124) 5 = some (b + q) := z1.2.2.2.2.2.1
        have wx := w9 (X k) s d1
        have wy := w9 (Y k) s d2
        have fs := cfirst p q s z1 k hk
        have vx := z2 (X k) d1
        have vy := z3 (Y k) d2
        have e10 : ¬ (1 : Int32) = 0 := by decide
        rw [f_Desk_goOn_23]
        cases qL : L (X k) with
        | none =>
          rw [qL] at vx
          have vx : gI s (b + p) (X k) = -1 := vx
          simp (disch := omega) only [↓ob_eq, ob_so, ldI, ldR, ldO, stI, stZ, stR, isO, wrA_n, rdA_n, wrA_l, rdA_l, gK_sI, gR_sI, gX_sI, gN_sI, gK_cp, gR_cp, gX_cp, gN_cp, rtZ_0, rtZ_1, if_true, reduceIte, and_self, true_and, and_true, k23, n2, e2, e10, g0, g1, wx, wy, kk, r4, d1, vx, nI_le', nI_addL, if_false, or_true]
        | some x =>
          rw [qL] at vx
          have vx : gI s (b + p) (X k) = nI x := vx
          have hx : x ≤ 99 := lb _ _ qL
          have xm := nI_m1 hx
          by_cases qf : fr X Y k = 0
          · simp (disch := omega) only [↓ob_eq, ob_so, ldI, ldR, ldO, stI, stZ, stR, isO, wrA_n, rdA_n, wrA_l, rdA_l, gK_sI, gR_sI, gX_sI, gN_sI, gK_cp, gR_cp, gX_cp, gN_cp, rtZ_0, rtZ_1, if_true, reduceIte, and_self, true_and, and_true, k23, n2, e2, e10, g0, g1, wx, wy, kk, r4, d1, vx, xm, fs, qf, nI_le', nI_addL, if_false, true_or]
          · have dc := dry_c hx d3 d4
            have qo : (some x = none) = False := eq_false (fun y => by cases y)
            cases qT : T k (Y k) with
            | none =>
              rw [qT] at vy
              have vy : gI s (b + q) (Y k) = -1 := vy
              have eT : ec (T (k + 1) (Y k)) = nI (Nat.min 99 (x - U k + W k)) := by
                rw [Ts]; unfold gs; rw [if_neg qf, qL]; dsimp only; rw [if_pos rfl, qT]; rfl
              rw [eT]
              simp (disch := omega) only [f_Desk_goOn_153, ↓ob_eq, ob_so, ldI, ldR, ldO, stI, stZ, stR, isO, wrA_n, rdA_n, wrA_l, rdA_l, gK_sI, gR_sI, gX_sI, gN_sI, gK_cp, gR_cp, gX_cp, gN_cp, rtZ_0, rtZ_1, if_true, reduceIte, and_self, true_and, and_true, k23, n2, e2, e10, g0, g1, g2, g3, wx, wy, kk, r4, r5, d1, d2, vx, vy, xm, fs, qf, qo, dc, nI_le', nI_addL, if_false, or_self]
            | some y =>
              rw [qT] at vy
              have vy : gI s (b + q) (Y k) = nI y := vy
              have hy : y ≤ 99 := TB k _ _ qT
              have ym := nI_m1 hy
              have eT : ec (T (k + 1) (Y k)) = nI (Nat.min y (Nat.min 99 (x - U k + W k))) := by
                rw [Ts]; unfold gs; rw [if_neg qf, qL]; dsimp only; rw [if_pos rfl, qT]; rfl
              have hm : Nat.min 99 (x - U k + W k) ≤ 99 := Nat.min_le_left _ _
              have jm := jminN (a := y) (c := Nat.min 99 (x - U k + W k)) (by omega) (by omega)
              rw [eT]
              simp (disch := omega) only [f_Desk_goOn_153, ↓ob_eq, ob_so, ldI, ldR, ldO, stI, stZ, stR, isO, wrA_n, rdA_n, wrA_l, rdA_l, gK_sI, gR_sI, gX_sI, gN_sI, gK_cp, gR_cp, gX_cp, gN_cp, rtZ_0, rtZ_1, if_true, reduceIte, and_self, true_and, and_true, k23, n2, e2, e10, g0, g1, g2, g3, wx, wy, kk, r4, r5, d1, d2, vx, vy, xm, ym, fs, qf, qo, dc, jm, nI_le', nI_addL, if_false, or_self])
      (fun k s hk z => by
        obtain ⟨z1, z2, z3⟩ := z
        obtain ⟨d1, d2, d3, d4⟩ := (D k hk).1
        by_cases y : fr X Y k = 0 ∨ L (X k) = none
        · rw [if_pos y]
          refine ⟨z1, z2, ?_⟩
          have e : T (k + 1) = T k := by
            rw [Ts]; unfold gs
            rcases y with y | y
            · rw [if_pos y]
            · rw [y]; split <;> rfl
          rw [e]; exact z3
        · rw [if_neg y]
          refine ⟨z1.put q _ _ pq2 d2, fun i hi => ?_, fun i hi => ?_⟩
          · simp (disch := omega) only [gI_q, gI_n1, gI_n2]; exact z2 i hi
          · by_cases y2 : i = Y k
            · rw [y2]; simp (disch := omega) only [gI_q, gI_n1, gI_n2]
            · simp (disch := omega) only [gI_q, gI_n1, gI_n2]
              have e : T (k + 1) i = T k i := by
                rw [Ts]; unfold gs
                rw [if_neg (fun z => y (Or.inl z))]
                cases qL : L (X k) with
                | none => rfl
                | some x => dsimp only; rw [if_neg y2]
              rw [e]; exact z3 i hi)
      (fun N s z => by
        obtain ⟨z1, z2, z3⟩ := z
        obtain ⟨k23, n2, gt⟩ := rows p q s z1
        have kk : gK s (b + 124) = (0, 0) := by rw [z1.1]; exact K124
        have r4 : gR s (b + 124) 4 = some (b + p) := z1.2.2.2.2.1
        have r5 : gR s (b + 124) 5 = some (b + q) := z1.2.2.2.2.2.1
        rw [f_Desk_goOn_23]
        simp (disch := omega) only [↓ob_eq, ob_so, ldI, ldR, ldO, stI, stZ, stR, isO, wrA_n, rdA_n, wrA_l, rdA_l, gK_sI, gR_sI, gX_sI, gN_sI, gK_cp, gR_cp, gX_cp, gN_cp, rtZ_0, rtZ_1, if_true, reduceIte, and_self, true_and, and_true, gK_sR, k23, n2, kk, r4, r5, nI_le', Nat.le_refl])
      n 0 _ FU (by omega) ⟨k2, k3, by rw [hT]; exact k4⟩ (by rw [FU_eq]; omega)
    obtain ⟨m1, m2, m3, m4⟩ := key2
    refine ⟨_, m2.swap, ?_, k1.trans m1⟩
    rw [hT] at m4
    exact m4
  obtain ⟨L0, hL0⟩ : ∃ L0 : Nat → Option Nat, L0 = fun p => if p = fm then some w0 else none := ⟨_, rfl⟩
  have LB0 : LB L0 := fun p x hx => by
    rw [hL0] at hx
    dsimp only at hx
    by_cases q : p = fm
    · rw [if_pos q] at hx; cases hx; exact hw0
    · rw [if_neg q] at hx; cases hx
  obtain ⟨LL2, hLs⟩ : ∃ LL2, LL2 = Ls X Y U W n L0 := ⟨_, rfl⟩
  have LBr : ∀ r, LB (LL2 r) := fun r => by rw [hLs]; exact Ls_LB LB0 r
  have Lst : ∀ r, LL2 (r + 1) = nxL X Y U W n (LL2 r) := fun r => by rw [hLs]; rfl
  have bB := bf_B (L := LL2) (to := to) LBr
  have c44 : ∀ e r M p q s, r + e = 13 → e < M → PQ p q → Sd p q b h s → Ov s (b + p) ec 10 (LL2 r) → ∃ s2 p' q', PQ p' q' ∧ Sd p' q' b h s2 ∧ f_Desk_driestWay_44 M (b + 124) (b + 23) (nI to) (nI wh) (ec (bf LL2 to r).1) (bf LL2 to r).2 (nI r) s = some (if nI wh = 0 then ec (bf LL2 to 13).1 else (bf LL2 to 13).2, s2) := by
    intro e
    induction e with
    | zero =>
      intro r M p q s hr hM pq t ov
      obtain ⟨N, rfl⟩ : ∃ N, M = N + 1 := ⟨M - 1, by omega⟩
      obtain rfl : r = 13 := by omega
      refine ⟨s, p, q, pq, t, ?_⟩
      rw [f_Desk_driestWay_44, if_pos (by decide)]
      by_cases z : nI wh = 0
      · rw [if_pos z, if_pos z]
      · rw [if_neg z, if_neg z]
    | succ e ih =>
      intro r M p q s hr hM pq t ov
      obtain ⟨N, rfl⟩ : ∃ N, M = N + 1 := ⟨M - 1, by omega⟩
      obtain ⟨s1, t1, o1, g1⟩ := cgo p q s (LL2 r) pq (LBr r) t ov
      rw [← Lst] at o1
      obtain ⟨s2, p', q', pq', t2, e2⟩ := ih (r + 1) N q p s1 (by omega) (by omega) pq.sw t1 o1
      refine ⟨s2, p', q', pq', t2, ?_⟩
      have e12 : ¬ (12 : Int32) < nI r := fun z => by
        have this : 12 < r := (L_ltn (n := 12) (m := r) (by omega) (by decide)).mp z
        omega
      have pq1 : p = 129 ∨ p = 130 := pq.elim (fun z => Or.inl z.1) (fun z => Or.inr z.1)
      have kp : gK h (b + p) = (1, 10) := by rcases pq1 with rfl | rfl; exact K129; exact K130
      have kk : gK s (b + 124) = (0, 0) ∧ gK s (b + p) = (1, 10) := ⟨by rw [t.1]; exact K124, by rw [t.1]; exact kp⟩
      have r4 : gR s (b + 124) 4 = some (b + p) := t.2.2.2.2.1
      have wt := w9 to s (by omega)
      have vt := ov to (by omega)
      have to10 : to < 10 := by omega
      have e10 : ¬ (1 : Int32) = 0 := by decide
      obtain ⟨B1, B2⟩ := bB r
      have main : f_Desk_driestWay_44 (N + 1) (b + 124) (b + 23) (nI to) (nI wh) (ec (bf LL2 to r).1) (bf LL2 to r).2 (nI r) s = f_Desk_driestWay_44 N (b + 124) (b + 23) (nI to) (nI wh) (ec (bf LL2 to (r + 1)).1) (bf LL2 to (r + 1)).2 (nI (r + 1)) s1 := by
        rw [f_Desk_driestWay_44, bf]
        unfold bfu
        cases qh : LL2 r to with
        | none =>
          rw [qh] at vt
          have vt : gI s (b + p) to = -1 := vt
          simp (disch := omega) only [f_Desk_driestWay_70, f_Desk_driestWay_99, ↓ob_eq, ob_so, ldI, ldR, ldO, stI, stZ, stR, isO, wrA_n, rdA_n, wrA_l, rdA_l, gK_sI, gR_sI, gX_sI, gN_sI, gK_cp, gR_cp, gX_cp, gN_cp, rtZ_0, rtZ_1, if_true, reduceIte, and_self, true_and, and_true, e12, e10, wt, kk, r4, to10, vt, g1, nI_addL, if_false]
        | some x =>
          rw [qh] at vt
          have vt : gI s (b + p) to = nI x := vt
          have hx : x ≤ 99 := LBr r _ _ qh
          have xm := nI_m1 hx
          cases qb : (bf LL2 to r).1 with
          | none =>
            have en : ec none = -1 := rfl
            have es : ∀ x, ec (some x) = nI x := fun _ => rfl
            simp (disch := omega) only [f_Desk_driestWay_70, f_Desk_driestWay_91, f_Desk_driestWay_99, ↓ob_eq, ob_so, ldI, ldR, ldO, stI, stZ, stR, isO, wrA_n, rdA_n, wrA_l, rdA_l, gK_sI, gR_sI, gX_sI, gN_sI, gK_cp, gR_cp, gX_cp, gN_cp, rtZ_0, rtZ_1, if_true, reduceIte, and_self, true_and, and_true, e12, e10, wt, kk, r4, to10, vt, xm, en, es, g1, nI_addL, if_false]
          | some y =>
            have hy := B1 y qb
            have ym := nI_m1 hy
            have es : ∀ x, ec (some x) = nI x := fun _ => rfl
            by_cases q3 : x < y
            · have q4 : ¬ y ≤ x := by omega
              simp (disch := omega) only [f_Desk_driestWay_70, f_Desk_driestWay_91, f_Desk_driestWay_99, ↓ob_eq, ob_so, ldI, ldR, ldO, stI, stZ, stR, isO, wrA_n, rdA_n, wrA_l, rdA_l, gK_sI, gR_sI, gX_sI, gN_sI, gK_cp, gR_cp, gX_cp, gN_cp, rtZ_0, rtZ_1, if_true, reduceIte, and_self, true_and, and_true, e12, e10, wt, kk, r4, to10, vt, xm, ym, es, g1, q3, q4, nI_le', nI_addL, if_false]
            · have q4 : y ≤ x := by omega
              simp (disch := omega) only [f_Desk_driestWay_70, f_Desk_driestWay_91, f_Desk_driestWay_99, ↓ob_eq, ob_so, ldI, ldR, ldO, stI, stZ, stR, isO, wrA_n, rdA_n, wrA_l, rdA_l, gK_sI, gR_sI, gX_sI, gN_sI, gK_cp, gR_cp, gX_cp, gN_cp, rtZ_0, rtZ_1, if_true, reduceIte, and_self, true_and, and_true, e12, e10, wt, kk, r4, to10, vt, xm, ym, es, qb, g1, q3, q4, nI_le', nI_addL, if_false]
      exact main.trans e2
  have cdw : ∃ s2 p' q', PQ p' q' ∧ Sd p' q' b h s2 ∧ f_Desk_driestWay (b + 124) (b + 23) (nI fm) (nI to) (nI w0) (nI wh) h = some (if nI wh = 0 then ec (bf LL2 to 13).1 else (bf LL2 to 13).2, s2) := by
    obtain ⟨p, q, pq, t⟩ : ∃ p q, PQ p q ∧ Sd p q b h h := by
      rcases cd with ⟨d1, d2⟩ | ⟨d1, d2⟩
      · exact ⟨129, 130, Or.inl ⟨rfl, rfl⟩, rfl, rfl, rfl, fun _ _ _ => rfl, d1, d2, fun _ _ _ => rfl⟩
      · exact ⟨130, 129, Or.inr ⟨rfl, rfl⟩, rfl, rfl, rfl, fun _ _ _ => rfl, d1, d2, fun _ _ _ => rfl⟩
    have pq1 : p = 129 ∨ p = 130 := pq.elim (fun z => Or.inl z.1) (fun z => Or.inr z.1)
    have kp : gK h (b + p) = (1, 10) := by rcases pq1 with rfl | rfl; exact K129; exact K130
    have key := lp (fun N (s : PH) j => f_Desk_driestWay_3 N (b + 124) (b + 23) (nI fm) (nI to) (nI w0) (nI wh) (nI j) s) (fun j s => sI s (b + p) j (ec (L0 j))) (fun j s => Sd p q b h s ∧ Ov s (b + p) ec j L0) 10 (fun s => f_Desk_driestWay_44 FU (b + 124) (b + 23) (nI to) (nI wh) (-1) (-1) 0 s)
      (fun N j s hj z => by
        obtain ⟨z1, z2⟩ := z
        have e2 : ¬ 10 ≤ j := by omega
        have kk : gK s (b + 124) = (0, 0) ∧ gK s (b + p) = (1, 10) := ⟨by rw [z1.1]; exact K124, by rw [z1.1]; exact kp⟩
        have rr : gR s (b + 124) 4 = some (b + p) := z1.2.2.2.2.1
        rw [f_Desk_driestWay_3]
        by_cases y : j = fm
        · subst y
          have eL : ec (L0 j) = nI w0 := by rw [hL0]; dsimp only; rw [if_pos rfl]; rfl
          rw [eL]
          simp (disch := omega) [f_Desk_driestWay_28, ↓ob_eq, ob_so, ldI, ldR, ldO, stI, stZ, stR, isO, wrA_n, rdA_n, wrA_l, rdA_l, gK_sI, gR_sI, gX_sI, gN_sI, gK_cp, gR_cp, gX_cp, gN_cp, rtZ_0, rtZ_1, if_true, reduceIte, and_self, true_and, and_true, kk, rr, e2, hj, L_len, nI_addL]
        · have eL : ec (L0 j) = -1 := by rw [hL0]; dsimp only; rw [if_neg y]; rfl
          rw [eL]
          simp (disch := omega) [f_Desk_driestWay_28, ↓ob_eq, ob_so, ldI, ldR, ldO, stI, stZ, stR, isO, wrA_n, rdA_n, wrA_l, rdA_l, gK_sI, gR_sI, gX_sI, gN_sI, gK_cp, gR_cp, gX_cp, gN_cp, rtZ_0, rtZ_1, if_true, reduceIte, and_self, true_and, and_true, kk, rr, e2, hj, y, L_len, nI_eq', nI_addL])
      (fun j s hj z => by
        obtain ⟨z1, z2⟩ := z
        refine ⟨z1.put p j _ pq1 hj, fun i hi => ?_⟩
        by_cases y : i = j
        · subst y; simp (disch := omega) only [gI_q, gI_n1, gI_n2]
        · simp (disch := omega) only [gI_q, gI_n1, gI_n2]; exact z2 i (by omega))
      (fun N s z => by rw [f_Desk_driestWay_3, if_pos (by decide)])
      10 0 h FU (by omega) ⟨t, fun i hi => absurd hi (by omega)⟩ (by rw [FU_eq]; omega)
    obtain ⟨k1, k2, k3⟩ := key
    obtain ⟨s2, p', q', pq', t2, e2⟩ := c44 13 0 FU p q _ (by omega) (by rw [FU_eq]; omega) pq k2 (by rw [hLs]; exact k3)
    refine ⟨s2, p', q', pq', t2, ?_⟩
    rw [nI_0] at e2
    exact k1.trans e2
  obtain ⟨h1, p, q, pq, t1, e1⟩ := cdw
  have I1 : Inv b h1 := I0.sd pq t1
  -- the reference
  obtain ⟨T1, T2, T3, T4, T5, T6, T7⟩ := t1
  have g131 : ∀ k, gR h1 (b + 131) k = gR h (b + 131) k := fun k => T4 _ k (fun z => absurd z.1 (by omega))
  have rd : ∀ s, Sn [(131, 0, 1), (166, 0, 10), (167, 0, 10)] b h1 s → (gK s (b + 131) = (0, 9) ∧ gK s (b + 152) = (1, 128) ∧ gK s (b + 166) = (1, 10) ∧ gK s (b + 167) = (1, 10)) ∧ (gR s (b + 131) 41 = some (b + 152) ∧ gR s (b + 131) 60 = some (b + 166) ∧ gR s (b + 131) 61 = some (b + 167)) ∧ gI s (b + 131) 40 = nI n ∧ ∀ l, l < n → gI s (b + 152) (4 * l) = nI (X l) ∧ gI s (b + 152) (4 * l + 1) = nI (Y l) ∧ gI s (b + 152) (4 * l + 2) = nI (U l) ∧ gI s (b + 152) (4 * l + 3) = nI (W l) := fun s t => by
    refine ⟨⟨by rw [t.1, T1]; exact K131, by rw [t.1, T1]; exact K152, by rw [t.1, T1]; exact K166, by rw [t.1, T1]; exact K167⟩, ⟨by rw [t.2.1, g131]; exact R131_41, by rw [t.2.1, g131]; exact R131_60, by rw [t.2.1, g131]; exact R131_61⟩, ?_, fun l hl => ?_⟩
    · rw [t.I (by decide), T7 131 40 (by decide)]; exact MM
    · have e : ∀ j, gI s (b + 152) j = gI h (b + 152) j := fun j => by rw [t.2.2.2.2 152 j (by simp [inL]), T7 152 j (by simp [inL])]
      rw [e, e, e, e]
      exact (D l hl).2.2
  have rfirst : ∀ s, Sn [(131, 0, 1), (166, 0, 10), (167, 0, 10)] b h1 s → ∀ k, k < n → f_Mo_isFirstRoad (b + 131) (nI k) s = some (fr X Y k, s) := fun s t k hk => by
    obtain ⟨kk, rr, nn, gt⟩ := rd s t
    have gk := gt k hk
    have dk := (D k hk).1
    have st : ∀ N o, o < k → f_Mo_isFirstRoad_2 (N + 1) (b + 131) (nI k) (nI o) s = if X o = X k ∧ Y o = Y k then some (0, s) else f_Mo_isFirstRoad_2 N (b + 131) (nI k) (nI (o + 1)) s := fun N o ho => by
      have go := gt o (by omega)
      have do' := (D o (by omega)).1
      have e2 : ¬ k ≤ o := by omega
      have a1 : 4 * o < 128 := by omega
      have a2 : 4 * o + 1 < 128 := by omega
      have a3 : 4 * k < 128 := by omega
      have a4 : 4 * k + 1 < 128 := by omega
      rw [f_Mo_isFirstRoad_2]
      by_cases q1 : X o = X k
      · by_cases q2 : Y o = Y k
        · simp (disch := omega) [↓ob_eq, ob_so, ldI, ldR, ldO, stI, stZ, stR, isO, wrA_n, rdA_n, wrA_l, rdA_l, gK_sI, gR_sI, gX_sI, gN_sI, gK_cp, gR_cp, gX_cp, gN_cp, rtZ_0, rtZ_1, if_true, reduceIte, and_self, true_and, and_true, kk, rr, e2, go, gk, q1, q2, a1, a2, a3, a4, nI_le', nI_addL, L_muln]
        · simp (disch := omega) [↓ob_eq, ob_so, ldI, ldR, ldO, stI, stZ, stR, isO, wrA_n, rdA_n, wrA_l, rdA_l, gK_sI, gR_sI, gX_sI, gN_sI, gK_cp, gR_cp, gX_cp, gN_cp, rtZ_0, rtZ_1, if_true, reduceIte, and_self, true_and, and_true, kk, rr, e2, go, gk, q1, q2, a1, a2, a3, a4, nI_le', nI_eq', nI_addL, L_muln]
      · simp (disch := omega) [↓ob_eq, ob_so, ldI, ldR, ldO, stI, stZ, stR, isO, wrA_n, rdA_n, wrA_l, rdA_l, gK_sI, gR_sI, gX_sI, gN_sI, gK_cp, gR_cp, gX_cp, gN_cp, rtZ_0, rtZ_1, if_true, reduceIte, and_self, true_and, and_true, kk, rr, e2, go, gk, q1, a1, a3, nI_le', nI_eq', nI_addL, L_muln]
    have a1 := lpx0 (fun N (_ : Unit) o => f_Mo_isFirstRoad_2 N (b + 131) (nI k) (nI o) s) (fun o (_ : Unit) => decide (X o = X k ∧ Y o = Y k)) (fun _ _ => some ((0 : Int32), s)) (fun _ x => x) k (fun _ => some ((1 : Int32), s)) () FU (by rw [FU_eq]; omega) (fun N o _ ho w => by
        have w := of_decide_eq_true w
        show f_Mo_isFirstRoad_2 (N + 1) (b + 131) (nI k) (nI o) s = some ((0 : Int32), s)
        rw [st N o ho, if_pos w]) (fun N o _ ho w => by
        have w := of_decide_eq_false w
        show f_Mo_isFirstRoad_2 (N + 1) (b + 131) (nI k) (nI o) s = f_Mo_isFirstRoad_2 N (b + 131) (nI k) (nI (o + 1)) s
        rw [st N o ho, if_neg w]) (fun N _ => by
        show f_Mo_isFirstRoad_2 (N + 1) (b + 131) (nI k) (nI k) s = some ((1 : Int32), s)
        rw [f_Mo_isFirstRoad_2, if_pos ((nI_le' (by omega) (by omega)).mpr (Nat.le_refl _)), rtZ_1])
    exact a1.trans (fox_via (fun r q => r = some (q, s)) k 0 () (fun _ _ _ _ => rfl) (fun _ => rfl))
  have rgo : ∀ s (L : Nat → Option Nat), LB L → Sn [(131, 0, 1), (166, 0, 10), (167, 0, 10)] b h1 s → Ov s (b + 166) er 10 L → ∃ s2, Sn [(131, 0, 1), (166, 0, 10), (167, 0, 10)] b h1 s2 ∧ Ov s2 (b + 166) er 10 (nxL X Y U W n L) ∧ f_Mo_goesAllRoads (b + 131) s = some s2 := fun s L lb t ov => by
    have key := lp (fun N (s : PH) j => f_Mo_goesAllRoads_2 N (b + 131) (nI j) s) (fun j s => sI s (b + 167) j 100000000) (fun j s => Sn [(131, 0, 1), (166, 0, 10), (167, 0, 10)] b h1 s ∧ Ov s (b + 166) er 10 L ∧ Ov s (b + 167) er j (fun _ => none)) 10 (fun s => f_Mo_goesAllRoads_25 FU (b + 131) 0 s)
      (fun N j s hj z => by
        obtain ⟨z1, z2, z3⟩ := z
        have e2 : ¬ 10 ≤ j := by omega
        obtain ⟨kk, rr, nn, gt⟩ := rd s z1
        rw [f_Mo_goesAllRoads_2]
        simp (disch := omega) [↓ob_eq, ob_so, ldI, ldR, ldO, stI, stZ, stR, isO, wrA_n, rdA_n, wrA_l, rdA_l, gK_sI, gR_sI, gX_sI, gN_sI, gK_cp, gR_cp, gX_cp, gN_cp, rtZ_0, rtZ_1, if_true, reduceIte, and_self, true_and, and_true, kk, rr, e2, hj, L_len, nI_addL])
      (fun j s hj z => by
        obtain ⟨z1, z2, z3⟩ := z
        refine ⟨z1.put 167 j _ (inL_in (lo := 0) (hi := 10) (by decide) (by omega) hj), fun i hi => ?_, fun i hi => ?_⟩
        · simp (disch := omega) only [gI_q, gI_n1, gI_n2]; exact z2 i hi
        · by_cases y : i = j
          · subst y; simp (disch := omega) only [gI_q, gI_n1, gI_n2]; rfl
          · simp (disch := omega) only [gI_q, gI_n1, gI_n2]; exact z3 i (by omega))
      (fun N s z => by rw [f_Mo_goesAllRoads_2, if_pos (by decide)])
      10 0 s FU (by omega) ⟨t, ov, fun i hi => absurd hi (by omega)⟩ (by rw [FU_eq]; omega)
    obtain ⟨k1, k2, k3, k4⟩ := key
    obtain ⟨T, hT⟩ : ∃ T : Nat → Nat → Option Nat, ∀ k, T k = fo (gs X Y U W L) 0 k (fun _ => none) := ⟨_, fun k => rfl⟩
    have Ts : ∀ k, T (k + 1) = gs X Y U W L k (T k) := fun k => by rw [hT, hT, fo_succ, Nat.zero_add]
    have TB : ∀ k, LB (T k) := fun k => by rw [hT]; exact nxL_LB (n := n) k
    have key2 := lp (fun N (s : PH) k => f_Mo_goesAllRoads_25 N (b + 131) (nI k) s) (fun k s => if fr X Y k = 0 ∨ L (X k) = none then s else sI s (b + 167) (Y k) (er (T (k + 1) (Y k)))) (fun k s => Sn [(131, 0, 1), (166, 0, 10), (167, 0, 10)] b h1 s ∧ Ov s (b + 166) er 10 L ∧ Ov s (b + 167) er 10 (T k)) n (fun s => f_Mo_goesAllRoads_56 FU (b + 131) 0 s)
      (fun N k s hk z => by
        obtain ⟨z1, z2, z3⟩ := z
        have e2 : ¬ n ≤ k := by omega
        obtain ⟨kk, rr, nn, gt⟩ := rd s z1
        obtain ⟨g0, g1, g2, g3⟩ := gt k hk
        obtain ⟨d1, d2, d3, d4⟩ := (D k hk).1
        have fs := rfirst s z1 k hk
        have vx := z2 (X k) d1
        have vy := z3 (Y k) d2
        have a0 : 4 * k < 128 := by omega
        have a1 : 4 * k + 1 < 128 := by omega
        have a2 : 4 * k + 2 < 128 := by omega
        have a3 : 4 * k + 3 < 128 := by omega
        rw [f_Mo_goesAllRoads_25]
        by_cases qf : fr X Y k = 0
        · simp (disch := omega) only [↓ob_eq, ob_so, ldI, ldR, ldO, stI, stZ, stR, isO, wrA_n, rdA_n, wrA_l, rdA_l, gK_sI, gR_sI, gX_sI, gN_sI, gK_cp, gR_cp, gX_cp, gN_cp, rtZ_0, rtZ_1, if_true, reduceIte, and_self, true_and, and_true, kk, rr, nn, e2, fs, qf, nI_le', nI_addL, if_false, true_or]
        · cases qL : L (X k) with
          | none =>
            rw [qL] at vx
            have vx : gI s (b + 166) (X k) = 100000000 := vx
            simp (disch := omega) only [f_Mo_goesRoad, ↓ob_eq, ob_so, ldI, ldR, ldO, stI, stZ, stR, isO, wrA_n, rdA_n, wrA_l, rdA_l, gK_sI, gR_sI, gX_sI, gN_sI, gK_cp, gR_cp, gX_cp, gN_cp, rtZ_0, rtZ_1, if_true, reduceIte, and_self, true_and, and_true, kk, rr, nn, e2, fs, qf, g0, vx, a0, d1, L_muln, nI_le', nI_addL, if_false, or_true]
          | some x =>
            rw [qL] at vx
            have vx : gI s (b + 166) (X k) = nI x := vx
            have hx : x ≤ 99 := lb _ _ qL
            have xm := nI_far hx
            have dm := fun hh => dry_m (a := b + 131) (h := hh) hx d3
            have dm2 := fun hh => dry_m2 (a := b + 131) (h := hh) (y := x - U k + W k) (by omega)
            have qo : (some x = none) = False := eq_false (fun y => by cases y)
            have hm : Nat.min 99 (x - U k + W k) ≤ 99 := Nat.min_le_left _ _
            cases qT : T k (Y k) with
            | none =>
              rw [qT] at vy
              have vy : gI s (b + 167) (Y k) = nI 100000000 := vy
              have eT : er (T (k + 1) (Y k)) = nI (Nat.min 99 (x - U k + W k)) := by
                rw [Ts]; unfold gs; rw [if_neg qf, qL]; dsimp only; rw [if_pos rfl, qT]; rfl
              have jm : ∀ hh, f_Mo_lesser (b + 131) (nI 100000000) (nI (Nat.min 99 (x - U k + W k))) hh = some (nI (Nat.min 99 (x - U k + W k)), hh) := fun hh => by
                rw [mo_lesserN (by omega) (by omega)]
                congr 3
                exact Nat.min_eq_right (by omega)
              rw [eT]
              simp (disch := omega) only [f_Mo_goesRoad, ↓ob_eq, ob_so, ldI, ldR, ldO, stI, stZ, stR, isO, wrA_n, rdA_n, wrA_l, rdA_l, gK_sI, gR_sI, gX_sI, gN_sI, gK_cp, gR_cp, gX_cp, gN_cp, rtZ_0, rtZ_1, if_true, reduceIte, and_self, true_and, and_true, kk, rr, nn, e2, fs, qf, qo, g0, g1, g2, g3, vx, vy, a0, a1, a2, a3, d1, d2, xm, dm, dm2, jm, L_muln, nI_add, nI_le', nI_addL, if_false, or_self]
            | some y =>
              rw [qT] at vy
              have vy : gI s (b + 167) (Y k) = nI y := vy
              have hy : y ≤ 99 := TB k _ _ qT
              have eT : er (T (k + 1) (Y k)) = nI (Nat.min y (Nat.min 99 (x - U k + W k))) := by
                rw [Ts]; unfold gs; rw [if_neg qf, qL]; dsimp only; rw [if_pos rfl, qT]; rfl
              have jm := fun hh => mo_lesserN (a := b + 131) (h := hh) (x := y) (y := Nat.min 99 (x - U k + W k)) (by omega) (by omega)
              rw [eT]
              simp (disch := omega) only [f_Mo_goesRoad, ↓ob_eq, ob_so, ldI, ldR, ldO, stI, stZ, stR, isO, wrA_n, rdA_n, wrA_l, rdA_l, gK_sI, gR_sI, gX_sI, gN_sI, gK_cp, gR_cp, gX_cp, gN_cp, rtZ_0, rtZ_1, if_true, reduceIte, and_self, true_and, and_true, kk, rr, nn, e2, fs, qf, qo, g0, g1, g2, g3, vx, vy, a0, a1, a2, a3, d1, d2, xm, dm, dm2, jm, L_muln, nI_add, nI_le', nI_addL, if_false, or_self])
      (fun k s hk z => by
        obtain ⟨z1, z2, z3⟩ := z
        obtain ⟨d1, d2, d3, d4⟩ := (D k hk).1
        by_cases y : fr X Y k = 0 ∨ L (X k) = none
        · rw [if_pos y]
          refine ⟨z1, z2, ?_⟩
          have e : T (k + 1) = T k := by
            rw [Ts]; unfold gs
            rcases y with y | y
            · rw [if_pos y]
            · rw [y]; split <;> rfl
          rw [e]; exact z3
        · rw [if_neg y]
          refine ⟨z1.put 167 _ _ (inL_in (lo := 0) (hi := 10) (by decide) (by omega) d2), fun i hi => ?_, fun i hi => ?_⟩
          · simp (disch := omega) only [gI_q, gI_n1, gI_n2]; exact z2 i hi
          · by_cases y2 : i = Y k
            · rw [y2]; simp (disch := omega) only [gI_q, gI_n1, gI_n2]
            · simp (disch := omega) only [gI_q, gI_n1, gI_n2]
              have e : T (k + 1) i = T k i := by
                rw [Ts]; unfold gs
                rw [if_neg (fun z => y (Or.inl z))]
                cases qL : L (X k) with
                | none => rfl
                | some x => dsimp only; rw [if_neg y2]
              rw [e]; exact z3 i hi)
      (fun N s z => by
        obtain ⟨z1, z2, z3⟩ := z
        obtain ⟨kk, rr, nn, gt⟩ := rd s z1
        rw [f_Mo_goesAllRoads_25]
        simp (disch := omega) only [↓ob_eq, ob_so, ldI, ldR, ldO, stI, stZ, stR, isO, wrA_n, rdA_n, wrA_l, rdA_l, gK_sI, gR_sI, gX_sI, gN_sI, gK_cp, gR_cp, gX_cp, gN_cp, rtZ_0, rtZ_1, if_true, reduceIte, and_self, true_and, and_true, nn, kk, nI_le', Nat.le_refl])
      n 0 _ FU (by omega) ⟨k2, k3, by rw [hT]; exact k4⟩ (by rw [FU_eq]; omega)
    obtain ⟨m1, m2, m3, m4⟩ := key2
    have key3 := lp (fun N (s : PH) j => f_Mo_goesAllRoads_56 N (b + 131) (nI j) s) (fun j s => sI s (b + 166) j (er (T n j))) (fun j s => Sn [(131, 0, 1), (166, 0, 10), (167, 0, 10)] b h1 s ∧ Ov s (b + 167) er 10 (T n) ∧ Ov s (b + 166) er j (T n)) 10 (fun s => some s)
      (fun N j s hj z => by
        obtain ⟨z1, z2, z3⟩ := z
        have e2 : ¬ 10 ≤ j := by omega
        obtain ⟨kk, rr, nn, gt⟩ := rd s z1
        rw [f_Mo_goesAllRoads_56]
        simp (disch := omega) [↓ob_eq, ob_so, ldI, ldR, ldO, stI, stZ, stR, isO, wrA_n, rdA_n, wrA_l, rdA_l, gK_sI, gR_sI, gX_sI, gN_sI, gK_cp, gR_cp, gX_cp, gN_cp, rtZ_0, rtZ_1, if_true, reduceIte, and_self, true_and, and_true, kk, rr, e2, hj, z2 j hj, L_len, nI_addL])
      (fun j s hj z => by
        obtain ⟨z1, z2, z3⟩ := z
        refine ⟨z1.put 166 j _ (inL_in (lo := 0) (hi := 10) (by decide) (by omega) hj), fun i hi => ?_, fun i hi => ?_⟩
        · simp (disch := omega) only [gI_q, gI_n1, gI_n2]; exact z2 i hi
        · by_cases y : i = j
          · subst y; simp (disch := omega) only [gI_q, gI_n1, gI_n2]
          · simp (disch := omega) only [gI_q, gI_n1, gI_n2]; exact z3 i (by omega))
      (fun N s z => by rw [f_Mo_goesAllRoads_56, if_pos (by decide)])
      10 0 _ FU (by omega) ⟨m2, m4, fun i hi => absurd hi (by omega)⟩ (by rw [FU_eq]; omega)
    obtain ⟨o1, o2, o3, o4⟩ := key3
    refine ⟨_, o2, ?_, k1.trans (m1.trans o1)⟩
    have e : nxL X Y U W n L = T n := (hT n).symm
    rw [e]
    exact o4
  have res : (if nI wh = 0 then ec (bf LL2 to 13).1 else (bf LL2 to 13).2) = if er (bf LL2 to 13).1 = 100000000 then (bf LL2 to 13).2 else if nI wh = 1 then (bf LL2 to 13).2 else er (bf LL2 to 13).1 := by
    obtain ⟨B1, B2⟩ := bB 13
    cases qb : (bf LL2 to 13).1 with
    | none =>
      have e : er none = 100000000 := rfl
      rw [if_pos e, B2 qb]
      split <;> rfl
    | some x =>
      have e : ¬ er (some x) = 100000000 := nI_far (B1 x qb)
      rw [if_neg e]
      have : wh = 0 ∨ wh = 1 := by omega
      rcases this with rfl | rfl
      · rw [if_pos nI_0, if_neg (by decide)]; rfl
      · rw [if_neg (by decide), if_pos (by decide)]
  have r98 : ∀ e r M s, r + e = 13 → e < M → Sn [(131, 0, 1), (166, 0, 10), (167, 0, 10)] b h1 s → Ov s (b + 166) er 10 (LL2 r) → ∃ s2, Sn [(131, 0, 1), (166, 0, 10), (167, 0, 10)] b h1 s2 ∧ f_Mo_driest_98 M (b + 131) (nI to) (nI wh) (er (bf LL2 to r).1) (bf LL2 to r).2 (nI r) s = some (if nI wh = 0 then ec (bf LL2 to 13).1 else (bf LL2 to 13).2, s2) := by
    intro e
    induction e with
    | zero =>
      intro r M s hr hM t ov
      obtain ⟨N, rfl⟩ : ∃ N, M = N + 1 := ⟨M - 1, by omega⟩
      obtain rfl : r = 13 := by omega
      refine ⟨s, t, ?_⟩
      rw [res, f_Mo_driest_98, if_pos (by decide)]
      by_cases z : er (bf LL2 to 13).1 = 100000000
      · rw [if_pos z, if_pos z]; rfl
      · rw [if_neg z, if_neg z]
        by_cases z2 : nI wh = 1
        · rw [if_pos z2, if_pos z2]; rfl
        · rw [if_neg z2, if_neg z2]
    | succ e ih =>
      intro r M s hr hM t ov
      obtain ⟨N, rfl⟩ : ∃ N, M = N + 1 := ⟨M - 1, by omega⟩
      obtain ⟨s1, t1, o1, g1⟩ := rgo s (LL2 r) (LBr r) t ov
      rw [← Lst] at o1
      obtain ⟨s2, t2, e2⟩ := ih (r + 1) N s1 (by omega) (by omega) t1 o1
      refine ⟨s2, t2, ?_⟩
      have e12 : ¬ (12 : Int32) < nI r := fun z => by
        have this : 12 < r := (L_ltn (n := 12) (m := r) (by omega) (by decide)).mp z
        omega
      obtain ⟨kk, rr, nn, gt⟩ := rd s t
      have vt := ov to (by omega)
      have to10 : to < 10 := by omega
      obtain ⟨B1, B2⟩ := bB r
      have es : ∀ x, er (some x) = nI x := fun _ => rfl
      have en : er none = nI 100000000 := rfl
      have main : f_Mo_driest_98 (N + 1) (b + 131) (nI to) (nI wh) (er (bf LL2 to r).1) (bf LL2 to r).2 (nI r) s = f_Mo_driest_98 N (b + 131) (nI to) (nI wh) (er (bf LL2 to (r + 1)).1) (bf LL2 to (r + 1)).2 (nI (r + 1)) s1 := by
        rw [f_Mo_driest_98, bf]
        unfold bfu
        cases qh : LL2 r to with
        | none =>
          rw [qh, en] at vt
          dsimp only
          cases qb : (bf LL2 to r).1 with
          | none =>
            have jm := mo_lesserN (a := b + 131) (h := s) (x := 100000000) (y := 100000000) (by omega) (by omega)
            have mm : Nat.min 100000000 100000000 = 100000000 := rfl
            rw [mm] at jm
            simp (disch := omega) only [f_Mo_driest_123, ↓ob_eq, ob_so, ldI, ldR, ldO, stI, stZ, stR, isO, wrA_n, rdA_n, wrA_l, rdA_l, gK_sI, gR_sI, gX_sI, gN_sI, gK_cp, gR_cp, gX_cp, gN_cp, rtZ_0, rtZ_1, if_true, reduceIte, and_self, true_and, and_true, e12, kk, rr, to10, vt, en, jm, g1, nI_le', Nat.le_refl, nI_addL, if_false]
          | some y =>
            have hy := B1 y qb
            have q4 : y ≤ 100000000 := by omega
            have jm := mo_lesserN (a := b + 131) (h := s) (x := y) (y := 100000000) (by omega) (by omega)
            have mm : Nat.min y 100000000 = y := Nat.min_eq_left (by omega)
            rw [mm] at jm
            simp (disch := omega) only [f_Mo_driest_123, ↓ob_eq, ob_so, ldI, ldR, ldO, stI, stZ, stR, isO, wrA_n, rdA_n, wrA_l, rdA_l, gK_sI, gR_sI, gX_sI, gN_sI, gK_cp, gR_cp, gX_cp, gN_cp, rtZ_0, rtZ_1, if_true, reduceIte, and_self, true_and, and_true, e12, kk, rr, to10, vt, es, q4, jm, g1, nI_le', nI_addL, if_false]
        | some x =>
          rw [qh, es] at vt
          have hx : x ≤ 99 := LBr r _ _ qh
          cases qb : (bf LL2 to r).1 with
          | none =>
            have q4 : ¬ 100000000 ≤ x := by omega
            have jm := mo_lesserN (a := b + 131) (h := s) (x := 100000000) (y := x) (by omega) (by omega)
            have mm : Nat.min 100000000 x = x := Nat.min_eq_right (by omega)
            rw [mm] at jm
            simp (disch := omega) only [f_Mo_driest_123, ↓ob_eq, ob_so, ldI, ldR, ldO, stI, stZ, stR, isO, wrA_n, rdA_n, wrA_l, rdA_l, gK_sI, gR_sI, gX_sI, gN_sI, gK_cp, gR_cp, gX_cp, gN_cp, rtZ_0, rtZ_1, if_true, reduceIte, and_self, true_and, and_true, e12, kk, rr, to10, vt, es, en, q4, jm, g1, nI_le', nI_addL, if_false]
          | some y =>
            have hy := B1 y qb
            by_cases q3 : x < y
            · have q4 : ¬ y ≤ x := by omega
              have jm := mo_lesserN (a := b + 131) (h := s) (x := y) (y := x) (by omega) (by omega)
              have mm : Nat.min y x = x := Nat.min_eq_right (by omega)
              rw [mm] at jm
              simp (disch := omega) only [f_Mo_driest_123, ↓ob_eq, ob_so, ldI, ldR, ldO, stI, stZ, stR, isO, wrA_n, rdA_n, wrA_l, rdA_l, gK_sI, gR_sI, gX_sI, gN_sI, gK_cp, gR_cp, gX_cp, gN_cp, rtZ_0, rtZ_1, if_true, reduceIte, and_self, true_and, and_true, e12, kk, rr, to10, vt, es, q3, q4, jm, g1, nI_le', nI_addL, if_false]
            · have q4 : y ≤ x := by omega
              have jm := mo_lesserN (a := b + 131) (h := s) (x := y) (y := x) (by omega) (by omega)
              have mm : Nat.min y x = y := Nat.min_eq_left (by omega)
              rw [mm] at jm
              simp (disch := omega) only [f_Mo_driest_123, ↓ob_eq, ob_so, ldI, ldR, ldO, stI, stZ, stR, isO, wrA_n, rdA_n, wrA_l, rdA_l, gK_sI, gR_sI, gX_sI, gN_sI, gK_cp, gR_cp, gX_cp, gN_cp, rtZ_0, rtZ_1, if_true, reduceIte, and_self, true_and, and_true, e12, kk, rr, to10, vt, es, qb, q3, q4, jm, g1, nI_le', nI_addL, if_false]
      exact main.trans e2
  have rdw : ∃ s2, Sn [(131, 0, 1), (166, 0, 10), (167, 0, 10)] b h1 s2 ∧ f_Mo_driest (b + 131) (nI fm) (nI to) (nI w0) (nI wh) h1 = some (if nI wh = 0 then ec (bf LL2 to 13).1 else (bf LL2 to 13).2, s2) := by
    have key := lp (fun N (s : PH) j => f_Mo_driest_54 N (b + 131) (nI fm) (nI to) (nI w0) (nI wh) (nI j) s) (fun j s => sI s (b + 166) j (er (L0 j))) (fun j s => Sn [(131, 0, 1), (166, 0, 10), (167, 0, 10)] b h1 s ∧ Ov s (b + 166) er j L0) 10 (fun s => f_Mo_driest_98 FU (b + 131) (nI to) (nI wh) 100000000 (-1) 0 s)
      (fun N j s hj z => by
        obtain ⟨z1, z2⟩ := z
        have e2 : ¬ 10 ≤ j := by omega
        obtain ⟨kk, rr, nn, gt⟩ := rd s z1
        rw [f_Mo_driest_54]
        by_cases y : j = fm
        · subst y
          have eL : er (L0 j) = nI w0 := by rw [hL0]; dsimp only; rw [if_pos rfl]; rfl
          rw [eL]
          simp (disch := omega) [f_Mo_driest_80, ↓ob_eq, ob_so, ldI, ldR, ldO, stI, stZ, stR, isO, wrA_n, rdA_n, wrA_l, rdA_l, gK_sI, gR_sI, gX_sI, gN_sI, gK_cp, gR_cp, gX_cp, gN_cp, rtZ_0, rtZ_1, if_true, reduceIte, and_self, true_and, and_true, kk, rr, e2, hj, L_len, nI_addL]
        · have eL : er (L0 j) = 100000000 := by rw [hL0]; dsimp only; rw [if_neg y]; rfl
          rw [eL]
          simp (disch := omega) [f_Mo_driest_80, ↓ob_eq, ob_so, ldI, ldR, ldO, stI, stZ, stR, isO, wrA_n, rdA_n, wrA_l, rdA_l, gK_sI, gR_sI, gX_sI, gN_sI, gK_cp, gR_cp, gX_cp, gN_cp, rtZ_0, rtZ_1, if_true, reduceIte, and_self, true_and, and_true, kk, rr, e2, hj, y, L_len, nI_eq', nI_addL])
      (fun j s hj z => by
        obtain ⟨z1, z2⟩ := z
        refine ⟨z1.put 166 j _ (inL_in (lo := 0) (hi := 10) (by decide) (by omega) hj), fun i hi => ?_⟩
        by_cases y : i = j
        · subst y; simp (disch := omega) only [gI_q, gI_n1, gI_n2]
        · simp (disch := omega) only [gI_q, gI_n1, gI_n2]; exact z2 i (by omega))
      (fun N s z => by rw [f_Mo_driest_54, if_pos (by decide)])
      10 0 (sI h1 (b + 131) 0 0) FU (by omega) ⟨Sn.rf.put 131 0 0 (by decide), fun i hi => absurd hi (by omega)⟩ (by rw [FU_eq]; omega)
    obtain ⟨k1, k2, k3⟩ := key
    obtain ⟨s2, t2, e2⟩ := r98 13 0 FU _ (by omega) (by rw [FU_eq]; omega) k2 (by rw [hLs]; exact k3)
    refine ⟨s2, t2, ?_⟩
    rw [nI_0] at e2
    have K1' : gK h1 (b + 131) = (0, 9) := by rw [T1]; exact K131
    have e10 : ¬ (1 : Int32) = 0 := by decide
    have e3 : f_Mo_driest (b + 131) (nI fm) (nI to) (nI w0) (nI wh) h1 = f_Mo_driest_54 FU (b + 131) (nI fm) (nI to) (nI w0) (nI wh) (nI 0) (sI h1 (b + 131) 0 0) := by
      simp only [f_Mo_driest, i1, i2, i3, i4, ↓ob_eq, ob_so, ldI, ldR, ldO, stI, stZ, stR, isO, wrA_n, rdA_n, wrA_l, rdA_l, gK_sI, gR_sI, gX_sI, gN_sI, gK_cp, gR_cp, gX_cp, gN_cp, rtZ_0, rtZ_1, if_true, reduceIte, and_self, true_and, and_true, K1', nI_0, e10, if_false]
    exact e3.trans (k1.trans e2)
  obtain ⟨h2, t2, e2⟩ := rdw
  refine ⟨_, h1, h2, ?_, T3, fun q hq => by rw [T1]; exact hq, e2, t2.2.2.2.1.trans T3, Inv.cg t2 (by decide) I1⟩
  have e10 : ¬ (1 : Int32) = 0 := by decide
  simp only [f_Tc_driest, u1, u2, u3, u4, ↓ob_eq, ob_so, ldI, ldR, ldO, stI, stZ, stR, isO, wrA_n, rdA_n, wrA_l, rdA_l, gK_sI, gR_sI, gX_sI, gN_sI, gK_cp, gR_cp, gX_cp, gN_cp, rtZ_0, rtZ_1, if_true, reduceIte, and_self, true_and, and_true, K0, K1, K124, R0_0, R0_4, R1_5, e1, e10, if_false]
