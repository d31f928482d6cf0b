theorem op_hands (b : Nat) : B_hands (Inv b) b (b + 131) := by
  intro h I v
  have I0 := I
  obtain ⟨s, cd, c_stat, c_realm, c_book, c_law, c_kin, c_shi, c_roa, c_ord, c_han, c_wei, c_bag, c_pri, c_cnt, c_led, c_yea, c_log, c_rdr, c_msc, c_img⟩ := I
  have K0 : gK h b = (0, 8) := s.K 0 (by decide) rfl
  have K1 : gK h (b + 1) = (0, 1) := s.K 1 (by decide) rfl
  have K25 : gK h (b + 25) = (0, 7) := s.K 25 (by decide) rfl
  have K28 : gK h (b + 28) = (0, 6) := s.K 28 (by decide) rfl
  have K29 : gK h (b + 29) = (1, 32) := s.K 29 (by decide) rfl
  have K124 : gK h (b + 124) = (0, 0) := s.K 124 (by decide) rfl
  have K125 : gK h (b + 125) = (1, 64) := s.K 125 (by decide) rfl
  have K131 : gK h (b + 131) = (0, 9) := s.K 131 (by decide) rfl
  have K158 : gK h (b + 158) = (1, 6) := s.K 158 (by decide) rfl
  have K159 : gK h (b + 159) = (1, 64) := s.K 159 (by decide) rfl
  have K160 : gK h (b + 160) = (1, 64) := s.K 160 (by decide) rfl
  have R0_0 : gR h b 0 = some (b + 1) := s.R 0 0 rfl
  have R0_4 : gR h b 4 = some (b + 124) := s.R 0 4 rfl
  have R1_6 : gR h (b + 1) 6 = some (b + 25) := s.R 1 6 rfl
  have R25_1 : gR h (b + 25) 1 = some (b + 28) := s.R 25 1 rfl
  have R28_1 : gR h (b + 28) 1 = some (b + 29) := s.R 28 1 rfl
  have R124_0 : gR h (b + 124) 0 = some (b + 125) := s.R 124 0 rfl
  have R131_49 : gR h (b + 131) 49 = some (b + 158) := s.R 131 49 rfl
  have R131_50 : gR h (b + 131) 50 = some (b + 159) := s.R 131 50 rfl
  have R131_51 : gR h (b + 131) 51 = some (b + 160) := s.R 131 51 rfl
  obtain ⟨n, hn, ⟨W, N2⟩, MM, LL, GG⟩ := c_han
  have hAx : ∀ c, ∃ A, A < 64 ∧ gset (gI h (b + 29)) c n = nI A := fun c => gset_nat LL
  obtain ⟨A, hA⟩ : ∃ A : Nat → Nat, ∀ c, A c < 64 ∧ gset (gI h (b + 29)) c n = nI (A c) := ⟨fun c => (hAx c).choose, fun c => (hAx c).choose_spec⟩
  have gc : ∀ hh, Sn [(125, 0, 64)] b h hh → ∀ c, c < 6 → f_Desk_handsOf (b + 124) (b + 28) (nI c) hh = some (nI (A c), hh) := fun hh t c hc => by
    have k28 : gK hh (b + 28) = (0, 6) := by rw [t.1]; exact K28
    have k29 : gK hh (b + 29) = (1, 32) := by rw [t.1]; exact K29
    have r28 : gR hh (b + 28) 1 = some (b + 29) := by rw [t.2.1]; exact R28_1
    have w0 : gI hh (b + 28) 0 = nI 2 := by rw [t.I (by decide)]; exact W
    have n2 : gI hh (b + 28) 2 = nI n := by rw [t.I (by decide)]; exact N2
    have c29 : ∀ j, j < 32 → gI hh (b + 29) j = gI h (b + 29) j := fun j hj => t.2.2.2.2 29 j (by simp [inL])
    have key := lp (fun N (s : Int32) i => f_Desk_handsOf_5 N (b + 28) (nI c) s (nI i) hh) (fun i s => if gI h (b + 29) (2 * i) = nI c then s ||| jshl 1 (gI h (b + 29) (2 * i + 1)) else s) (fun i s => s = gset (gI h (b + 29)) c i) n (fun s => some (s, hh))
      (fun N i s hi _ => by
        have e2 : ¬ n ≤ i := by omega
        have g0 : f_Row_get (b + 28) (nI i) 0 hh = some (gI h (b + 29) (2 * i), hh) := by
          have := row_get (w := 2) (l := i) (i := 0) k28 r28 k29 w0 n2 hi (by omega) (by omega) (by omega) (by omega)
          rw [Nat.mul_comm i 2] at this
          have this : f_Row_get (b + 28) (nI i) 0 hh = some (gI hh (b + 29) (2 * i), hh) := this
          rw [c29 _ (by omega)] at this
          exact this
        have g1 : f_Row_get (b + 28) (nI i) 1 hh = some (gI h (b + 29) (2 * i + 1), hh) := by
          have := row_get (w := 2) (l := i) (i := 1) k28 r28 k29 w0 n2 hi (by omega) (by omega) (by omega) (by omega)
          rw [Nat.mul_comm i 2] at this
          have this : f_Row_get (b + 28) (nI i) 1 hh = some (gI hh (b + 29) (2 * i + 1), hh) := this
          rw [c29 _ (by omega)] at this
          exact this
        rw [f_Desk_handsOf_5]
        by_cases q : gI h (b + 29) (2 * i) = nI c
        · rw [q] at g0
          simp (disch := omega) [↓ob_eq, ob_so, ldI, ldR, ldO, stI, stZ, stR, isO, wrA_n, rdA_n, wrA_l, rdA_l, gK_sI, gR_sI, gX_sI, gN_sI, gK_cp, gR_cp, gX_cp, gN_cp, rtZ_0, rtZ_1, if_true, reduceIte, and_self, true_and, and_true, k28, n2, e2, g0, g1, q, nI_le', nI_addL]
        · simp (disch := omega) [↓ob_eq, ob_so, ldI, ldR, ldO, stI, stZ, stR, isO, wrA_n, rdA_n, wrA_l, rdA_l, gK_sI, gR_sI, gX_sI, gN_sI, gK_cp, gR_cp, gX_cp, gN_cp, rtZ_0, rtZ_1, if_true, reduceIte, and_self, true_and, and_true, k28, n2, e2, g0, q, nI_le', nI_addL])
      (fun i s hi q => by subst q; rfl)
      (fun N s q => by
        rw [f_Desk_handsOf_5]
        simp (disch := omega) [↓ob_eq, ob_so, ldI, ldR, ldO, stI, stZ, stR, isO, wrA_n, rdA_n, wrA_l, rdA_l, gK_sI, gR_sI, gX_sI, gN_sI, gK_cp, gR_cp, gX_cp, gN_cp, rtZ_0, rtZ_1, if_true, reduceIte, and_self, true_and, and_true, k28, n2, nI_le'])
      n 0 0 FU (by omega) rfl (by rw [FU_eq]; omega)
    have k1 := key.1
    rw [key.2, (hA c).2] at k1
    exact k1
  -- one child, by the class
  have c14 : ∀ (k8 : Nat → Int32 → Int32 → PH → Option PH) (a : Nat) (w : Nat → Nat) i (hh : PH), a < 64 → (∀ s, w s ≤ 20000) → i < 64 → Sn [(125, 0, 64)] b h hh → Vec hh (b + 125) 64 (hvc a w i 0) → ∃ h2, Sn [(125, 0, 64)] b h h2 ∧ Vec h2 (b + 125) 64 (hvc a w (i + 1) 0) ∧ f_Desk_takeHands_14 k8 FU (b + 124) (nI a) (nI (63 - i)) 0 hh = k8 (b + 124) (nI a) (nI (63 - i) + (-1)) h2 := by
    intro k8 a w i hh ha hwb hi t0 tv
    have key := lp (fun N (s : PH) j => f_Desk_takeHands_14 k8 N (b + 124) (nI a) (nI (63 - i)) (nI j) s) (fun j s => if a.testBit j = true ∧ (63 - i).testBit j = false then sI s (b + 125) ((63 - i) ||| 2 ^ j) (nI (hvc a w i (j + 1) ((63 - i) ||| 2 ^ j))) else s) (fun j s => Sn [(125, 0, 64)] b h s ∧ Vec s (b + 125) 64 (hvc a w i j)) 6 (fun s => k8 (b + 124) (nI a) (nI (63 - i) + (-1)) s)
      (fun N j s hj q => by
        obtain ⟨q1, q2⟩ := q
        have e2 : ¬ 6 ≤ j := by omega
        have kk : gK s (b + 124) = (0, 0) ∧ gK s (b + 125) = (1, 64) := ⟨by rw [q1.1]; exact K124, by rw [q1.1]; exact K125⟩
        have rr : gR s (b + 124) 0 = some (b + 125) := by rw [q1.2.1]; exact R124_0
        have sh : jshl 1 (nI j) = nI (2 ^ j) := jshl1 j (by omega)
        rw [f_Desk_takeHands_14]
        by_cases z1 : a.testBit j = true
        · have hb : jshr (nI a) (nI j) &&& 1 = 1 := (jbit1 (by omega) (by omega)).mpr z1
          by_cases z2 : (63 - i).testBit j = true
          · have o1 := (b64_on (63 - i) (by omega) j hj z2).2.2.2.2
            simp (disch := omega) [e2, hb, z1, z2, sh, fa_or, o1, L_len, nI_addL]
          · have z2 : (63 - i).testBit j = false := by simpa using z2
            obtain ⟨o1, o2, o3, o4⟩ := b64_off (63 - i) (by omega) j hj z2
            have o5 : ¬ nI ((63 - i) ||| 2 ^ j) = nI (63 - i) := fun e => o4 ((nI_eq (by omega) (by omega)).mp e)
            have o6 : ¬ 64 ≤ (63 - i) ||| 2 ^ j := by omega
            have v1 := q2 _ o1
            have v2 := q2 (63 - i) (by omega)
            rw [hvc_own hi] at v2
            have v3 : nI (hvc a w i j ((63 - i) ||| 2 ^ j)) + nI (w (63 - i)) = nI (hvc a w i (j + 1) ((63 - i) ||| 2 ^ j)) := by
              rw [nI_add, hvc_st hj, hex_1 hj hi z1 z2]
            have o7 : 63 - i < 64 := by omega
            simp (disch := omega) [lnA, ↓ob_eq, ob_so, ldI, ldR, ldO, stI, stZ, stR, isO, wrA_n, rdA_n, wrA_l, rdA_l, gK_sI, gR_sI, gX_sI, gN_sI, gK_cp, gR_cp, gX_cp, gN_cp, rtZ_0, rtZ_1, if_true, reduceIte, and_self, true_and, and_true, kk, rr, e2, hb, z1, z2, sh, fa_or, o1, o5, o6, o7, v1, v2, v3, L_len, nI_le', nI_addL]
        · have hb : ¬ jshr (nI a) (nI j) &&& 1 = 1 := fun e => z1 ((jbit1 (by omega) (by omega)).mp e)
          simp (disch := omega) [e2, hb, z1, L_len, nI_addL])
      (fun j s hj q => by
        obtain ⟨q1, q2⟩ := q
        by_cases z : a.testBit j = true ∧ (63 - i).testBit j = false
        · obtain ⟨o1, o2, o3, o4⟩ := b64_off (63 - i) (by omega) j hj z.2
          rw [if_pos z]
          refine ⟨q1.put 125 _ _ (inL_in (lo := 0) (hi := 64) (by decide) (by omega) (by omega)), q2.put rfl (fun s hs hne => ?_)⟩
          rw [hvc_st hj, hex_0 hs hj hi (Or.inr (Or.inr hne))]
          exact Nat.add_zero _
        · rw [if_neg z]
          refine ⟨q1, q2.cg (fun s hs => ?_)⟩
          have z' : a.testBit j = false ∨ (63 - i).testBit j = true := by
            cases q3 : a.testBit j
            · exact Or.inl rfl
            · cases q4 : (63 - i).testBit j
              · exact absurd ⟨q3, q4⟩ z
              · exact Or.inr rfl
          rw [hvc_st hj, hex_0 hs hj hi (z'.elim Or.inl (fun y => Or.inr (Or.inl y)))]
          exact (Nat.add_zero _).symm)
      (fun N s q => by
        have e1 : (6 : Int32) ≤ nI 6 := by decide
        rw [f_Desk_takeHands_14]
        simp [e1])
      6 0 hh FU (by omega) ⟨t0, tv⟩ (by rw [FU_eq]; omega)
    exact ⟨_, key.2.1, key.2.2.cg (fun s hs => hvc_up), key.1⟩
  have ctk : ∀ (a : Nat) (w : Nat → Nat) (hh : PH), a < 64 → (∀ s, w s ≤ 20000) → Sn [(125, 0, 64)] b h hh → Vec hh (b + 125) 64 w → ∃ h2, Sn [(125, 0, 64)] b h h2 ∧ Vec h2 (b + 125) 64 (hnx a w) ∧ f_Desk_takeHands (b + 124) (nI a) hh = some h2 := by
    intro a w hh ha hwb t0 tv
    have go : ∀ e i M (hh : PH), i + e = 64 → e < M → Sn [(125, 0, 64)] b h hh → Vec hh (b + 125) 64 (hvc a w i 0) → ∃ h2, Sn [(125, 0, 64)] b h h2 ∧ Vec h2 (b + 125) 64 (hnx a w) ∧ f_Desk_takeHands_8 M (b + 124) (nI a) (iI (63 - (i : Int))) hh = some h2 := by
      intro e
      induction e with
      | zero =>
        intro i M hh hi hM t0 tv
        obtain ⟨N, rfl⟩ : ∃ N, M = N + 1 := ⟨M - 1, by omega⟩
        obtain rfl : i = 64 := by omega
        refine ⟨hh, t0, tv.cg (fun s hs => hvc_end), ?_⟩
        have e1 : iI (63 - ((64 : Nat) : Int)) < 0 := by decide
        rw [f_Desk_takeHands_8, if_pos e1]
      | succ e ih =>
        intro i M hh hi hM t0 tv
        obtain ⟨N, rfl⟩ : ∃ N, M = N + 1 := ⟨M - 1, by omega⟩
        obtain ⟨h2, s2, w2, e2⟩ := c14 (fun a0 x1 x2 h => f_Desk_takeHands_8 N a0 x1 x2 h) a w i hh ha hwb (by omega) t0 tv
        obtain ⟨h3, s3, w3, e3⟩ := ih (i + 1) N h2 (by omega) (by omega) s2 w2
        refine ⟨h3, s3, w3, ?_⟩
        have e4 : iI (63 - (i : Int)) = nI (63 - i) := by
          rw [iI_nat]; congr 1; omega
        have e5 : nI (63 - i) + (-1) = iI (63 - ((i + 1 : Nat) : Int)) := by
          have z : (-1 : Int32) = iI (-1) := by decide
          rw [z, iI_nat, iI_add]; congr 1; omega
        have e6 : ¬ nI (63 - i) < 0 := nI_pos (by omega)
        have main : f_Desk_takeHands_8 (N + 1) (b + 124) (nI a) (iI (63 - (i : Int))) hh = f_Desk_takeHands_14 (fun a0 x1 x2 h => f_Desk_takeHands_8 N a0 x1 x2 h) FU (b + 124) (nI a) (nI (63 - i)) 0 hh := by
          rw [f_Desk_takeHands_8, e4, if_neg e6]
        have e2' : f_Desk_takeHands_14 (fun a0 x1 x2 h => f_Desk_takeHands_8 N a0 x1 x2 h) FU (b + 124) (nI a) (nI (63 - i)) 0 hh = f_Desk_takeHands_8 N (b + 124) (nI a) (iI (63 - ((i + 1 : Nat) : Int))) h2 := by
          rw [← e5]; exact e2
        exact (main.trans e2').trans e3
    obtain ⟨h2, s2, w2, e2⟩ := go 64 0 FU hh (by omega) (by rw [FU_eq]; omega) t0 (tv.cg (fun s hs => (hvc_0 hs).symm))
    refine ⟨h2, s2, w2, ?_⟩
    have kk : gK hh (b + 124) = (0, 0) ∧ gK hh (b + 125) = (1, 64) := ⟨by rw [t0.1]; exact K124, by rw [t0.1]; exact K125⟩
    have rr : gR hh (b + 124) 0 = some (b + 125) := by rw [t0.2.1]; exact R124_0
    have e3 : nI 64 - 1 = iI (63 - ((0 : Nat) : Int)) := by decide
    have main : f_Desk_takeHands (b + 124) (nI a) hh = f_Desk_takeHands_8 FU (b + 124) (nI a) (nI 64 - 1) hh := by
      simp only [f_Desk_takeHands, lnA, ↓ob_eq, ob_so, ldI, ldR, ldO, stI, stZ, stR, isO, wrA_n, rdA_n, wrA_l, rdA_l, gK_sI, gR_sI, gX_sI, gN_sI, gK_cp, gR_cp, gX_cp, gN_cp, rtZ_0, rtZ_1, if_true, reduceIte, and_self, true_and, and_true, kk, rr]
    rw [e3] at main
    exact main.trans e2
  have w20 : ∀ c, c ≤ 5 → ∀ s, hw A c s ≤ 20000 := fun c hc s => by
    have h1 := hw_le A c s
    have h2 : 7 ^ c ≤ 7 ^ 5 := Nat.pow_le_pow_right (by decide) hc
    have h3 : 7 ^ 5 = 16807 := by decide
    omega
  have c34 : ∀ hh : PH, Sn [(125, 0, 64)] b h hh → Vec hh (b + 125) 64 (hw A 0) → ∃ h2, Sn [(125, 0, 64)] b h h2 ∧ Vec h2 (b + 125) 64 (hw A 6) ∧ f_Desk_mostHands_34 FU (b + 124) (b + 28) 0 hh = f_Desk_mostHands_60 FU (b + 124) 0 0 h2 := by
    have go : ∀ e c M (hh : PH), c + e = 6 → e < M → Sn [(125, 0, 64)] b h hh → Vec hh (b + 125) 64 (hw A c) → ∃ h2, Sn [(125, 0, 64)] b h h2 ∧ Vec h2 (b + 125) 64 (hw A 6) ∧ f_Desk_mostHands_34 M (b + 124) (b + 28) (nI c) hh = f_Desk_mostHands_60 FU (b + 124) 0 0 h2 := by
      intro e
      induction e with
      | zero =>
        intro c M hh hc hM t0 tv
        obtain ⟨N, rfl⟩ : ∃ N, M = N + 1 := ⟨M - 1, by omega⟩
        obtain rfl : c = 6 := by omega
        refine ⟨hh, t0, tv, ?_⟩
        have e1 : (6 : Int32) ≤ nI 6 := by decide
        rw [f_Desk_mostHands_34, if_pos e1]
      | succ e ih =>
        intro c M hh hc hM t0 tv
        obtain ⟨N, rfl⟩ : ∃ N, M = N + 1 := ⟨M - 1, by omega⟩
        obtain ⟨h2, s2, w2, e2⟩ := ctk (A c) (hw A c) hh (hA c).1 (w20 c (by omega)) t0 tv
        obtain ⟨h3, s3, w3, e3⟩ := ih (c + 1) N h2 (by omega) (by omega) s2 w2
        refine ⟨h3, s3, w3, ?_⟩
        have kk : gK hh (b + 124) = (0, 0) := by rw [t0.1]; exact K124
        have e4 : ¬ 6 ≤ c := by omega
        have main : f_Desk_mostHands_34 (N + 1) (b + 124) (b + 28) (nI c) hh = f_Desk_mostHands_34 N (b + 124) (b + 28) (nI (c + 1)) h2 := by
          rw [f_Desk_mostHands_34]
          simp (disch := omega) only [↓ob_eq, ob_so, ldI, ldR, ldO, stI, stZ, stR, isO, wrA_n, rdA_n, wrA_l, rdA_l, gK_sI, gR_sI, gX_sI, gN_sI, gK_cp, gR_cp, gX_cp, gN_cp, rtZ_0, rtZ_1, if_true, reduceIte, and_self, true_and, and_true, kk, e4, gc hh t0 c (by omega), e2, L_len, nI_addL, if_false]
        exact main.trans e3
    intro hh t0 tv
    have this := go 6 0 FU hh (by omega) (by rw [FU_eq]; omega) t0 tv
    rw [nI_0] at this
    exact this
  obtain ⟨w, hwd⟩ : ∃ w, w = hw A 6 := ⟨_, rfl⟩
  have wle : ∀ s, w s ≤ 117649 := fun s => by rw [hwd]; exact hw_le6 A 6 s (by omega)
  obtain ⟨mo, hmo⟩ : ∃ mo, mo = fo (hms w) 0 64 0 := ⟨_, rfl⟩
  have mo10 : ∀ i m, m ≤ 10 → hms w i m ≤ 10 := fun i m hm => by
    unfold hms
    split
    · exact hm
    · exact Nat.max_le.mpr ⟨hm, pc_le i⟩
  have mo_le : mo ≤ 10 := by
    rw [hmo]
    exact fo_inv (fun _ m => m ≤ 10) 64 (fun i m _ hm => mo10 i m hm) 64 0 0 (by omega) (by omega)
  have c60 : ∀ hh : PH, Sn [(125, 0, 64)] b h hh → Vec hh (b + 125) 64 w → f_Desk_mostHands_60 FU (b + 124) 0 0 hh = some (nI mo, hh) := fun hh t0 tv => by
    have kk : gK hh (b + 124) = (0, 0) ∧ gK hh (b + 125) = (1, 64) := ⟨by rw [t0.1]; exact K124, by rw [t0.1]; exact K125⟩
    have rr : gR hh (b + 124) 0 = some (b + 125) := by rw [t0.2.1]; exact R124_0
    have key := (lp (fun N (m : Nat) i => f_Desk_mostHands_60 N (b + 124) (nI m) (nI i) hh) (hms w) (fun _ m => m ≤ 10) 64 (fun m => some (nI m, hh))
      (fun N i m hi hm => by
        have e2 : ¬ 64 ≤ i := by omega
        have hb := bitc (n := i) (by omega) hh
        have hp := pc_le i
        have jm := jmaxN (a := m) (c := pc i) (by omega) (by omega)
        have wl := wle i
        rw [f_Desk_mostHands_60]
        unfold hms
        by_cases z : w i = 0
        · have v1 : gI hh (b + 125) i = 0 := by rw [tv i hi, z]; rfl
          have v0 : (0 : Int32) ≤ 0 := by decide
          simp (disch := omega) [lnA, ↓ob_eq, ob_so, ldI, ldR, ldO, stI, stZ, stR, isO, wrA_n, rdA_n, wrA_l, rdA_l, gK_sI, gR_sI, gX_sI, gN_sI, gK_cp, gR_cp, gX_cp, gN_cp, rtZ_0, rtZ_1, if_true, reduceIte, and_self, true_and, and_true, kk, rr, e2, hi, v1, v0, z, nI_le', nI_addL]
        · have v1 : ¬ nI (w i) ≤ 0 := fun e => z (by
            have this : w i ≤ 0 := (nI_leL (n := 0) (by omega) (by decide)).mp e
            omega)
          simp (disch := omega) [lnA, ↓ob_eq, ob_so, ldI, ldR, ldO, stI, stZ, stR, isO, wrA_n, rdA_n, wrA_l, rdA_l, gK_sI, gR_sI, gX_sI, gN_sI, gK_cp, gR_cp, gX_cp, gN_cp, rtZ_0, rtZ_1, if_true, reduceIte, and_self, true_and, and_true, kk, rr, e2, hi, tv i hi, v1, z, hb, jm, nI_le', nI_addL])
      (fun i m _ hm => mo10 i m hm)
      (fun N m _ => by
        rw [f_Desk_mostHands_60]
        simp (disch := omega) [lnA, ↓ob_eq, ob_so, ldI, ldR, ldO, stI, stZ, stR, isO, wrA_n, rdA_n, wrA_l, rdA_l, gK_sI, gR_sI, gX_sI, gN_sI, gK_cp, gR_cp, gX_cp, gN_cp, rtZ_0, rtZ_1, if_true, reduceIte, and_self, true_and, and_true, kk, rr, nI_le'])
      64 0 0 FU (by omega) (by omega) (by rw [FU_eq]; omega)).1
    rw [← hmo, nI_0] at key
    exact key
  have cwo : ∀ hh : PH, Sn [(125, 0, 64)] b h hh → Vec hh (b + 125) 64 w → f_Desk_waysOf (b + 124) (nI mo) hh = some (nI (fo (hsum w mo) 0 64 0), hh) := fun hh t0 tv => by
    have kk : gK hh (b + 124) = (0, 0) ∧ gK hh (b + 125) = (1, 64) := ⟨by rw [t0.1]; exact K124, by rw [t0.1]; exact K125⟩
    have rr : gR hh (b + 124) 0 = some (b + 125) := by rw [t0.2.1]; exact R124_0
    have key := lp0 (fun N (m : Nat) i => f_Desk_waysOf_4 N (b + 124) (nI mo) (nI m) (nI i) hh) (hsum w mo) 64 (fun m => some (nI m, hh)) 0 FU (by rw [FU_eq]; omega)
      (fun N i m hi => by
        have e2 : ¬ 64 ≤ i := by omega
        have hb := bitc (n := i) (by omega) hh
        have hp := pc_le i
        rw [f_Desk_waysOf_4]
        unfold hsum
        by_cases z : pc i = mo
        · rw [z] at hb
          simp (disch := omega) [lnA, ↓ob_eq, ob_so, ldI, ldR, ldO, stI, stZ, stR, isO, wrA_n, rdA_n, wrA_l, rdA_l, gK_sI, gR_sI, gX_sI, gN_sI, gK_cp, gR_cp, gX_cp, gN_cp, rtZ_0, rtZ_1, if_true, reduceIte, and_self, true_and, and_true, kk, rr, e2, hi, tv i hi, z, hb, nI_le', nI_addL, nI_add]
        · simp (disch := omega) [lnA, ↓ob_eq, ob_so, ldI, ldR, ldO, stI, stZ, stR, isO, wrA_n, rdA_n, wrA_l, rdA_l, gK_sI, gR_sI, gX_sI, gN_sI, gK_cp, gR_cp, gX_cp, gN_cp, rtZ_0, rtZ_1, if_true, reduceIte, and_self, true_and, and_true, kk, rr, e2, hi, z, hb, nI_le', nI_eq', nI_addL])
      (fun N m => by
        rw [f_Desk_waysOf_4]
        simp (disch := omega) [lnA, ↓ob_eq, ob_so, ldI, ldR, ldO, stI, stZ, stR, isO, wrA_n, rdA_n, wrA_l, rdA_l, gK_sI, gR_sI, gX_sI, gN_sI, gK_cp, gR_cp, gX_cp, gN_cp, rtZ_0, rtZ_1, if_true, reduceIte, and_self, true_and, and_true, kk, rr, nI_le'])
    rw [nI_0] at key
    exact key
  have c2 : ∃ h2, Sn [(125, 0, 64)] b h h2 ∧ Vec h2 (b + 125) 64 w ∧ f_Desk_mostHands (b + 124) (b + 28) h = some (nI mo, h2) := by
    have key := lp (fun N (s : PH) i => f_Desk_mostHands_2 N (b + 124) (b + 28) (nI i) s) (fun i s => sI s (b + 125) i (nI (hw A 0 i))) (fun i s => Sn [(125, 0, 64)] b h s ∧ Vec s (b + 125) i (hw A 0)) 64 (fun s => f_Desk_mostHands_34 FU (b + 124) (b + 28) 0 s)
      (fun N i s hi q => by
        obtain ⟨q1, q2⟩ := q
        have e2 : ¬ 64 ≤ i := by omega
        have kk : gK s (b + 124) = (0, 0) ∧ gK s (b + 125) = (1, 64) := ⟨by rw [q1.1]; exact K124, by rw [q1.1]; exact K125⟩
        have rr : gR s (b + 124) 0 = some (b + 125) := by rw [q1.2.1]; exact R124_0
        rw [f_Desk_mostHands_2]
        by_cases z : i = 0
        · subst z
          have z1 : (nI 0 = 0) = True := eq_true nI_0
          have z2 : nI (hw A 0 0) = 1 := rfl
          simp (disch := omega) [f_Desk_mostHands_25, lnA, ↓ob_eq, ob_so, ldI, ldR, ldO, stI, stZ, stR, isO, wrA_n, rdA_n, wrA_l, rdA_l, gK_sI, gR_sI, gX_sI, gN_sI, gK_cp, gR_cp, gX_cp, gN_cp, rtZ_0, rtZ_1, if_true, reduceIte, and_self, true_and, and_true, kk, rr, z1, z2, nI_le', nI_addL]
        · have z1 : ¬ nI i = 0 := fun e => z ((nI_eqL (n := 0) (by omega) (by decide)).mp e)
          have z2 : nI (hw A 0 i) = 0 := by rw [hw, if_neg z]; rfl
          simp (disch := omega) [f_Desk_mostHands_25, lnA, ↓ob_eq, ob_so, ldI, ldR, ldO, stI, stZ, stR, isO, wrA_n, rdA_n, wrA_l, rdA_l, gK_sI, gR_sI, gX_sI, gN_sI, gK_cp, gR_cp, gX_cp, gN_cp, rtZ_0, rtZ_1, if_true, reduceIte, and_self, true_and, and_true, kk, rr, e2, hi, z1, z2, nI_le', nI_addL])
      (fun i s hi q => by
        obtain ⟨q1, q2⟩ := q
        refine ⟨q1.put 125 _ _ (inL_in (lo := 0) (hi := 64) (by decide) (by omega) (by omega)), fun j hj => ?_⟩
        by_cases z : j = i
        · subst z; simp (disch := omega) only [gI_q, gI_n1, gI_n2]
        · simp (disch := omega) only [gI_q, gI_n1, gI_n2]; exact q2 j (by omega))
      (fun N s q => by
        obtain ⟨q1, q2⟩ := q
        have kk : gK s (b + 124) = (0, 0) ∧ gK s (b + 125) = (1, 64) := ⟨by rw [q1.1]; exact K124, by rw [q1.1]; exact K125⟩
        have rr : gR s (b + 124) 0 = some (b + 125) := by rw [q1.2.1]; exact R124_0
        rw [f_Desk_mostHands_2]
        simp (disch := omega) only [lnA, ↓ob_eq, ob_so, ldI, ldR, ldO, stI, stZ, stR, isO, wrA_n, rdA_n, wrA_l, rdA_l, gK_sI, gR_sI, gX_sI, gN_sI, gK_cp, gR_cp, gX_cp, gN_cp, rtZ_0, rtZ_1, if_true, reduceIte, and_self, true_and, and_true, kk, rr, nI_le', Nat.le_refl])
      64 0 h FU (by omega) ⟨Sn.rf, fun j hj => absurd hj (by omega)⟩ (by rw [FU_eq]; omega)
    obtain ⟨h2, s2, w2, e2⟩ := c34 _ key.2.1 key.2.2
    rw [← hwd] at w2
    exact ⟨h2, s2, w2, (key.1.trans e2).trans (c60 h2 s2 w2)⟩
  obtain ⟨h1, t1, tv1, e1⟩ := c2
  -- the reference
  have K' : ∀ hh, Sn [(131, 0, 1), (159, 0, 64), (160, 0, 64)] b h1 hh → gK hh = gK h ∧ gR hh = gR h := fun hh t => ⟨t.1.trans t1.1, t.2.1.trans t1.2.1⟩
  have d158 : ∀ hh, Sn [(131, 0, 1), (159, 0, 64), (160, 0, 64)] b h1 hh → ∀ c, c < 6 → gI hh (b + 158) c = nI (A c) := fun hh t c hc => by
    rw [t.2.2.2.2 158 c (by simp [inL]), t1.2.2.2.2 158 c (by simp [inL]), GG c hc]
    exact (hA c).2
  have r18 : ∀ (k2 : Nat → Int32 → Int32 → PH → Option PH) (w : Nat → Nat) c s (hh : PH), c < 6 → s < 64 → Sn [(131, 0, 1), (159, 0, 64), (160, 0, 64)] b h1 hh → Vec hh (b + 159) 64 w → f_Mo_goesOne_18 k2 FU (b + 131) (nI c) (nI s) (nI (w s)) 0 hh = k2 (b + 131) (nI c) (nI (s + 1)) (sI hh (b + 160) s (nI (hnx (A c) w s))) := by
    intro k2 w c s hh hc hs t0 tv
    obtain ⟨g1, g2⟩ := K' hh t0
    have kk : gK hh (b + 131) = (0, 9) ∧ gK hh (b + 158) = (1, 6) ∧ gK hh (b + 159) = (1, 64) ∧ gK hh (b + 160) = (1, 64) := ⟨by rw [g1]; exact K131, by rw [g1]; exact K158, by rw [g1]; exact K159, by rw [g1]; exact K160⟩
    have rr : gR hh (b + 131) 49 = some (b + 158) ∧ gR hh (b + 131) 50 = some (b + 159) ∧ gR hh (b + 131) 51 = some (b + 160) := ⟨by rw [g2]; exact R131_49, by rw [g2]; exact R131_50, by rw [g2]; exact R131_51⟩
    have dc := d158 hh t0 c hc
    have hAc := (hA c).1
    have hand : A c &&& s < 64 := Nat.lt_of_le_of_lt Nat.and_le_right hs
    have key := lp0 (fun N (x : Nat) j => f_Mo_goesOne_18 k2 N (b + 131) (nI c) (nI s) (nI x) (nI j) hh) (fun j x => x + hdt (A c) w s j) 6 (fun x => k2 (b + 131) (nI c) (nI (s + 1)) (sI hh (b + 160) s (nI x))) (w s) FU (by rw [FU_eq]; omega)
      (fun N j x hj => by
        have e2 : ¬ 6 ≤ j := by omega
        have hh' := mo_has (a := b + 131) (n := A c &&& s) (k := j) (h := hh) (by omega) (by omega)
        have sh : jshl 1 (nI j) = nI (2 ^ j) := jshl1 j (by omega)
        rw [f_Mo_goesOne_18]
        unfold hdt
        by_cases q : (A c &&& s).testBit j = true
        · rw [if_pos q] at hh'
          have qs : s.testBit j = true := by
            rw [Nat.testBit_and] at q
            simp only [Bool.and_eq_true] at q
            exact q.2
          obtain ⟨o1, o2, o3, o4, o5⟩ := b64_on s hs j hj qs
          have nx : nI s &&& ~~~(nI (2 ^ j)) = nI (s ^^^ 2 ^ j) := by
            have e : nI s &&& (nI (2 ^ j) ^^^ (-1)) = nI (s ^^^ 2 ^ j) := by rw [andnot, fa_and, nI_xor, o4]
            rw [← e]
            congr 1
            simp
          have o6 : s ^^^ 2 ^ j < 64 := by omega
          simp (disch := omega) [↓ob_eq, ob_so, ldI, ldR, ldO, stI, stZ, stR, isO, wrA_n, rdA_n, wrA_l, rdA_l, gK_sI, gR_sI, gX_sI, gN_sI, gK_cp, gR_cp, gX_cp, gN_cp, rtZ_0, rtZ_1, if_true, reduceIte, and_self, true_and, and_true, kk, rr, e2, hc, dc, fa_and, hh', q, sh, nx, o6, tv _ o6, L_len, nI_addL, nI_add]
        · rw [if_neg q] at hh'
          simp (disch := omega) [↓ob_eq, ob_so, ldI, ldR, ldO, stI, stZ, stR, isO, wrA_n, rdA_n, wrA_l, rdA_l, gK_sI, gR_sI, gX_sI, gN_sI, gK_cp, gR_cp, gX_cp, gN_cp, rtZ_0, rtZ_1, if_true, reduceIte, and_self, true_and, and_true, kk, rr, e2, hc, dc, fa_and, hh', q, L_len, nI_addL])
      (fun N x => by
        have e1 : (6 : Int32) ≤ nI 6 := by decide
        rw [f_Mo_goesOne_18]
        simp (disch := omega) [↓ob_eq, ob_so, ldI, ldR, ldO, stI, stZ, stR, isO, wrA_n, rdA_n, wrA_l, rdA_l, gK_sI, gR_sI, gX_sI, gN_sI, gK_cp, gR_cp, gX_cp, gN_cp, rtZ_0, rtZ_1, if_true, reduceIte, and_self, true_and, and_true, kk, rr, e1, hs, nI_addL])
    exact key
  have rgo : ∀ (w : Nat → Nat) c (hh : PH), c < 6 → Sn [(131, 0, 1), (159, 0, 64), (160, 0, 64)] b h1 hh → Vec hh (b + 159) 64 w → ∃ h2, Sn [(131, 0, 1), (159, 0, 64), (160, 0, 64)] b h1 h2 ∧ Vec h2 (b + 159) 64 (hnx (A c) w) ∧ f_Mo_goesOne (b + 131) (nI c) hh = some h2 := by
    intro w c hh hc t0 tv
    have key := lp (fun N (s : PH) i => f_Mo_goesOne_2 N (b + 131) (nI c) (nI i) s) (fun i s => sI s (b + 160) i (nI (hnx (A c) w i))) (fun i s => Sn [(131, 0, 1), (159, 0, 64), (160, 0, 64)] b h1 s ∧ Vec s (b + 159) 64 w ∧ Vec s (b + 160) i (hnx (A c) w)) 64 (fun s => f_Mo_goesOne_79 FU (b + 131) 0 s)
      (fun N i s hi q => by
        obtain ⟨q1, q2, q3⟩ := q
        have e2 : ¬ 64 ≤ i := by omega
        obtain ⟨g1, g2⟩ := K' s q1
        have kk : gK s (b + 131) = (0, 9) ∧ gK s (b + 159) = (1, 64) := ⟨by rw [g1]; exact K131, by rw [g1]; exact K159⟩
        have rr : gR s (b + 131) 50 = some (b + 159) := by rw [g2]; exact R131_50
        have main : f_Mo_goesOne_2 (N + 1) (b + 131) (nI c) (nI i) s = f_Mo_goesOne_18 (fun a0 x1 x2 h => f_Mo_goesOne_2 N a0 x1 x2 h) FU (b + 131) (nI c) (nI i) (nI (w i)) 0 s := by
          rw [f_Mo_goesOne_2]
          simp (disch := omega) only [↓ob_eq, ob_so, ldI, ldR, ldO, stI, stZ, stR, isO, wrA_n, rdA_n, wrA_l, rdA_l, gK_sI, gR_sI, gX_sI, gN_sI, gK_cp, gR_cp, gX_cp, gN_cp, rtZ_0, rtZ_1, if_true, reduceIte, and_self, true_and, and_true, kk, rr, e2, hi, q2 i hi, L_len, if_false]
        exact main.trans (r18 (fun a0 x1 x2 h => f_Mo_goesOne_2 N a0 x1 x2 h) w c i s hc hi q1 q2))
      (fun i s hi q => by
        obtain ⟨q1, q2, q3⟩ := q
        refine ⟨q1.put 160 _ _ (inL_in (lo := 0) (hi := 64) (by decide) (by omega) (by omega)), fun j hj => ?_, fun j hj => ?_⟩
        · simp (disch := omega) only [gI_q, gI_n1, gI_n2]; exact q2 j hj
        · by_cases z : j = i
          · subst z; simp (disch := omega) only [gI_q, gI_n1, gI_n2]
          · simp (disch := omega) only [gI_q, gI_n1, gI_n2]; exact q3 j (by omega))
      (fun N s q => by
        have e1 : (64 : Int32) ≤ nI 64 := by decide
        rw [f_Mo_goesOne_2, if_pos e1])
      64 0 hh FU (by omega) ⟨t0, tv, fun j hj => absurd hj (by omega)⟩ (by rw [FU_eq]; omega)
    obtain ⟨k1, k2, k3, k4⟩ := key
    have key2 := lp (fun N (s : PH) i => f_Mo_goesOne_79 N (b + 131) (nI i) s) (fun i s => sI s (b + 159) i (nI (hnx (A c) w i))) (fun i s => Sn [(131, 0, 1), (159, 0, 64), (160, 0, 64)] b h1 s ∧ Vec s (b + 160) 64 (hnx (A c) w) ∧ Vec s (b + 159) i (hnx (A c) w)) 64 (fun s => some s)
      (fun N i s hi q => by
        obtain ⟨q1, q2, q3⟩ := q
        have e2 : ¬ 64 ≤ i := by omega
        obtain ⟨g1, g2⟩ := K' s q1
        have kk : gK s (b + 131) = (0, 9) ∧ gK s (b + 159) = (1, 64) ∧ gK s (b + 160) = (1, 64) := ⟨by rw [g1]; exact K131, by rw [g1]; exact K159, by rw [g1]; exact K160⟩
        have rr : gR s (b + 131) 50 = some (b + 159) ∧ gR s (b + 131) 51 = some (b + 160) := ⟨by rw [g2]; exact R131_50, by rw [g2]; exact R131_51⟩
        rw [f_Mo_goesOne_79]
        simp (disch := omega) [↓ob_eq, ob_so, ldI, ldR, ldO, stI, stZ, stR, isO, wrA_n, rdA_n, wrA_l, rdA_l, gK_sI, gR_sI, gX_sI, gN_sI, gK_cp, gR_cp, gX_cp, gN_cp, rtZ_0, rtZ_1, if_true, reduceIte, and_self, true_and, and_true, kk, rr, e2, hi, q2 i hi, L_len, nI_addL])
      (fun i s hi q => by
        obtain ⟨q1, q2, q3⟩ := q
        refine ⟨q1.put 159 _ _ (inL_in (lo := 0) (hi := 64) (by decide) (by omega) (by omega)), fun j hj => ?_, fun j hj => ?_⟩
        · simp (disch := omega) only [gI_q, gI_n1, gI_n2]; exact q2 j hj
        · by_cases z : j = i
          · subst z; simp (disch := omega) only [gI_q, gI_n1, gI_n2]
          · simp (disch := omega) only [gI_q, gI_n1, gI_n2]; exact q3 j (by omega))
      (fun N s q => by
        have e1 : (64 : Int32) ≤ nI 64 := by decide
        rw [f_Mo_goesOne_79, if_pos e1])
      64 0 _ FU (by omega) ⟨k2, k4, fun j hj => absurd hj (by omega)⟩ (by rw [FU_eq]; omega)
    exact ⟨_, key2.2.1, key2.2.2.2, k1.trans key2.1⟩
  have r48 : ∀ (x : Int32) (hh : PH), Sn [(131, 0, 1), (159, 0, 64), (160, 0, 64)] b h1 hh → Vec hh (b + 159) 64 (hw A 0) → ∃ h2, Sn [(131, 0, 1), (159, 0, 64), (160, 0, 64)] b h1 h2 ∧ Vec h2 (b + 159) 64 (hw A 6) ∧ f_Mo_hands_48 FU (b + 131) x 0 hh = f_Mo_hands_72 FU (b + 131) x 0 0 0 h2 := by
    intro x
    have go : ∀ e c M (hh : PH), c + e = 6 → e < M → Sn [(131, 0, 1), (159, 0, 64), (160, 0, 64)] b h1 hh → Vec hh (b + 159) 64 (hw A c) → ∃ h2, Sn [(131, 0, 1), (159, 0, 64), (160, 0, 64)] b h1 h2 ∧ Vec h2 (b + 159) 64 (hw A 6) ∧ f_Mo_hands_48 M (b + 131) x (nI c) hh = f_Mo_hands_72 FU (b + 131) x 0 0 0 h2 := by
      intro e
      induction e with
      | zero =>
        intro c M hh hc hM t0 tv
        obtain ⟨N, rfl⟩ : ∃ N, M = N + 1 := ⟨M - 1, by omega⟩
        obtain rfl : c = 6 := by omega
        refine ⟨hh, t0, tv, ?_⟩
        have e1 : (6 : Int32) ≤ nI 6 := by decide
        rw [f_Mo_hands_48, if_pos e1]
      | succ e ih =>
        intro c M hh hc hM t0 tv
        obtain ⟨N, rfl⟩ : ∃ N, M = N + 1 := ⟨M - 1, by omega⟩
        obtain ⟨h2, s2, w2, e2⟩ := rgo (hw A c) c hh (by omega) t0 tv
        obtain ⟨h3, s3, w3, e3⟩ := ih (c + 1) N h2 (by omega) (by omega) s2 w2
        refine ⟨h3, s3, w3, ?_⟩
        obtain ⟨g1, g2⟩ := K' hh t0
        have kk : gK hh (b + 131) = (0, 9) := by rw [g1]; exact K131
        have e4 : ¬ 6 ≤ c := by omega
        have main : f_Mo_hands_48 (N + 1) (b + 131) x (nI c) hh = f_Mo_hands_48 N (b + 131) x (nI (c + 1)) h2 := by
          rw [f_Mo_hands_48]
          simp (disch := omega) only [↓ob_eq, ob_so, ldI, ldR, ldO, stI, stZ, stR, isO, wrA_n, rdA_n, wrA_l, rdA_l, gK_sI, gR_sI, gX_sI, gN_sI, gK_cp, gR_cp, gX_cp, gN_cp, rtZ_0, rtZ_1, if_true, reduceIte, and_self, true_and, and_true, kk, e4, e2, L_len, nI_addL, if_false]
        exact main.trans e3
    intro hh t0 tv
    have this := go 6 0 FU hh (by omega) (by rw [FU_eq]; omega) t0 tv
    rw [nI_0] at this
    exact this
  have r72 : ∀ (x : Int32) (hh : PH), Sn [(131, 0, 1), (159, 0, 64), (160, 0, 64)] b h1 hh → Vec hh (b + 159) 64 w → f_Mo_hands_72 FU (b + 131) x 0 0 0 hh = if x = 0 then some (nI mo, hh) else some (nI (fo (hsum w mo) 0 64 0), hh) := fun x hh t0 tv => by
    obtain ⟨g1, g2⟩ := K' hh t0
    have kk : gK hh (b + 131) = (0, 9) ∧ gK hh (b + 159) = (1, 64) := ⟨by rw [g1]; exact K131, by rw [g1]; exact K159⟩
    have rr : gR hh (b + 131) 50 = some (b + 159) := by rw [g2]; exact R131_50
    have key := (lp (fun N (m : Nat × Nat) i => f_Mo_hands_72 N (b + 131) x (nI m.1) (nI m.2) (nI i) hh) (hmr w) (fun _ m => m.1 ≤ 10) 64 (fun m => if x = 0 then some (nI m.1, hh) else some (nI m.2, hh))
      (fun N i m hi hm => by
        have e2 : ¬ 64 ≤ i := by omega
        have ho := ones (n := i) (by omega) (b + 131) hh
        have hp := pc_le i
        have wl := wle i
        rw [f_Mo_hands_72]
        unfold hmr
        by_cases z : w i = 0
        · have v1 : gI hh (b + 159) i = 0 := by rw [tv i hi, z]; rfl
          simp (disch := omega) [↓ob_eq, ob_so, ldI, ldR, ldO, stI, stZ, stR, isO, wrA_n, rdA_n, wrA_l, rdA_l, gK_sI, gR_sI, gX_sI, gN_sI, gK_cp, gR_cp, gX_cp, gN_cp, rtZ_0, rtZ_1, if_true, reduceIte, and_self, true_and, and_true, kk, rr, e2, hi, v1, z, L_len, nI_addL]
        · have v1 : ¬ nI (w i) = 0 := fun e => z ((nI_eqL (n := 0) (by omega) (by decide)).mp e)
          by_cases z2 : pc i < m.1
          · have z3 : ¬ m.1 ≤ pc i := by omega
            simp (disch := omega) [↓ob_eq, ob_so, ldI, ldR, ldO, stI, stZ, stR, isO, wrA_n, rdA_n, wrA_l, rdA_l, gK_sI, gR_sI, gX_sI, gN_sI, gK_cp, gR_cp, gX_cp, gN_cp, rtZ_0, rtZ_1, if_true, reduceIte, and_self, true_and, and_true, kk, rr, e2, hi, tv i hi, v1, z, z2, z3, ho, L_len, nI_le', nI_addL]
          · have z3 : m.1 ≤ pc i := by omega
            by_cases z4 : m.1 < pc i
            · have z5 : ¬ pc i ≤ m.1 := by omega
              simp (disch := omega) [f_Mo_hands_131, ↓ob_eq, ob_so, ldI, ldR, ldO, stI, stZ, stR, isO, wrA_n, rdA_n, wrA_l, rdA_l, gK_sI, gR_sI, gX_sI, gN_sI, gK_cp, gR_cp, gX_cp, gN_cp, rtZ_0, rtZ_1, if_true, reduceIte, and_self, true_and, and_true, kk, rr, e2, hi, tv i hi, v1, z, z2, z3, z4, z5, ho, L_len, nI_le', nI_addL]
            · have z5 : pc i ≤ m.1 := by omega
              simp (disch := omega) [f_Mo_hands_131, ↓ob_eq, ob_so, ldI, ldR, ldO, stI, stZ, stR, isO, wrA_n, rdA_n, wrA_l, rdA_l, gK_sI, gR_sI, gX_sI, gN_sI, gK_cp, gR_cp, gX_cp, gN_cp, rtZ_0, rtZ_1, if_true, reduceIte, and_self, true_and, and_true, kk, rr, e2, hi, tv i hi, v1, z, z2, z3, z4, z5, ho, L_len, nI_le', nI_addL, nI_add])
      (fun i m _ hm => by
        have hp := pc_le i
        unfold hmr
        split
        · exact hm
        · split
          · exact hm
          · exact hp)
      (fun N m _ => by
        have e1 : (64 : Int32) ≤ nI 64 := by decide
        rw [f_Mo_hands_72, if_pos e1])
      64 0 (0, 0) FU (by omega) (by show (0 : Nat) ≤ 10; omega) (by rw [FU_eq]; omega)).1
    rw [hm_eq, ← hmo] at key
    exact key
  rcases in_cases v 1 1 rfl (by omega) with ⟨k, hk, rfl, u, i⟩ | ⟨u, i⟩
  · have r2 : ∃ h2, Sn [(131, 0, 1), (159, 0, 64), (160, 0, 64)] b h1 h2 ∧ f_Mo_hands (b + 131) (nI k) h1 = if nI k = 0 then some (nI mo, h2) else some (nI (fo (hsum w mo) 0 64 0), h2) := by
      have key := lp (fun N (s : PH) i => f_Mo_hands_19 N (b + 131) (nI k) (nI i) s) (fun i s => sI s (b + 159) i (nI (hw A 0 i))) (fun i s => Sn [(131, 0, 1), (159, 0, 64), (160, 0, 64)] b h1 s ∧ Vec s (b + 159) i (hw A 0)) 64 (fun s => f_Mo_hands_48 FU (b + 131) (nI k) 0 s)
        (fun N i s hi q => by
          obtain ⟨q1, q2⟩ := q
          have e2 : ¬ 64 ≤ i := by omega
          obtain ⟨g1, g2⟩ := K' s q1
          have kk : gK s (b + 131) = (0, 9) ∧ gK s (b + 159) = (1, 64) := ⟨by rw [g1]; exact K131, by rw [g1]; exact K159⟩
          have rr : gR s (b + 131) 50 = some (b + 159) := by rw [g2]; exact R131_50
          rw [f_Mo_hands_19]
          by_cases z : i = 0
          · subst z
            have z1 : (nI 0 = 0) = True := eq_true nI_0
            have z0 : ¬ (64 : Int32) ≤ nI 0 := by decide
            have z2 : nI (hw A 0 0) = 1 := rfl
            simp (disch := omega) [f_Mo_hands_39, ↓ob_eq, ob_so, ldI, ldR, ldO, stI, stZ, stR, isO, wrA_n, rdA_n, wrA_l, rdA_l, gK_sI, gR_sI, gX_sI, gN_sI, gK_cp, gR_cp, gX_cp, gN_cp, rtZ_0, rtZ_1, if_true, reduceIte, and_self, true_and, and_true, kk, rr, z0, z1, z2, nI_addL]
          · have z1 : ¬ nI i = 0 := fun e => z ((nI_eqL (n := 0) (by omega) (by decide)).mp e)
            have z2 : nI (hw A 0 i) = 0 := by rw [hw, if_neg z]; rfl
            simp (disch := omega) [f_Mo_hands_39, ↓ob_eq, ob_so, ldI, ldR, ldO, stI, stZ, stR, isO, wrA_n, rdA_n, wrA_l, rdA_l, gK_sI, gR_sI, gX_sI, gN_sI, gK_cp, gR_cp, gX_cp, gN_cp, rtZ_0, rtZ_1, if_true, reduceIte, and_self, true_and, and_true, kk, rr, e2, hi, z1, z2, L_len, nI_addL])
        (fun i s hi q => by
          obtain ⟨q1, q2⟩ := q
          refine ⟨q1.put 159 _ _ (inL_in (lo := 0) (hi := 64) (by decide) (by omega) (by omega)), fun j hj => ?_⟩
          by_cases z : j = i
          · subst z; simp (disch := omega) only [gI_q, gI_n1, gI_n2]
          · simp (disch := omega) only [gI_q, gI_n1, gI_n2]; exact q2 j (by omega))
        (fun N s q => by
          have e1 : (64 : Int32) ≤ nI 64 := by decide
          rw [f_Mo_hands_19, if_pos e1])
        64 0 (sI h1 (b + 131) 0 0) FU (by omega) ⟨Sn.rf.put 131 0 0 (by decide), fun j hj => absurd hj (by omega)⟩ (by rw [FU_eq]; omega)
      obtain ⟨h2, s2, w2, e2⟩ := r48 (nI k) _ key.2.1 key.2.2
      rw [← hwd] at w2
      have K1' : gK h1 (b + 131) = (0, 9) := by rw [t1.1]; exact K131
      refine ⟨h2, s2, ?_⟩
      have e3 : f_Mo_hands (b + 131) (nI k) h1 = f_Mo_hands_19 FU (b + 131) (nI k) (nI 0) (sI h1 (b + 131) 0 0) := by
        have e10 : ¬ (1 : Int32) = 0 := by decide
        simp only [f_Mo_hands, i, ↓ob_eq, ob_so, ldI, ldR, ldO, stI, stZ, stR, isO, wrA_n, rdA_n, wrA_l, rdA_l, gK_sI, gR_sI, gX_sI, gN_sI, gK_cp, gR_cp, gX_cp, gN_cp, rtZ_0, rtZ_1, if_true, reduceIte, and_self, true_and, and_true, K1', nI_0, e10, if_false]
      exact (e3.trans (key.1.trans e2)).trans (r72 (nI k) h2 s2 w2)
    obtain ⟨h2, t2, e2⟩ := r2
    have k124 : gK h1 (b + 124) = (0, 0) := by rw [t1.1]; exact K124
    have k0 : gK h1 b = (0, 8) := by rw [t1.1]; exact K0
    have r04 : gR h1 b 4 = some (b + 124) := by rw [t1.2.1]; exact R0_4
    by_cases h0 : nI k = 0
    · have h0' : (nI k = 0) = True := eq_true h0
      rw [if_pos h0] at e2
      exact both_ro I0 (by simp [f_Tc_hands, u, ↓ob_eq, ob_so, ldI, ldR, ldO, stI, stZ, stR, isO, wrA_n, rdA_n, wrA_l, rdA_l, gK_sI, gR_sI, gX_sI, gN_sI, gK_cp, gR_cp, gX_cp, gN_cp, rtZ_0, rtZ_1, if_true, reduceIte, and_self, true_and, and_true, K0, K1, K25, K124, R0_0, R0_4, R1_6, R25_1, e1, h0']) t1 e2 t2 (by decide)
    · rw [if_neg h0] at e2
      exact both_ro I0 (by simp [f_Tc_hands, u, ↓ob_eq, ob_so, ldI, ldR, ldO, stI, stZ, stR, isO, wrA_n, rdA_n, wrA_l, rdA_l, gK_sI, gR_sI, gX_sI, gN_sI, gK_cp, gR_cp, gX_cp, gN_cp, rtZ_0, rtZ_1, if_true, reduceIte, and_self, true_and, and_true, K0, K1, K25, K124, R0_0, R0_4, R1_6, R25_1, e1, h0, k0, k124, r04, cwo h1 t1 tv1]) t1 e2 t2 (by decide)
  · exact both_ref I0 (r := -1) (by simp [f_Tc_hands, u, ↓ob_eq, ob_so, ldI, ldR, ldO, stI, stZ, stR, isO, wrA_n, rdA_n, wrA_l, rdA_l, gK_sI, gR_sI, gX_sI, gN_sI, gK_cp, gR_cp, gX_cp, gN_cp, rtZ_0, rtZ_1, if_true, reduceIte, and_self, true_and, and_true]) (by simp [f_Mo_hands, i, ↓ob_eq, ob_so, ldI, ldR, ldO, stI, stZ, stR, isO, wrA_n, rdA_n, wrA_l, rdA_l, gK_sI, gR_sI, gX_sI, gN_sI, gK_cp, gR_cp, gX_cp, gN_cp, rtZ_0, rtZ_1, if_true, reduceIte, and_self, true_and, and_true, K131])
