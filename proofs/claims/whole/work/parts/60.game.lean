/-! ===== game, feed ===== -/
/-- the first number of jokes that does it; none -/
def fj (need T S : Int32) (m : Nat) : Int32 := fox (fun i (_ : Unit) => decide (jrem (T - nI (i + 1)) (S + 2) = need)) (fun i _ => nI (i + 1)) (fun _ s => s) (fun _ => -1) 0 m ()
theorem fox_via {σ ρ τ : Type} {ex : Nat → σ → Bool} {out : Nat → σ → ρ} {out' : Nat → σ → τ} {st : Nat → σ → σ} {fin : σ → ρ} {fin' : σ → τ} (P : ρ → τ → Prop) : ∀ d i s, (∀ j s, i ≤ j → j < i + d → P (out j s) (out' j s)) → (∀ s, P (fin s) (fin' s)) → P (fox ex out st fin i d s) (fox ex out' st fin' i d s)
  | 0, _, s, _, h2 => h2 s
  | d + 1, i, s, h1, h2 => by
    rw [fox, fox]
    cases ex i s
    · rw [if_neg (by decide), if_neg (by decide)]
      exact fox_via P d (i + 1) (st i s) (fun j s a c => h1 j s (by omega) (by omega)) h2
    · rw [if_pos rfl, if_pos rfl]
      exact h1 i s (Nat.le_refl _) (by omega)
def xr (hp : Nat → Int32) (n : Nat) : Int32 := fo (fun i s => s ^^^ hp i) 0 n 0
def xro (hp : Nat → Int32) (o n : Nat) : Int32 := fo (fun i s => s ^^^ if i = o then 0 else hp i) 0 n 0
theorem xor_yy (x y : Int32) : x ^^^ y ^^^ y = x := by
  rw [Int32.xor_assoc, Int32.xor_self, Int32.xor_zero]
theorem xro_eq (hp : Nat → Int32) (o : Nat) : ∀ n, xro hp o n = if o < n then xr hp n ^^^ hp o else xr hp n
  | 0 => rfl
  | n + 1 => by
    have e1 : xro hp o (n + 1) = xro hp o n ^^^ if n = o then 0 else hp n := by
      unfold xro; rw [fo_succ, Nat.zero_add]
    have e2 : xr hp (n + 1) = xr hp n ^^^ hp n := by
      unfold xr; rw [fo_succ, Nat.zero_add]
    rw [e1, e2, xro_eq hp o n]
    by_cases q : n = o
    · subst q
      rw [if_pos rfl, if_neg (by omega), if_pos (by omega), Int32.xor_zero, xor_yy]
    · rw [if_neg q]
      by_cases q2 : o < n
      · rw [if_pos q2, if_pos (by omega), Int32.xor_assoc, Int32.xor_comm (hp o), ← Int32.xor_assoc]
      · rw [if_neg q2, if_neg (by omega)]
theorem rl_heap {h : PH} {a c w i t s y : Nat} (K : gK h a = (0, 5)) (R13 : gR h a 13 = some c) (R12 : gR h a 12 = some w) (Kc : gK h c = (1, 6)) (Kw : gK h w = (1, 6)) (hi : i < 6) (eT : gI h c i = nI t) (eS : gI h w i = nI s) (hs : s ≤ 9) : f_Realm_heap a (nI i) (nI y) h = some (jrem (nI t - nI y) (nI s + 2), h) := by
  have e2 : ¬ nI s + 2 = 0 := by
    rw [nI_addL, nI_eqL (n := 0) (by omega) (by decide)]; simp
  simp (disch := omega) [f_Realm_heap, rmI, ↓ob_eq, ob_some, ldI, ldR, ldO, stI, stZ, stR, isO, wrA_n, rdA_n, wrA_l, rdA_l, gK_sI, gR_sI, gX_sI, gN_sI, gK_cp, gR_cp, gX_cp, gN_cp, rtZ_0, rtZ_1, if_true, reduceIte, and_self, true_and, and_true, K, R13, R12, Kc, Kw, hi, eT, eS, e2]
theorem mo_heap {h : PH} {a c w i t s : Nat} (K : gK h a = (0, 9)) (R1 : gR h a 1 = some c) (R11 : gR h a 11 = some w) (Kc : gK h c = (1, 79)) (Kw : gK h w = (1, 6)) (hi : i < 6) (eT : gI h c (73 + i) = nI t) (eS : gI h w i = nI s) (hs : s ≤ 9) : f_Mo_heapOf a (nI i) h = some (jrem (nI t) (nI s + 2), h) := by
  have e2 : ¬ nI s + 2 = 0 := by
    rw [nI_addL, nI_eqL (n := 0) (by omega) (by decide)]; simp
  have e3 : 73 + i < 79 := by omega
  simp (disch := omega) [f_Mo_heapOf, rmI, ↓ob_eq, ob_some, ldI, ldR, ldO, stI, stZ, stR, isO, wrA_n, rdA_n, wrA_l, rdA_l, gK_sI, gR_sI, gX_sI, gN_sI, gK_cp, gR_cp, gX_cp, gN_cp, rtZ_0, rtZ_1, if_true, reduceIte, and_self, true_and, and_true, K, R1, R11, Kc, Kw, hi, e3, eT, eS, e2, L_addn]
theorem op_game (b : Nat) : B_game (Inv b) b (b + 131) := by
  intro h I v
  have I0 := I
  obtain ⟨s, cd, c_stat, c_realm, c_book, c_law, c_kin, c_shi, c_roa, c_ord, c_han, c_wei, c_bag, c_pri, c_cnt, c_led, c_yea, c_log, c_rdr, c_msc, c_img⟩ := I
  have K0 : gK h b = (0, 8) := s.K 0 (by decide) rfl
  have K1 : gK h (b + 1) = (0, 1) := s.K 1 (by decide) rfl
  have K2 : gK h (b + 2) = (0, 5) := s.K 2 (by decide) rfl
  have K10 : gK h (b + 10) = (1, 6) := s.K 10 (by decide) rfl
  have K11 : gK h (b + 11) = (1, 6) := s.K 11 (by decide) rfl
  have K131 : gK h (b + 131) = (0, 9) := s.K 131 (by decide) rfl
  have K132 : gK h (b + 132) = (1, 79) := s.K 132 (by decide) rfl
  have K138 : gK h (b + 138) = (1, 6) := s.K 138 (by decide) rfl
  have R0_0 : gR h b 0 = some (b + 1) := s.R 0 0 rfl
  have R1_0 : gR h (b + 1) 0 = some (b + 2) := s.R 1 0 rfl
  have R2_12 : gR h (b + 2) 12 = some (b + 10) := s.R 2 12 rfl
  have R2_13 : gR h (b + 2) 13 = some (b + 11) := s.R 2 13 rfl
  have R131_1 : gR h (b + 131) 1 = some (b + 132) := s.R 131 1 rfl
  have R131_11 : gR h (b + 131) 11 = some (b + 138) := s.R 131 11 rfl
  have cr := c_realm
  obtain ⟨⟨hnt, hno⟩, ro, F1, F9, F0, F15, F16, F17, F18, F19, F14, F7, F8, RT, RO⟩ := cr
  have RT : ∀ t, t < ntOf h b → gI h (b + 3) t = gI h (b + 135) t ∧ gI h (b + 4) t = gI h (b + 136) t ∧ gI h (b + 5) t = gI h (b + 132) (7 + t) ∧ gI h (b + 6) t = gI h (b + 132) (19 + t) ∧ gI h (b + 7) t = gI h (b + 132) (31 + t) - 1 := RT
  have RO : ∀ o, o < noOf h b → gI h (b + 8) o = gI h (b + 132) (67 + o) ∧ gI h (b + 9) o = gI h (b + 137) o ∧ gI h (b + 10) o = gI h (b + 138) o ∧ gI h (b + 11) o = gI h (b + 132) (73 + o) := RO
  have hN6 : gI h (b + 131) 6 = nI (ntOf h b) := c_stat.1
  have hN7 : gI h (b + 131) 7 = nI (noOf h b) := c_stat.2.1
  obtain ⟨n, hnn⟩ : ∃ n, n = noOf h b := ⟨_, rfl⟩
  rw [← hnn] at hno F9 RO hN7
  obtain ⟨T, hT⟩ : ∃ T : Nat → Nat, ∀ o, T o = (gI h (b + 132) (73 + o)).toNatClampNeg := ⟨fun o => (gI h (b + 132) (73 + o)).toNatClampNeg, fun o => rfl⟩
  obtain ⟨S, hS⟩ : ∃ S : Nat → Nat, ∀ o, S o = (gI h (b + 138) o).toNatClampNeg := ⟨fun o => (gI h (b + 138) o).toNatClampNeg, fun o => rfl⟩
  have mT : ∀ o, o < n → T o ≤ 9 ∧ gI h (b + 132) (73 + o) = nI (T o) := fun o ho => by
    obtain ⟨x, x1, x2⟩ := (ro.2.2.2.2 o (by omega)).2
    rw [hT, x2, tn_nI (by omega)]; exact ⟨x1, rfl⟩
  have mS : ∀ o, o < n → S o ≤ 9 ∧ gI h (b + 138) o = nI (S o) := fun o ho => by
    obtain ⟨x, x1, x2⟩ := (c_stat.2.2.2.2.2 o (by omega)).2
    rw [hS, x2, tn_nI (by omega)]; exact ⟨x1, rfl⟩
  have cT : ∀ o, o < n → gI h (b + 11) o = nI (T o) := fun o ho => by rw [(RO o ho).2.2.2]; exact (mT o ho).2
  have cS : ∀ o, o < n → gI h (b + 10) o = nI (S o) := fun o ho => by rw [(RO o ho).2.2.1]; exact (mS o ho).2
  obtain ⟨hp, hhp⟩ : ∃ hp : Nat → Int32, ∀ o, hp o = jrem (nI (T o)) (nI (S o) + 2) := ⟨_, fun o => rfl⟩
  have ch : ∀ o y, o < n → f_Realm_heap (b + 2) (nI o) (nI y) h = some (jrem (nI (T o) - nI y) (nI (S o) + 2), h) := fun o y ho => rl_heap K2 R2_13 R2_12 K11 K10 (by omega) (cT o ho) (cS o ho) (mS o ho).1
  have ch0 : ∀ o, o < n → f_Realm_heap (b + 2) (nI o) 0 h = some (hp o, h) := fun o ho => by
    have := ch o 0 ho
    rw [nI_0, Int32.sub_zero] at this
    rw [this, hhp]
  obtain ⟨g, hg⟩ : ∃ g, g = sI h (b + 131) 0 0 := ⟨_, rfl⟩
  have K : gK g (b + 131) = (0, 9) := by rw [hg]; exact K131
  have R11 : gR g (b + 131) 11 = some (b + 138) := by rw [hg]; exact R131_11
  have R1 : gR g (b + 131) 1 = some (b + 132) := by rw [hg]; exact R131_1
  have Kw : gK g (b + 138) = (1, 6) := by rw [hg]; exact K138
  have Kc : gK g (b + 132) = (1, 79) := by rw [hg]; exact K132
  have G7 : gI g (b + 131) 7 = nI n := by rw [hg]; simp (disch := omega) only [gI_q, gI_n1, gI_n2]; exact hN7
  have gT : ∀ o, o < n → gI g (b + 132) (73 + o) = nI (T o) := fun o ho => by rw [hg]; simp (disch := omega) only [gI_q, gI_n1, gI_n2]; exact (mT o ho).2
  have gS : ∀ o, o < n → gI g (b + 138) o = nI (S o) := fun o ho => by rw [hg]; simp (disch := omega) only [gI_q, gI_n1, gI_n2]; exact (mS o ho).2
  have gh : ∀ o, o < n → f_Mo_heapOf (b + 131) (nI o) g = some (hp o, g) := fun o ho => by
    rw [mo_heap K R1 R11 Kc Kw (by omega) (gT o ho) (gS o ho) (mS o ho).1, hhp]
  obtain ⟨M, hM⟩ : ∃ M : Nat → Nat, ∀ o, M o = Nat.min (T o) (S o + 1) := ⟨_, fun o => rfl⟩
  have M1 : ∀ o, M o ≤ T o := fun o => by rw [hM]; exact Nat.min_le_left _ _
  have M2 : ∀ o, M o ≤ S o + 1 := fun o => by rw [hM]; exact Nat.min_le_right _ _
  have M3 : ∀ o, T o < M o + 1 ∨ S o + 1 < M o + 1 := fun o => by
    rw [hM]
    rcases Nat.le_total (T o) (S o + 1) with q | q
    · left; rw [show Nat.min (T o) (S o + 1) = T o from Nat.min_eq_left q]; omega
    · right; rw [show Nat.min (T o) (S o + 1) = S o + 1 from Nat.min_eq_right q]; omega
  obtain ⟨J, hJ⟩ : ∃ J : Nat → Int32, ∀ o, J o = fj (xr hp n ^^^ hp o) (nI (T o)) (nI (S o)) (M o) := ⟨_, fun o => rfl⟩
  -- the class, for one officer
  have cj : ∀ o, o < n → f_Realm_fewestJokes (b + 2) (nI o) h = some (J o, h) := fun o ho => by
    have e0 : ¬ nI o < 0 := nI_pos (by omega)
    have e1 : ¬ n ≤ o := by omega
    have a1 : f_Realm_fewestJokes (b + 2) (nI o) h = f_Realm_fewestJokes_14 FU (b + 2) (nI o) 0 0 h := by
      simp (disch := omega) [f_Realm_fewestJokes, f_Realm_isOfficer, ↓ob_eq, ob_some, ldI, ldR, ldO, stI, stZ, stR, isO, wrA_n, rdA_n, wrA_l, rdA_l, gK_sI, gR_sI, gX_sI, gN_sI, gK_cp, gR_cp, gX_cp, gN_cp, rtZ_0, rtZ_1, if_true, reduceIte, and_self, true_and, and_true, K2, F9, e0, e1, nI_le']
    have a2 : f_Realm_fewestJokes_14 FU (b + 2) (nI o) 0 0 h = f_Realm_fewestJokes_48 FU (b + 2) (nI o) (xro hp o n) 1 h := by
      refine lp0 (fun N (s : Int32) i => f_Realm_fewestJokes_14 N (b + 2) (nI o) s (nI i) h) (fun i s => s ^^^ if i = o then 0 else hp i) n (fun s => f_Realm_fewestJokes_48 FU (b + 2) (nI o) s 1 h) 0 FU (by rw [FU_eq]; omega) (fun N i s hi => ?_) (fun N s => ?_)
      · have e2 : ¬ n ≤ i := by omega
        rw [f_Realm_fewestJokes_14]
        by_cases q : i = o
        · subst q
          simp (disch := omega) [f_Realm_fewestJokes_38, ↓ob_eq, ob_some, ldI, ldR, ldO, stI, stZ, stR, isO, wrA_n, rdA_n, wrA_l, rdA_l, gK_sI, gR_sI, gX_sI, gN_sI, gK_cp, gR_cp, gX_cp, gN_cp, rtZ_0, rtZ_1, if_true, reduceIte, and_self, true_and, and_true, K2, F9, e2, nI_le', nI_addL]
        · simp (disch := omega) [f_Realm_fewestJokes_38, ↓ob_eq, ob_some, ldI, ldR, ldO, stI, stZ, stR, isO, wrA_n, rdA_n, wrA_l, rdA_l, gK_sI, gR_sI, gX_sI, gN_sI, gK_cp, gR_cp, gX_cp, gN_cp, rtZ_0, rtZ_1, if_true, reduceIte, and_self, true_and, and_true, K2, F9, e2, q, ch0 i hi, nI_le', nI_eq', nI_addL]
      · rw [f_Realm_fewestJokes_14]
        simp (disch := omega) [↓ob_eq, ob_some, ldI, ldR, ldO, stI, stZ, stR, isO, wrA_n, rdA_n, wrA_l, rdA_l, gK_sI, gR_sI, gX_sI, gN_sI, gK_cp, gR_cp, gX_cp, gN_cp, rtZ_0, rtZ_1, if_true, reduceIte, and_self, true_and, and_true, K2, F9, nI_le']
    have a3 : f_Realm_fewestJokes_48 FU (b + 2) (nI o) (xro hp o n) 1 h = fox (fun i (_ : Unit) => decide (jrem (nI (T o) - nI (i + 1)) (nI (S o) + 2) = xro hp o n)) (fun i _ => some (nI (i + 1), h)) (fun _ s => s) (fun _ => some (-1, h)) 0 (M o) () := by
      have m1 := M1 o
      have m2 := M2 o
      have t1 := (mT o ho).1
      have s1 := (mS o ho).1
      have o6 : o < 6 := by omega
      refine lpx0 (fun N (s : Unit) i => f_Realm_fewestJokes_48 N (b + 2) (nI o) (xro hp o n) (nI (i + 1)) h) _ _ _ (M o) _ () FU (by rw [FU_eq]; omega) (fun N i s hi w => ?_) (fun N i s hi w => ?_) (fun N s => ?_)
      · have w1 := of_decide_eq_true w
        rw [nI_addL] at w1
        have e3 : ¬ S o + 1 < i + 1 := by omega
        have e4 : ¬ T o < i + 1 := by omega
        rw [f_Realm_fewestJokes_48]
        simp (disch := omega) [↓ob_eq, ob_some, ldI, ldR, ldO, stI, stZ, stR, isO, wrA_n, rdA_n, wrA_l, rdA_l, gK_sI, gR_sI, gX_sI, gN_sI, gK_cp, gR_cp, gX_cp, gN_cp, rtZ_0, rtZ_1, if_true, reduceIte, and_self, true_and, and_true, K2, K10, K11, R2_12, R2_13, cT o ho, cS o ho, o6, e3, e4, ch o (i + 1) ho, w1, nI_lt', nI_addL]
      · have w1 := of_decide_eq_false w
        have e3 : ¬ S o + 1 < i + 1 := by omega
        have e4 : ¬ T o < i + 1 := by omega
        rw [f_Realm_fewestJokes_48]
        have w2 : ¬ jrem (nI (T o) - nI (i + 1)) (nI (S o + 2)) = xro hp o n := by rw [nI_addL] at w1; exact w1
        simp (disch := omega) [↓ob_eq, ob_some, ldI, ldR, ldO, stI, stZ, stR, isO, wrA_n, rdA_n, wrA_l, rdA_l, gK_sI, gR_sI, gX_sI, gN_sI, gK_cp, gR_cp, gX_cp, gN_cp, rtZ_0, rtZ_1, if_true, reduceIte, and_self, true_and, and_true, K2, K10, K11, R2_12, R2_13, cT o ho, cS o ho, o6, e3, e4, ch o (i + 1) ho, w2, nI_lt', nI_addL]
      · rw [f_Realm_fewestJokes_48]
        by_cases q : S o + 1 < M o + 1
        · simp (disch := omega) [↓ob_eq, ob_some, ldI, ldR, ldO, stI, stZ, stR, isO, wrA_n, rdA_n, wrA_l, rdA_l, gK_sI, gR_sI, gX_sI, gN_sI, gK_cp, gR_cp, gX_cp, gN_cp, rtZ_0, rtZ_1, if_true, reduceIte, and_self, true_and, and_true, K2, K10, K11, R2_12, R2_13, cT o ho, cS o ho, o6, q, nI_lt', nI_addL]
        · have q2 : T o < M o + 1 := by have := M3 o; omega
          simp (disch := omega) [↓ob_eq, ob_some, ldI, ldR, ldO, stI, stZ, stR, isO, wrA_n, rdA_n, wrA_l, rdA_l, gK_sI, gR_sI, gX_sI, gN_sI, gK_cp, gR_cp, gX_cp, gN_cp, rtZ_0, rtZ_1, if_true, reduceIte, and_self, true_and, and_true, K2, K10, K11, R2_12, R2_13, cT o ho, cS o ho, o6, q, q2, nI_lt', nI_addL]
    rw [a1, a2, a3, hJ, fj, xro_eq, if_pos ho]
    exact fox_via (fun (r : Option (Int32 × PH)) (x : Int32) => r = some (x, h)) (M o) 0 () (fun j s _ _ => rfl) (fun s => rfl)
  have Jn : ∀ o, o < n → J o = -1 ∨ ∃ k, k < 11 ∧ J o = nI (k + 1) := fun o ho => by
    rw [hJ, fj]
    have m1 := M1 o
    have t1 := (mT o ho).1
    exact fox_via (fun (r : Int32) (_ : Unit) => r = -1 ∨ ∃ k, k < 11 ∧ r = nI (k + 1)) (out' := fun _ _ => ()) (fin' := fun _ => ()) (M o) 0 () (fun j s _ hj => Or.inr ⟨j, by omega, rfl⟩) (fun s => Or.inl rfl)
  have cg : f_Realm_gameOfficer (b + 2) h = fox (fun i (_ : Unit) => decide (¬ J i = -1)) (fun i _ => some (nI i, h)) (fun _ s => s) (fun _ => some (-1, h)) 0 n () := by
    refine lpx0 (fun N (s : Unit) i => f_Realm_gameOfficer_2 N (b + 2) (nI i) h) _ _ _ n _ () FU (by rw [FU_eq]; omega) (fun N i s hi w => ?_) (fun N i s hi w => ?_) (fun N s => ?_)
    · have w1 := of_decide_eq_true w
      have e2 : ¬ n ≤ i := by omega
      rw [f_Realm_gameOfficer_2]
      simp (disch := omega) [↓ob_eq, ob_some, ldI, ldR, ldO, stI, stZ, stR, isO, wrA_n, rdA_n, wrA_l, rdA_l, gK_sI, gR_sI, gX_sI, gN_sI, gK_cp, gR_cp, gX_cp, gN_cp, rtZ_0, rtZ_1, if_true, reduceIte, and_self, true_and, and_true, K2, F9, e2, cj i hi, w1, nI_le', nI_addL]
    · have w1 : J i = -1 := Decidable.byContradiction (of_decide_eq_false w)
      have e2 : ¬ n ≤ i := by omega
      rw [f_Realm_gameOfficer_2]
      simp (disch := omega) [↓ob_eq, ob_some, ldI, ldR, ldO, stI, stZ, stR, isO, wrA_n, rdA_n, wrA_l, rdA_l, gK_sI, gR_sI, gX_sI, gN_sI, gK_cp, gR_cp, gX_cp, gN_cp, rtZ_0, rtZ_1, if_true, reduceIte, and_self, true_and, and_true, K2, F9, e2, cj i hi, w1, nI_le', nI_addL]
    · rw [f_Realm_gameOfficer_2]
      simp (disch := omega) [↓ob_eq, ob_some, ldI, ldR, ldO, stI, stZ, stR, isO, wrA_n, rdA_n, wrA_l, rdA_l, gK_sI, gR_sI, gX_sI, gN_sI, gK_cp, gR_cp, gX_cp, gN_cp, rtZ_0, rtZ_1, if_true, reduceIte, and_self, true_and, and_true, K2, F9, nI_le']
  -- the reference
  have m1 : f_Mo_game_21 FU (b + 131) v 0 0 g = f_Mo_game_45 FU (b + 131) v (xr hp n) 0 g := by
    refine lp0 (fun N (s : Int32) i => f_Mo_game_21 N (b + 131) v s (nI i) g) (fun i s => s ^^^ hp i) n (fun s => f_Mo_game_45 FU (b + 131) v s 0 g) 0 FU (by rw [FU_eq]; omega) (fun N i s hi => ?_) (fun N s => ?_)
    · have e2 : ¬ n ≤ i := by omega
      rw [f_Mo_game_21]
      simp (disch := omega) [↓ob_eq, ob_some, ldI, ldR, ldO, stI, stZ, stR, isO, wrA_n, rdA_n, wrA_l, rdA_l, gK_sI, gR_sI, gX_sI, gN_sI, gK_cp, gR_cp, gX_cp, gN_cp, rtZ_0, rtZ_1, if_true, reduceIte, and_self, true_and, and_true, K, G7, e2, gh i hi, nI_le', nI_addL]
    · rw [f_Mo_game_21]
      simp (disch := omega) [↓ob_eq, ob_some, ldI, ldR, ldO, stI, stZ, stR, isO, wrA_n, rdA_n, wrA_l, rdA_l, gK_sI, gR_sI, gX_sI, gN_sI, gK_cp, gR_cp, gX_cp, gN_cp, rtZ_0, rtZ_1, if_true, reduceIte, and_self, true_and, and_true, K, G7, nI_le']
  have m2 : ∀ (k45 : Nat → Int32 → Int32 → Int32 → PH → Option (Int32 × PH)) o, o < n → f_Mo_game_67 k45 FU (b + 131) v (xr hp n) (nI o) (nI (T o)) 1 g = if J o = -1 then k45 (b + 131) v (xr hp n) (nI (o + 1)) g else some (if v = 0 then nI o else J o, g) := fun k45 o ho => by
    have m1 := M1 o
    have m2 := M2 o
    have t1 := (mT o ho).1
    have s1 := (mS o ho).1
    have o6 : o < 6 := by omega
    have les : f_Mo_lesser (b + 131) (nI (T o)) (nI (S o + 1)) g = some (nI (M o), g) := by
      rw [hM]
      unfold f_Mo_lesser
      by_cases q : S o + 1 ≤ T o
      · rw [if_pos ((nI_leI (by omega) (by omega)).mpr q), show Nat.min (T o) (S o + 1) = S o + 1 from Nat.min_eq_right q]
      · rw [if_neg (fun z => q ((nI_leI (by omega) (by omega)).mp z)), show Nat.min (T o) (S o + 1) = T o from Nat.min_eq_left (by omega)]
    have e9 : ¬ nI (S o + 2) = 0 := by rw [nI_eqL (n := 0) (by omega) (by decide)]; simp
    have a3 : f_Mo_game_67 k45 FU (b + 131) v (xr hp n) (nI o) (nI (T o)) 1 g = fox (fun i (_ : Unit) => decide (jrem (nI (T o) - nI (i + 1)) (nI (S o) + 2) = xr hp n ^^^ hp o)) (fun i _ => some (if v = 0 then nI o else nI (i + 1), g)) (fun _ s => s) (fun _ => k45 (b + 131) v (xr hp n) (nI (o + 1)) g) 0 (M o) () := by
      refine lpx0 (fun N (s : Unit) i => f_Mo_game_67 k45 N (b + 131) v (xr hp n) (nI o) (nI (T o)) (nI (i + 1)) g) _ _ _ (M o) _ () FU (by rw [FU_eq]; omega) (fun N i s hi w => ?_) (fun N i s hi w => ?_) (fun N s => ?_)
      · have w1 := of_decide_eq_true w
        have w2 : xr hp n ^^^ hp o = jrem (nI (T o) - nI (i + 1)) (nI (S o + 2)) := by rw [← w1, nI_addL]
        have e4 : ¬ M o < i + 1 := by omega
        rw [f_Mo_game_67]
        by_cases q : v = 0
        · simp (disch := omega) [rmI, ↓ob_eq, ob_some, ldI, ldR, ldO, stI, stZ, stR, isO, wrA_n, rdA_n, wrA_l, rdA_l, gK_sI, gR_sI, gX_sI, gN_sI, gK_cp, gR_cp, gX_cp, gN_cp, rtZ_0, rtZ_1, if_true, reduceIte, and_self, true_and, and_true, K, R11, Kw, gS o ho, o6, les, e4, gh o ho, w2, e9, q, nI_lt', nI_addL]
        · simp (disch := omega) [rmI, ↓ob_eq, ob_some, ldI, ldR, ldO, stI, stZ, stR, isO, wrA_n, rdA_n, wrA_l, rdA_l, gK_sI, gR_sI, gX_sI, gN_sI, gK_cp, gR_cp, gX_cp, gN_cp, rtZ_0, rtZ_1, if_true, reduceIte, and_self, true_and, and_true, K, R11, Kw, gS o ho, o6, les, e4, gh o ho, w2, e9, q, nI_lt', nI_addL]
      · have w1 := of_decide_eq_false w
        have w2 : ¬ xr hp n ^^^ hp o = jrem (nI (T o) - nI (i + 1)) (nI (S o + 2)) := fun z => w1 (by rw [z, nI_addL])
        have e4 : ¬ M o < i + 1 := by omega
        rw [f_Mo_game_67]
        simp (disch := omega) [rmI, ↓ob_eq, ob_some, ldI, ldR, ldO, stI, stZ, stR, isO, wrA_n, rdA_n, wrA_l, rdA_l, gK_sI, gR_sI, gX_sI, gN_sI, gK_cp, gR_cp, gX_cp, gN_cp, rtZ_0, rtZ_1, if_true, reduceIte, and_self, true_and, and_true, K, R11, Kw, gS o ho, o6, les, e4, gh o ho, w2, e9, nI_lt', nI_addL]
      · rw [f_Mo_game_67]
        simp (disch := omega) [↓ob_eq, ob_some, ldI, ldR, ldO, stI, stZ, stR, isO, wrA_n, rdA_n, wrA_l, rdA_l, gK_sI, gR_sI, gX_sI, gN_sI, gK_cp, gR_cp, gX_cp, gN_cp, rtZ_0, rtZ_1, if_true, reduceIte, and_self, true_and, and_true, K, R11, Kw, gS o ho, o6, les, nI_lt', nI_addL]
    rw [a3, hJ, fj]
    refine fox_via (fun (r : Option (Int32 × PH)) (x : Int32) => r = if x = -1 then k45 (b + 131) v (xr hp n) (nI (o + 1)) g else some (if v = 0 then nI o else x, g)) (M o) 0 () (fun j s _ hj => ?_) (fun s => ?_)
    · rw [if_neg (nI_ne_m1 (by omega))]
    · rw [if_pos rfl]
  have m3 : f_Mo_game_45 FU (b + 131) v (xr hp n) 0 g = fox (fun i (_ : Unit) => decide (¬ J i = -1)) (fun i _ => some (if v = 0 then nI i else J i, g)) (fun _ s => s) (fun _ => some (-1, g)) 0 n () := by
    refine lpx0 (fun N (s : Unit) i => f_Mo_game_45 N (b + 131) v (xr hp n) (nI i) g) _ _ _ n _ () FU (by rw [FU_eq]; omega) (fun N i s hi w => ?_) (fun N i s hi w => ?_) (fun N s => ?_)
    · have w1 := of_decide_eq_true w
      have e2 : ¬ n ≤ i := by omega
      have e3 : 73 + i < 79 := by omega
      rw [f_Mo_game_45]
      simp (disch := omega) [↓ob_eq, ob_some, ldI, ldR, ldO, stI, stZ, stR, isO, wrA_n, rdA_n, wrA_l, rdA_l, gK_sI, gR_sI, gX_sI, gN_sI, gK_cp, gR_cp, gX_cp, gN_cp, rtZ_0, rtZ_1, if_true, reduceIte, and_self, true_and, and_true, K, R1, Kc, G7, e2, e3, gT i hi, m2 _ i hi, w1, nI_le', L_addn]
    · have w1 : J i = -1 := Decidable.byContradiction (of_decide_eq_false w)
      have e2 : ¬ n ≤ i := by omega
      have e3 : 73 + i < 79 := by omega
      rw [f_Mo_game_45]
      simp (disch := omega) [↓ob_eq, ob_some, ldI, ldR, ldO, stI, stZ, stR, isO, wrA_n, rdA_n, wrA_l, rdA_l, gK_sI, gR_sI, gX_sI, gN_sI, gK_cp, gR_cp, gX_cp, gN_cp, rtZ_0, rtZ_1, if_true, reduceIte, and_self, true_and, and_true, K, R1, Kc, G7, e2, e3, gT i hi, m2 _ i hi, w1, nI_le', L_addn]
    · rw [f_Mo_game_45]
      simp (disch := omega) [↓ob_eq, ob_some, ldI, ldR, ldO, stI, stZ, stR, isO, wrA_n, rdA_n, wrA_l, rdA_l, gK_sI, gR_sI, gX_sI, gN_sI, gK_cp, gR_cp, gX_cp, gN_cp, rtZ_0, rtZ_1, if_true, reduceIte, and_self, true_and, and_true, K, G7, nI_le']
  rcases in_cases v 1 1 rfl (by omega) with ⟨k, l1, rfl, w1, i1⟩ | ⟨w1, i1⟩
  · -- either none, or one
    have alt : (∀ (ρ : Type) (out : Nat → Unit → ρ) (fin : Unit → ρ), fox (fun i (_ : Unit) => decide (¬ J i = -1)) out (fun _ s => s) fin 0 n () = fin ()) ∨ ∃ o, o < n ∧ ¬ J o = -1 ∧ ∀ (ρ : Type) (out : Nat → Unit → ρ) (fin : Unit → ρ), fox (fun i (_ : Unit) => decide (¬ J i = -1)) out (fun _ s => s) fin 0 n () = out o () := by
      by_cases ho : ∃ o, o < n ∧ ¬ J o = -1
      · obtain ⟨o, h1, h2, h3⟩ := fb_first ho
        refine Or.inr ⟨o, h1, h2, fun ρ out fin => ?_⟩
        have := fox_at (ex := fun i (_ : Unit) => decide (¬ J i = -1)) (out := out) (st := fun _ s => s) (fin := fin) n 0 () o h1 (fun j hj => decide_eq_false (by rw [Nat.zero_add]; exact h3 j hj)) (decide_eq_true (by rw [Nat.zero_add]; exact h2))
        rw [this, Nat.zero_add]
      · refine Or.inl fun ρ out fin => ?_
        exact fox_no n 0 () (fun j hj => decide_eq_false (fun z => ho ⟨j, hj, by rw [Nat.zero_add] at z; exact z⟩))
    rcases alt with alt | ⟨o, ho, hJo, alt⟩
    · rw [alt] at cg m3
      have m4 := m1.trans m3
      have cgg : f_Realm_gameOfficer (b + 2) h = some (-1, h) := cg
      have mgg : f_Mo_game_21 FU (b + 131) (nI k) 0 0 g = some (-1, g) := m4
      refine both_ref I0 (r := -1) ?_ (by rw [← hg]; simp [f_Mo_game, i1, ↓ob_eq, ob_some, ldI, ldR, ldO, stI, stZ, stR, isO, wrA_n, rdA_n, wrA_l, rdA_l, gK_sI, gR_sI, gX_sI, gN_sI, gK_cp, gR_cp, gX_cp, gN_cp, rtZ_0, rtZ_1, if_true, reduceIte, and_self, true_and, and_true, K131, K, ← hg, mgg])
      by_cases h0 : nI k = 0
      · have h0' : (nI k = 0) = True := eq_true h0
        simp [f_Tc_game, f_Tc_game_30, w1, h0', ↓ob_eq, ob_some, ldI, ldR, ldO, stI, stZ, stR, isO, wrA_n, rdA_n, wrA_l, rdA_l, gK_sI, gR_sI, gX_sI, gN_sI, gK_cp, gR_cp, gX_cp, gN_cp, rtZ_0, rtZ_1, if_true, reduceIte, and_self, true_and, and_true, K0, K1, K2, R0_0, R1_0, cgg]
      · simp [f_Tc_game, f_Tc_game_30, w1, h0, ↓ob_eq, ob_some, ldI, ldR, ldO, stI, stZ, stR, isO, wrA_n, rdA_n, wrA_l, rdA_l, gK_sI, gR_sI, gX_sI, gN_sI, gK_cp, gR_cp, gX_cp, gN_cp, rtZ_0, rtZ_1, if_true, reduceIte, and_self, true_and, and_true, K0, K1, K2, R0_0, R1_0, cgg]
    · rw [alt] at cg m3
      have m4 := m1.trans m3
      have no1 : ¬ nI o = -1 := nI_ne_m1 (by omega)
      by_cases h0 : nI k = 0
      · have h0' : (nI k = 0) = True := eq_true h0
        rw [if_pos h0] at m4
        exact both_ref I0 (r := nI o) (by simp [f_Tc_game, f_Tc_game_30, w1, h0', ↓ob_eq, ob_some, ldI, ldR, ldO, stI, stZ, stR, isO, wrA_n, rdA_n, wrA_l, rdA_l, gK_sI, gR_sI, gX_sI, gN_sI, gK_cp, gR_cp, gX_cp, gN_cp, rtZ_0, rtZ_1, if_true, reduceIte, and_self, true_and, and_true, K0, K1, K2, R0_0, R1_0, cg]) (by rw [← hg]; simp [f_Mo_game, i1, ↓ob_eq, ob_some, ldI, ldR, ldO, stI, stZ, stR, isO, wrA_n, rdA_n, wrA_l, rdA_l, gK_sI, gR_sI, gX_sI, gN_sI, gK_cp, gR_cp, gX_cp, gN_cp, rtZ_0, rtZ_1, if_true, reduceIte, and_self, true_and, and_true, K131, K, ← hg, m4])
      · rw [if_neg h0] at m4
        exact both_ref I0 (r := J o) (by simp [f_Tc_game, f_Tc_game_30, w1, h0, no1, ↓ob_eq, ob_some, ldI, ldR, ldO, stI, stZ, stR, isO, wrA_n, rdA_n, wrA_l, rdA_l, gK_sI, gR_sI, gX_sI, gN_sI, gK_cp, gR_cp, gX_cp, gN_cp, rtZ_0, rtZ_1, if_true, reduceIte, and_self, true_and, and_true, K0, K1, K2, R0_0, R1_0, cg, cj o ho]) (by rw [← hg]; simp [f_Mo_game, i1, ↓ob_eq, ob_some, ldI, ldR, ldO, stI, stZ, stR, isO, wrA_n, rdA_n, wrA_l, rdA_l, gK_sI, gR_sI, gX_sI, gN_sI, gK_cp, gR_cp, gX_cp, gN_cp, rtZ_0, rtZ_1, if_true, reduceIte, and_self, true_and, and_true, K131, K, ← hg, m4])
  · exact both_ref I0 (r := -1) (by simp [f_Tc_game, w1, ↓ob_eq, ob_some, ldI, ldR, ldO, stI, stZ, stR, isO, wrA_n, rdA_n, wrA_l, rdA_l, gK_sI, gR_sI, gX_sI, gN_sI, gK_cp, gR_cp, gX_cp, gN_cp, rtZ_0, rtZ_1, if_true, reduceIte, and_self, true_and, and_true]) (by simp [f_Mo_game, i1, ↓ob_eq, ob_some, ldI, ldR, ldO, stI, stZ, stR, isO, wrA_n, rdA_n, wrA_l, rdA_l, gK_sI, gR_sI, gX_sI, gN_sI, gK_cp, gR_cp, gX_cp, gN_cp, rtZ_0, rtZ_1, if_true, reduceIte, and_self, true_and, and_true, K131])
