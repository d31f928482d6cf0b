/-! ===== loops ===== -/
/-- d steps from i on -/
def fo {σ : Type} (st : Nat → σ → σ) : Nat → Nat → σ → σ
  | _, 0, s => s
  | i, d + 1, s => fo st (i + 1) d (st i s)
/-- the same with a way out -/
def fox {σ ρ : Type} (ex : Nat → σ → Bool) (out : Nat → σ → ρ) (st : Nat → σ → σ) (fin : σ → ρ) : Nat → Nat → σ → ρ
  | _, 0, s => fin s
  | i, d + 1, s => if ex i s then out i s else fox ex out st fin (i + 1) d (st i s)
theorem lp {σ ρ : Type} (F : Nat → σ → Nat → ρ) (st : Nat → σ → σ) (Q : Nat → σ → Prop) (n : Nat) (R : σ → ρ)
    (hs : ∀ N i s, i < n → Q i s → F (N + 1) s i = F N (st i s) (i + 1)) (hq : ∀ i s, i < n → Q i s → Q (i + 1) (st i s)) (he : ∀ N s, Q n s → F (N + 1) s n = R s) :
    ∀ d i s M, i + d = n → Q i s → d < M → F M s i = R (fo st i d s) ∧ Q n (fo st i d s)
  | 0, i, s, M, hi, q, hM => by
    obtain ⟨N, rfl⟩ : ∃ N, M = N + 1 := ⟨M - 1, by omega⟩
    obtain rfl : i = n := by omega
    exact ⟨he N s q, q⟩
  | d + 1, i, s, M, hi, q, hM => by
    obtain ⟨N, rfl⟩ : ∃ N, M = N + 1 := ⟨M - 1, by omega⟩
    rw [hs N i s (by omega) q]
    exact lp F st Q n R hs hq he d (i + 1) (st i s) N (by omega) (hq i s (by omega) q) (by omega)
/-- a loop over numbers below n, from 0 on, with enough fuel; nothing need hold -/
theorem lp0 {σ ρ : Type} (F : Nat → σ → Nat → ρ) (st : Nat → σ → σ) (n : Nat) (R : σ → ρ) (s : σ) (M : Nat) (hM : n < M)
    (hs : ∀ N i s, i < n → F (N + 1) s i = F N (st i s) (i + 1)) (he : ∀ N s, F (N + 1) s n = R s) : F M s 0 = R (fo st 0 n s) :=
  (lp F st (fun _ _ => True) n R (fun N i s hi _ => hs N i s hi) (fun _ _ _ _ => trivial) (fun N s _ => he N s) n 0 s M (by omega) trivial hM).1
theorem lpx {σ ρ : Type} (F : Nat → σ → Nat → ρ) (ex : Nat → σ → Bool) (out : Nat → σ → ρ) (st : Nat → σ → σ) (Q : Nat → σ → Prop) (n : Nat) (R : σ → ρ)
    (hx : ∀ N i s, i < n → Q i s → ex i s = true → F (N + 1) s i = out i s) (hs : ∀ N i s, i < n → Q i s → ex i s = false → F (N + 1) s i = F N (st i s) (i + 1)) (hq : ∀ i s, i < n → Q i s → ex i s = false → Q (i + 1) (st i s)) (he : ∀ N s, Q n s → F (N + 1) s n = R s) :
    ∀ d i s M, i + d = n → Q i s → d < M → F M s i = fox ex out st R i d s
  | 0, i, s, M, hi, q, hM => by
    obtain ⟨N, rfl⟩ : ∃ N, M = N + 1 := ⟨M - 1, by omega⟩
    obtain rfl : i = n := by omega
    exact he N s q
  | d + 1, i, s, M, hi, q, hM => by
    obtain ⟨N, rfl⟩ : ∃ N, M = N + 1 := ⟨M - 1, by omega⟩
    rw [fox]
    by_cases h : ex i s = true
    · rw [if_pos h]; exact hx N i s (by omega) q h
    · have h2 : ex i s = false := by simpa using h
      rw [if_neg h, hs N i s (by omega) q h2]
      exact lpx F ex out st Q n R hx hs hq he d (i + 1) (st i s) N (by omega) (hq i s (by omega) q h2) (by omega)
theorem lpx0 {σ ρ : Type} (F : Nat → σ → Nat → ρ) (ex : Nat → σ → Bool) (out : Nat → σ → ρ) (st : Nat → σ → σ) (n : Nat) (R : σ → ρ) (s : σ) (M : Nat) (hM : n < M)
    (hx : ∀ N i s, i < n → ex i s = true → F (N + 1) s i = out i s) (hs : ∀ N i s, i < n → ex i s = false → F (N + 1) s i = F N (st i s) (i + 1)) (he : ∀ N s, F (N + 1) s n = R s) : F M s 0 = fox ex out st R 0 n s :=
  lpx F ex out st (fun _ _ => True) n R (fun N i s hi _ => hx N i s hi) (fun N i s hi _ => hs N i s hi) (fun _ _ _ _ _ => trivial) (fun N s _ => he N s) n 0 s M (by omega) trivial hM
/-- two loops side by side -/
theorem fo_rel {σ τ : Type} {st : Nat → σ → σ} {st' : Nat → τ → τ} (P : Nat → σ → τ → Prop) (n : Nat) (hs : ∀ i s s', i < n → P i s s' → P (i + 1) (st i s) (st' i s')) : ∀ d i s s', i + d = n → P i s s' → P n (fo st i d s) (fo st' i d s')
  | 0, i, s, s', hi, p => by
    obtain rfl : i = n := by omega
    exact p
  | d + 1, i, s, s', hi, p => fo_rel P n hs d (i + 1) (st i s) (st' i s') (by omega) (hs i s s' (by omega) p)
theorem fo_cg {σ : Type} {st st' : Nat → σ → σ} (n : Nat) (hs : ∀ i s, i < n → st i s = st' i s) (s : σ) : fo st 0 n s = fo st' 0 n s :=
  fo_rel (fun _ a c => a = c) n (fun i s s' hi e => by subst e; exact hs i s hi) n 0 s s (by omega) rfl
theorem fo_inv {σ : Type} {st : Nat → σ → σ} (P : Nat → σ → Prop) (n : Nat) (hs : ∀ i s, i < n → P i s → P (i + 1) (st i s)) (d i : Nat) (s : σ) (hi : i + d = n) (p : P i s) : P n (fo st i d s) :=
  fo_rel (st' := st) (fun i s _ => P i s) n (fun i s _ h q => hs i s h q) d i s s hi p
theorem fo_succ {σ : Type} (st : Nat → σ → σ) : ∀ d i s, fo st i (d + 1) s = st (i + d) (fo st i d s)
  | 0, i, s => rfl
  | d + 1, i, s => by
    rw [fo, fo_succ st d (i + 1) (st i s), fo, show i + 1 + d = i + (d + 1) by omega]
/-- a way out that is taken at k -/
theorem fox_at {σ ρ : Type} {ex : Nat → σ → Bool} {out : Nat → σ → ρ} {st : Nat → σ → σ} {fin : σ → ρ} : ∀ d i s e, e < d → (∀ j, j < e → ex (i + j) (fo st i j s) = false) → ex (i + e) (fo st i e s) = true → fox ex out st fin i d s = out (i + e) (fo st i e s)
  | 0, i, s, e, he, _, _ => absurd he (by omega)
  | d + 1, i, s, 0, he, _, h2 => by
    have h3 : ex i s = true := h2
    rw [fox, if_pos h3]; rfl
  | d + 1, i, s, e + 1, he, h1, h2 => by
    have h0 : ex i s = false := h1 0 (by omega)
    rw [fox, h0, if_neg (by decide)]
    have e1 : i + 1 + e = i + (e + 1) := by omega
    rw [fox_at d (i + 1) (st i s) e (by omega) (fun j hj => by have := h1 (j + 1) (by omega); rw [show i + 1 + j = i + (j + 1) by omega]; exact this) (by rw [e1]; exact h2), e1]
    rfl
theorem fox_no {σ ρ : Type} {ex : Nat → σ → Bool} {out : Nat → σ → ρ} {st : Nat → σ → σ} {fin : σ → ρ} : ∀ d i s, (∀ j, j < d → ex (i + j) (fo st i j s) = false) → fox ex out st fin i d s = fin (fo st i d s)
  | 0, i, s, _ => rfl
  | d + 1, i, s, h1 => by
    have h0 : ex i s = false := h1 0 (by omega)
    rw [fox, h0, if_neg (by decide)]
    exact fox_no d (i + 1) (st i s) (fun j hj => by have := h1 (j + 1) (by omega); rw [show i + 1 + j = i + (j + 1) by omega]; exact this)
theorem nI_le' {m n : Nat} (hm : m < 2147483648) (hn : n < 2147483648) : nI m ≤ nI n ↔ m ≤ n := nI_leI hm hn
theorem nI_lt' {m n : Nat} (hm : m < 2147483648) (hn : n < 2147483648) : nI m < nI n ↔ m < n := nI_ltI hm hn
theorem nI_eq' {m n : Nat} (hm : m < 2147483648) (hn : n < 2147483648) : nI m = nI n ↔ m = n := nI_eq (by omega) (by omega)
/-- the set of those that are out -/
theorem mo_outSet {h : PH} {a c n : Nat} (K : gK h a = (0, 9)) (R : gR h a 1 = some c) (Kc : gK h c = (1, 79)) (Ng : gI h a 6 = nI n) (hn : n ≤ 12) : f_Mo_outSet a h = some (nI (bs n (fun t => gI h c (43 + t) == 1)), h) := by
  have key := lp (fun N (s : Int32) i => f_Mo_outSet_4 N a s (nI i) h) (fun i s => if gI h c (43 + i) = 1 then s ||| jshl 1 (nI i) else s) (fun i s => s = nI (bs i (fun t => gI h c (43 + t) == 1))) n (fun s => some (s, h))
    (fun N i s hi _ => by
      have e1 : 43 + i < 79 := by omega
      have e2 : ¬ n ≤ i := by omega
      rw [f_Mo_outSet_4]
      by_cases q : gI h c (43 + i) = 1
      · simp (disch := omega) [↓ob_eq, ob_some, ldI, ldR, ldO, stI, stZ, stR, isO, wrA_n, rdA_n, wrA_l, rdA_l, gK_sI, gR_sI, gX_sI, gN_sI, gK_cp, gR_cp, gX_cp, gN_cp, rtZ_0, rtZ_1, if_true, reduceIte, and_self, true_and, and_true, K, R, Kc, Ng, e1, e2, q, nI_le', nI_addL, L_addn]
      · simp (disch := omega) [↓ob_eq, ob_some, ldI, ldR, ldO, stI, stZ, stR, isO, wrA_n, rdA_n, wrA_l, rdA_l, gK_sI, gR_sI, gX_sI, gN_sI, gK_cp, gR_cp, gX_cp, gN_cp, rtZ_0, rtZ_1, if_true, reduceIte, and_self, true_and, and_true, K, R, Kc, Ng, e1, e2, q, nI_le', nI_addL, L_addn])
    (fun i s hi q => by
      subst q
      by_cases q : gI h c (43 + i) = 1
      · rw [if_pos q, jshl1 i (by omega), fa_or, bs_or (fun t => gI h c (43 + t) == 1) i (by simp [q])]
      · rw [if_neg q, bs_no (fun t => gI h c (43 + t) == 1) i (by simp [q])])
    (fun N s q => by
      rw [f_Mo_outSet_4]
      simp (disch := omega) [↓ob_eq, ob_some, ldI, ldR, ldO, stI, stZ, stR, isO, wrA_n, rdA_n, wrA_l, rdA_l, gK_sI, gR_sI, gX_sI, gN_sI, gK_cp, gR_cp, gX_cp, gN_cp, rtZ_0, rtZ_1, if_true, reduceIte, and_self, true_and, and_true, K, Ng, nI_le'])
    n 0 0 FU (by omega) rfl (by rw [FU_eq]; omega)
  have k2 := key.2
  have k1 := key.1
  rw [k2] at k1
  exact k1
theorem op_look (b : Nat) : B_look (Inv b) b (b + 131) := by
  intro h I v
  have I0 := I
  obtain ⟨s, cd, c_stat, c_realm, c_book, c_law, c_kin, c_shi, c_roa, c_ord, c_han, c_wei, c_bag, c_pri, c_cnt, c_led, c_yea, c_log, c_rdr, c_msc, c_img⟩ := I
  have K0 : gK h b = (0, 8) := s.K 0 (by decide) rfl
  have K1 : gK h (b + 1) = (0, 1) := s.K 1 (by decide) rfl
  have K2 : gK h (b + 2) = (0, 5) := s.K 2 (by decide) rfl
  have K13 : gK h (b + 13) = (0, 2) := s.K 13 (by decide) rfl
  have K14 : gK h (b + 14) = (0, 6) := s.K 14 (by decide) rfl
  have K19 : gK h (b + 19) = (0, 6) := s.K 19 (by decide) rfl
  have K21 : gK h (b + 21) = (0, 6) := s.K 21 (by decide) rfl
  have K23 : gK h (b + 23) = (0, 6) := s.K 23 (by decide) rfl
  have K40 : gK h (b + 40) = (0, 3) := s.K 40 (by decide) rfl
  have K131 : gK h (b + 131) = (0, 9) := s.K 131 (by decide) rfl
  have K132 : gK h (b + 132) = (1, 79) := s.K 132 (by decide) rfl
  have K142 : gK h (b + 142) = (1, 2) := s.K 142 (by decide) rfl
  have R0_0 : gR h b 0 = some (b + 1) := s.R 0 0 rfl
  have R0_1 : gR h b 1 = some (b + 40) := s.R 0 1 rfl
  have R1_0 : gR h (b + 1) 0 = some (b + 2) := s.R 1 0 rfl
  have R1_2 : gR h (b + 1) 2 = some (b + 13) := s.R 1 2 rfl
  have R1_3 : gR h (b + 1) 3 = some (b + 19) := s.R 1 3 rfl
  have R1_4 : gR h (b + 1) 4 = some (b + 21) := s.R 1 4 rfl
  have R1_5 : gR h (b + 1) 5 = some (b + 23) := s.R 1 5 rfl
  have R13_0 : gR h (b + 13) 0 = some (b + 14) := s.R 13 0 rfl
  have R131_1 : gR h (b + 131) 1 = some (b + 132) := s.R 131 1 rfl
  have R131_20 : gR h (b + 131) 20 = some (b + 142) := s.R 131 20 rfl
  have cr := c_realm
  obtain ⟨⟨hnt, hno⟩, ro, F1, F9, F0, F15, F16, F17, F18, F19, F14, F7, F8, RT, RO⟩ := cr
  have RT : ∀ t, t < ntOf h b → gI h (b + 3) t = gI h (b + 135) t ∧ gI h (b + 4) t = gI h (b + 136) t ∧ gI h (b + 5) t = gI h (b + 132) (7 + t) ∧ gI h (b + 6) t = gI h (b + 132) (19 + t) ∧ gI h (b + 7) t = gI h (b + 132) (31 + t) - 1 := RT
  have RO : ∀ o, o < noOf h b → gI h (b + 8) o = gI h (b + 132) (67 + o) ∧ gI h (b + 9) o = gI h (b + 137) o ∧ gI h (b + 10) o = gI h (b + 138) o ∧ gI h (b + 11) o = gI h (b + 132) (73 + o) := RO
  have hN6 : gI h (b + 131) 6 = nI (ntOf h b) := c_stat.1
  have hN7 : gI h (b + 131) 7 = nI (noOf h b) := c_stat.2.1
  have e6 : gI (sI h (b + 131) 0 0) (b + 131) 6 = nI (ntOf h b) := by simp (disch := omega) only [gI_q, gI_n1, gI_n2]; exact hN6
  have eo : f_Mo_outSet (b + 131) (sI h (b + 131) 0 0) = some (nI (bs (ntOf h b) (fun t => gI h (b + 132) (43 + t) == 1)), sI h (b + 131) 0 0) := by
    have := mo_outSet (h := sI h (b + 131) 0 0) (a := b + 131) (c := b + 132) K131 R131_1 K132 e6 hnt
    rw [this]
    simp (disch := omega) only [gI_q, gI_n1, gI_n2]
  obtain ⟨n1, _, ⟨_, k1⟩, k2, _⟩ := c_kin
  obtain ⟨n2, _, ⟨_, s1⟩, s2, _⟩ := c_shi
  obtain ⟨n3, _, ⟨_, r1⟩, r2, _⟩ := c_roa
  obtain ⟨_, n4, nx, _, _, g1, g2, _⟩ := c_log
  have hlaw : gI h (b + 14) 2 = gI h (b + 142) 0 := by
    obtain ⟨n, u, _, _, q3, _, q5, _⟩ := c_law
    exact q3.2.trans q5.symm
  by_cases h0 : v = 0
  · exact both_ref I0 (r := nI (ntOf h b)) (by simp [f_Tc_look, h0, ↓ob_eq, ob_some, ldI, ldR, ldO, stI, stZ, stR, isO, wrA_n, rdA_n, wrA_l, rdA_l, gK_sI, gR_sI, gX_sI, gN_sI, gK_cp, gR_cp, gX_cp, gN_cp, rtZ_0, rtZ_1, if_true, reduceIte, and_self, true_and, and_true, K0, K1, K2, R0_0, R1_0, F1]) (by simp (disch := omega) [f_Mo_look, h0, ↓ob_eq, ob_some, ldI, ldR, ldO, stI, stZ, stR, isO, wrA_n, rdA_n, wrA_l, rdA_l, gK_sI, gR_sI, gX_sI, gN_sI, gK_cp, gR_cp, gX_cp, gN_cp, rtZ_0, rtZ_1, if_true, reduceIte, and_self, true_and, and_true, K131, gI_q, gI_n1, gI_n2, hN6])
  by_cases h1 : v = 1
  · exact both_ref I0 (r := nI (noOf h b)) (by simp [f_Tc_look, h1, ↓ob_eq, ob_some, ldI, ldR, ldO, stI, stZ, stR, isO, wrA_n, rdA_n, wrA_l, rdA_l, gK_sI, gR_sI, gX_sI, gN_sI, gK_cp, gR_cp, gX_cp, gN_cp, rtZ_0, rtZ_1, if_true, reduceIte, and_self, true_and, and_true, K0, K1, K2, R0_0, R1_0, F9]) (by simp (disch := omega) [f_Mo_look, h1, ↓ob_eq, ob_some, ldI, ldR, ldO, stI, stZ, stR, isO, wrA_n, rdA_n, wrA_l, rdA_l, gK_sI, gR_sI, gX_sI, gN_sI, gK_cp, gR_cp, gX_cp, gN_cp, rtZ_0, rtZ_1, if_true, reduceIte, and_self, true_and, and_true, K131, gI_q, gI_n1, gI_n2, hN7])
  by_cases h2 : v = 2
  · exact both_ref I0 (r := gI h (b + 2) 18) (by simp [f_Tc_look, h2, ↓ob_eq, ob_some, ldI, ldR, ldO, stI, stZ, stR, isO, wrA_n, rdA_n, wrA_l, rdA_l, gK_sI, gR_sI, gX_sI, gN_sI, gK_cp, gR_cp, gX_cp, gN_cp, rtZ_0, rtZ_1, if_true, reduceIte, and_self, true_and, and_true, K0, K1, K2, R0_0, R1_0]) (by simp (disch := omega) [f_Mo_look, h2, ↓ob_eq, ob_some, ldI, ldR, ldO, stI, stZ, stR, isO, wrA_n, rdA_n, wrA_l, rdA_l, gK_sI, gR_sI, gX_sI, gN_sI, gK_cp, gR_cp, gX_cp, gN_cp, rtZ_0, rtZ_1, if_true, reduceIte, and_self, true_and, and_true, K131, K132, R131_1, gI_q, gI_n1, gI_n2, F18])
  by_cases h3 : v = 3
  · exact both_ref I0 (r := gI h (b + 2) 15) (by simp [f_Tc_look, h3, ↓ob_eq, ob_some, ldI, ldR, ldO, stI, stZ, stR, isO, wrA_n, rdA_n, wrA_l, rdA_l, gK_sI, gR_sI, gX_sI, gN_sI, gK_cp, gR_cp, gX_cp, gN_cp, rtZ_0, rtZ_1, if_true, reduceIte, and_self, true_and, and_true, K0, K1, K2, R0_0, R1_0]) (by simp (disch := omega) [f_Mo_look, h3, ↓ob_eq, ob_some, ldI, ldR, ldO, stI, stZ, stR, isO, wrA_n, rdA_n, wrA_l, rdA_l, gK_sI, gR_sI, gX_sI, gN_sI, gK_cp, gR_cp, gX_cp, gN_cp, rtZ_0, rtZ_1, if_true, reduceIte, and_self, true_and, and_true, K131, K132, R131_1, gI_q, gI_n1, gI_n2, F15])
  by_cases h4 : v = 4
  · exact both_ref I0 (r := gI h (b + 2) 16) (by simp [f_Tc_look, h4, ↓ob_eq, ob_some, ldI, ldR, ldO, stI, stZ, stR, isO, wrA_n, rdA_n, wrA_l, rdA_l, gK_sI, gR_sI, gX_sI, gN_sI, gK_cp, gR_cp, gX_cp, gN_cp, rtZ_0, rtZ_1, if_true, reduceIte, and_self, true_and, and_true, K0, K1, K2, R0_0, R1_0]) (by simp (disch := omega) [f_Mo_look, h4, ↓ob_eq, ob_some, ldI, ldR, ldO, stI, stZ, stR, isO, wrA_n, rdA_n, wrA_l, rdA_l, gK_sI, gR_sI, gX_sI, gN_sI, gK_cp, gR_cp, gX_cp, gN_cp, rtZ_0, rtZ_1, if_true, reduceIte, and_self, true_and, and_true, K131, K132, R131_1, gI_q, gI_n1, gI_n2, F16])
  by_cases h5 : v = 5
  · exact both_ref I0 (r := gI h (b + 2) 17) (by simp [f_Tc_look, h5, ↓ob_eq, ob_some, ldI, ldR, ldO, stI, stZ, stR, isO, wrA_n, rdA_n, wrA_l, rdA_l, gK_sI, gR_sI, gX_sI, gN_sI, gK_cp, gR_cp, gX_cp, gN_cp, rtZ_0, rtZ_1, if_true, reduceIte, and_self, true_and, and_true, K0, K1, K2, R0_0, R1_0]) (by simp (disch := omega) [f_Mo_look, h5, ↓ob_eq, ob_some, ldI, ldR, ldO, stI, stZ, stR, isO, wrA_n, rdA_n, wrA_l, rdA_l, gK_sI, gR_sI, gX_sI, gN_sI, gK_cp, gR_cp, gX_cp, gN_cp, rtZ_0, rtZ_1, if_true, reduceIte, and_self, true_and, and_true, K131, K132, R131_1, gI_q, gI_n1, gI_n2, F17])
  by_cases h6 : v = 6
  · exact both_ref I0 (r := gI h (b + 2) 14) (by simp [f_Tc_look, h6, ↓ob_eq, ob_some, ldI, ldR, ldO, stI, stZ, stR, isO, wrA_n, rdA_n, wrA_l, rdA_l, gK_sI, gR_sI, gX_sI, gN_sI, gK_cp, gR_cp, gX_cp, gN_cp, rtZ_0, rtZ_1, if_true, reduceIte, and_self, true_and, and_true, K0, K1, K2, R0_0, R1_0]) (by simp (disch := omega) [f_Mo_look, h6, ↓ob_eq, ob_some, ldI, ldR, ldO, stI, stZ, stR, isO, wrA_n, rdA_n, wrA_l, rdA_l, gK_sI, gR_sI, gX_sI, gN_sI, gK_cp, gR_cp, gX_cp, gN_cp, rtZ_0, rtZ_1, if_true, reduceIte, and_self, true_and, and_true, K131, K132, R131_1, gI_q, gI_n1, gI_n2, F14])
  by_cases h7 : v = 7
  · exact both_ref I0 (r := gI h (b + 2) 7) (by simp [f_Tc_look, h7, ↓ob_eq, ob_some, ldI, ldR, ldO, stI, stZ, stR, isO, wrA_n, rdA_n, wrA_l, rdA_l, gK_sI, gR_sI, gX_sI, gN_sI, gK_cp, gR_cp, gX_cp, gN_cp, rtZ_0, rtZ_1, if_true, reduceIte, and_self, true_and, and_true, K0, K1, K2, R0_0, R1_0]) (by simp (disch := omega) [f_Mo_look, h7, ↓ob_eq, ob_some, ldI, ldR, ldO, stI, stZ, stR, isO, wrA_n, rdA_n, wrA_l, rdA_l, gK_sI, gR_sI, gX_sI, gN_sI, gK_cp, gR_cp, gX_cp, gN_cp, rtZ_0, rtZ_1, if_true, reduceIte, and_self, true_and, and_true, K131, eo, F7])
  by_cases h8 : v = 8
  · exact both_ref I0 (r := gI h (b + 2) 19) (by simp [f_Tc_look, h8, ↓ob_eq, ob_some, ldI, ldR, ldO, stI, stZ, stR, isO, wrA_n, rdA_n, wrA_l, rdA_l, gK_sI, gR_sI, gX_sI, gN_sI, gK_cp, gR_cp, gX_cp, gN_cp, rtZ_0, rtZ_1, if_true, reduceIte, and_self, true_and, and_true, K0, K1, K2, R0_0, R1_0]) (by simp (disch := omega) [f_Mo_look, h8, ↓ob_eq, ob_some, ldI, ldR, ldO, stI, stZ, stR, isO, wrA_n, rdA_n, wrA_l, rdA_l, gK_sI, gR_sI, gX_sI, gN_sI, gK_cp, gR_cp, gX_cp, gN_cp, rtZ_0, rtZ_1, if_true, reduceIte, and_self, true_and, and_true, K131, K132, R131_1, gI_q, gI_n1, gI_n2, F19])
  by_cases h9 : v = 9
  · exact both_ref I0 (r := gI h (b + 2) 0) (by simp [f_Tc_look, h9, ↓ob_eq, ob_some, ldI, ldR, ldO, stI, stZ, stR, isO, wrA_n, rdA_n, wrA_l, rdA_l, gK_sI, gR_sI, gX_sI, gN_sI, gK_cp, gR_cp, gX_cp, gN_cp, rtZ_0, rtZ_1, if_true, reduceIte, and_self, true_and, and_true, K0, K1, K2, R0_0, R1_0]) (by simp (disch := omega) [f_Mo_look, h9, ↓ob_eq, ob_some, ldI, ldR, ldO, stI, stZ, stR, isO, wrA_n, rdA_n, wrA_l, rdA_l, gK_sI, gR_sI, gX_sI, gN_sI, gK_cp, gR_cp, gX_cp, gN_cp, rtZ_0, rtZ_1, if_true, reduceIte, and_self, true_and, and_true, K131, K132, R131_1, gI_q, gI_n1, gI_n2, F0])
  by_cases h10 : v = 10
  · exact both_ref I0 (r := gI h (b + 14) 2) (by simp [f_Tc_look, h10, ↓ob_eq, ob_some, ldI, ldR, ldO, stI, stZ, stR, isO, wrA_n, rdA_n, wrA_l, rdA_l, gK_sI, gR_sI, gX_sI, gN_sI, gK_cp, gR_cp, gX_cp, gN_cp, rtZ_0, rtZ_1, if_true, reduceIte, and_self, true_and, and_true, K0, K1, K2, K13, K14, R0_0, R1_0, R1_2, R13_0]) (by simp (disch := omega) [f_Mo_look, h10, ↓ob_eq, ob_some, ldI, ldR, ldO, stI, stZ, stR, isO, wrA_n, rdA_n, wrA_l, rdA_l, gK_sI, gR_sI, gX_sI, gN_sI, gK_cp, gR_cp, gX_cp, gN_cp, rtZ_0, rtZ_1, if_true, reduceIte, and_self, true_and, and_true, K131, K142, R131_20, gI_q, gI_n1, gI_n2, hlaw])
  by_cases h11 : v = 11
  · exact both_ref I0 (r := gI h (b + 19) 2) (by simp [f_Tc_look, h11, ↓ob_eq, ob_some, ldI, ldR, ldO, stI, stZ, stR, isO, wrA_n, rdA_n, wrA_l, rdA_l, gK_sI, gR_sI, gX_sI, gN_sI, gK_cp, gR_cp, gX_cp, gN_cp, rtZ_0, rtZ_1, if_true, reduceIte, and_self, true_and, and_true, K0, K1, K2, K19, R0_0, R1_0, R1_3]) (by simp (disch := omega) [f_Mo_look, h11, ↓ob_eq, ob_some, ldI, ldR, ldO, stI, stZ, stR, isO, wrA_n, rdA_n, wrA_l, rdA_l, gK_sI, gR_sI, gX_sI, gN_sI, gK_cp, gR_cp, gX_cp, gN_cp, rtZ_0, rtZ_1, if_true, reduceIte, and_self, true_and, and_true, K131, gI_q, gI_n1, gI_n2, k1, k2])
  by_cases h12 : v = 12
  · exact both_ref I0 (r := gI h (b + 21) 2) (by simp [f_Tc_look, h12, ↓ob_eq, ob_some, ldI, ldR, ldO, stI, stZ, stR, isO, wrA_n, rdA_n, wrA_l, rdA_l, gK_sI, gR_sI, gX_sI, gN_sI, gK_cp, gR_cp, gX_cp, gN_cp, rtZ_0, rtZ_1, if_true, reduceIte, and_self, true_and, and_true, K0, K1, K2, K21, R0_0, R1_0, R1_4]) (by simp (disch := omega) [f_Mo_look, h12, ↓ob_eq, ob_some, ldI, ldR, ldO, stI, stZ, stR, isO, wrA_n, rdA_n, wrA_l, rdA_l, gK_sI, gR_sI, gX_sI, gN_sI, gK_cp, gR_cp, gX_cp, gN_cp, rtZ_0, rtZ_1, if_true, reduceIte, and_self, true_and, and_true, K131, gI_q, gI_n1, gI_n2, s1, s2])
  by_cases h13 : v = 13
  · exact both_ref I0 (r := gI h (b + 23) 2) (by simp [f_Tc_look, h13, ↓ob_eq, ob_some, ldI, ldR, ldO, stI, stZ, stR, isO, wrA_n, rdA_n, wrA_l, rdA_l, gK_sI, gR_sI, gX_sI, gN_sI, gK_cp, gR_cp, gX_cp, gN_cp, rtZ_0, rtZ_1, if_true, reduceIte, and_self, true_and, and_true, K0, K1, K2, K23, R0_0, R1_0, R1_5]) (by simp (disch := omega) [f_Mo_look, h13, ↓ob_eq, ob_some, ldI, ldR, ldO, stI, stZ, stR, isO, wrA_n, rdA_n, wrA_l, rdA_l, gK_sI, gR_sI, gX_sI, gN_sI, gK_cp, gR_cp, gX_cp, gN_cp, rtZ_0, rtZ_1, if_true, reduceIte, and_self, true_and, and_true, K131, gI_q, gI_n1, gI_n2, r1, r2])
  by_cases h14 : v = 14
  · exact both_ref I0 (r := gI h (b + 40) 2) (by simp [f_Tc_look, h14, ↓ob_eq, ob_some, ldI, ldR, ldO, stI, stZ, stR, isO, wrA_n, rdA_n, wrA_l, rdA_l, gK_sI, gR_sI, gX_sI, gN_sI, gK_cp, gR_cp, gX_cp, gN_cp, rtZ_0, rtZ_1, if_true, reduceIte, and_self, true_and, and_true, K0, K1, K2, K40, R0_0, R1_0, R0_1]) (by simp (disch := omega) [f_Mo_look, h14, ↓ob_eq, ob_some, ldI, ldR, ldO, stI, stZ, stR, isO, wrA_n, rdA_n, wrA_l, rdA_l, gK_sI, gR_sI, gX_sI, gN_sI, gK_cp, gR_cp, gX_cp, gN_cp, rtZ_0, rtZ_1, if_true, reduceIte, and_self, true_and, and_true, K131, gI_q, gI_n1, gI_n2, g1, g2])
  exact both_ref I0 (r := -100000) (by simp [f_Tc_look, h0, h1, h2, h3, h4, h5, h6, h7, h8, h9, h10, h11, h12, h13, h14, ↓ob_eq, ob_some, ldI, ldR, ldO, stI, stZ, stR, isO, wrA_n, rdA_n, wrA_l, rdA_l, gK_sI, gR_sI, gX_sI, gN_sI, gK_cp, gR_cp, gX_cp, gN_cp, rtZ_0, rtZ_1, if_true, reduceIte, and_self, true_and, and_true, K0, K1, R0_0, R1_0]) (by simp [f_Mo_look, h0, h1, h2, h3, h4, h5, h6, h7, h8, h9, h10, h11, h12, h13, h14, ↓ob_eq, ob_some, ldI, ldR, ldO, stI, stZ, stR, isO, wrA_n, rdA_n, wrA_l, rdA_l, gK_sI, gR_sI, gX_sI, gN_sI, gK_cp, gR_cp, gX_cp, gN_cp, rtZ_0, rtZ_1, if_true, reduceIte, and_self, true_and, and_true, K131])
