theorem ob_so {α β : Type} (a : α) (f : α → Option β) (q : Tg f) : ob (some a) f q = f a := (rfl)
theorem nx_bd {k : Nat} {p : Int} {f : Nat → Int × Int} {lo hi : Int} (h0 : lo ≤ 0) (p0 : 0 ≤ p) (p1 : p ≤ 99) (hf : ∀ j, lo ≤ (f j).1 ∧ (f j).1 ≤ hi ∧ 0 ≤ (f j).2 ∧ (f j).2 ≤ hi) : ∀ j, lo ≤ (nx k p f j).1 ∧ (nx k p f j).1 ≤ hi + 99 ∧ 0 ≤ (nx k p f j).2 ∧ (nx k p f j).2 ≤ hi + 99
  | 0 => by have := hf 0; rw [nx]; omega
  | j + 1 => by
    have h1 := nx_bd (k := k) h0 p0 p1 hf j
    have h2 := hf (j + 1)
    rw [nx]
    split
    · dsimp only
      generalize (nx k p f j).2 = A at *
      generalize (f (j + 1)).1 = B at *
      generalize (f (j + 1)).2 = C at *
      refine ⟨?_, ?_, ?_, ?_⟩ <;> omega
    · omega
theorem rx_bd {k : Nat} {p : Int} {f : Nat → Int × Int} {lo hi : Int} (h0 : lo ≤ 0) (p0 : 0 ≤ p) (p1 : p ≤ 99) (hf : ∀ j, lo ≤ (f j).1 ∧ (f j).1 ≤ hi ∧ 0 ≤ (f j).2 ∧ (f j).2 ≤ hi) : ∀ j, lo ≤ (rx k p f j).1 ∧ (rx k p f j).1 ≤ hi + 99 ∧ 0 ≤ (rx k p f j).2 ∧ (rx k p f j).2 ≤ hi + 99
  | 0 => by have := hf 0; rw [rx]; omega
  | j + 1 => by
    have h1 := rx_bd (k := k) h0 p0 p1 hf j
    have h2 := hf (j + 1)
    rw [rx]
    split
    · dsimp only
      generalize (rx k p f j).2 = A at *
      generalize (f (j + 1)).1 = B at *
      generalize (f (j + 1)).2 = C at *
      refine ⟨?_, ?_, ?_, ?_⟩ <;> omega
    · omega
theorem wst_bd {nxt : Nat → Int → (Nat → Int × Int) → Nat → Int × Int} (hn : ∀ (k : Nat) (p : Int) (f : Nat → Int × Int) (lo hi : Int), lo ≤ 0 → 0 ≤ p → p ≤ 99 → (∀ j, lo ≤ (f j).1 ∧ (f j).1 ≤ hi ∧ 0 ≤ (f j).2 ∧ (f j).2 ≤ hi) → ∀ j, lo ≤ (nxt k p f j).1 ∧ (nxt k p f j).1 ≤ hi + 99 ∧ 0 ≤ (nxt k p f j).2 ∧ (nxt k p f j).2 ≤ hi + 99) {k : Nat} {lo : Int} {P : Nat → Nat} (h0 : lo ≤ 0) (hP : ∀ d, P d ≤ 99) : ∀ d j, lo ≤ (wst nxt k lo P d j).1 ∧ (wst nxt k lo P d j).1 ≤ 99 * d ∧ 0 ≤ (wst nxt k lo P d j).2 ∧ (wst nxt k lo P d j).2 ≤ 99 * d
  | 0, j => by rw [wst]; dsimp only; omega
  | d + 1, j => by
    have ih := wst_bd hn (k := k) (P := P) h0 hP d
    have := hn k (P d) _ lo (99 * d) h0 (by omega) (by have := hP d; omega) ih j
    rw [wst]
    omega
/-- two arrays that hold a state -/
def Two (h : PH) (o1 o2 : Nat) (f : Nat → Int × Int) : Prop := ∀ j, j < 4 → gI h o1 j = iI (f j).1 ∧ gI h o2 j = iI (f j).2
/-- up to i the new state, from there on the old -/
def mid (i : Nat) (f g : Nat → Int × Int) (j : Nat) : Int × Int := if j < i then g j else f j
theorem Two.cg {h : PH} {o1 o2 : Nat} {f g : Nat → Int × Int} (t : Two h o1 o2 f) (e : ∀ j, j < 4 → f j = g j) : Two h o1 o2 g := fun j hj => by rw [← e j hj]; exact t j hj
theorem Two.put {h : PH} {o1 o2 i : Nat} {f g : Nat → Int × Int} (hne : o1 ≠ o2) (t : Two h o1 o2 (mid i f g)) : Two (sI (sI h o1 i (iI (g i).1)) o2 i (iI (g i).2)) o1 o2 (mid (i + 1) f g) := fun j hj => by
  by_cases q : j = i
  · subst q
    unfold mid
    rw [if_pos (by omega)]
    constructor <;> simp (disch := omega) only [gI_q, gI_n1, gI_n2]
  · have e : mid (i + 1) f g j = mid i f g j := by
      unfold mid
      by_cases q2 : j < i
      · rw [if_pos q2, if_pos (by omega)]
      · rw [if_neg q2, if_neg (by omega)]
    rw [e]
    have := t j hj
    constructor
    · simp (disch := omega) only [gI_q, gI_n1, gI_n2]; exact this.1
    · simp (disch := omega) only [gI_q, gI_n1, gI_n2]; exact this.2
theorem Two.put' {h : PH} {o1 o2 i : Nat} {f g : Nat → Int × Int} (hne : o1 ≠ o2) (t : Two h o1 o2 (mid i f g)) : Two (sI (sI h o2 i (iI (g i).2)) o1 i (iI (g i).1)) o1 o2 (mid (i + 1) f g) := fun j hj => by
  by_cases q : j = i
  · subst q
    unfold mid
    rw [if_pos (by omega)]
    constructor <;> simp (disch := omega) only [gI_q, gI_n1, gI_n2]
  · have e : mid (i + 1) f g j = mid i f g j := by
      unfold mid
      by_cases q2 : j < i
      · rw [if_pos q2, if_pos (by omega)]
      · rw [if_neg q2, if_neg (by omega)]
    rw [e]
    have := t j hj
    constructor
    · simp (disch := omega) only [gI_q, gI_n1, gI_n2]; exact this.1
    · simp (disch := omega) only [gI_q, gI_n1, gI_n2]; exact this.2
theorem far_eq : (-100000000 : Int32) = iI (-100000000) := by decide
theorem m1000_eq : (-1000 : Int32) = iI (-1000) := by decide
theorem zero_eq : (0 : Int32) = iI 0 := by decide
theorem op_won (b : Nat) : B_won (Inv b) b (b + 131) := by
  intro h I v
  have I0 := I
  obtain ⟨s, cd, c_stat, c_realm, c_book, c_law, c_kin, c_shi, c_roa, c_ord, c_han, c_wei, c_bag, c_pri, c_cnt, c_led, c_yea, c_log, c_rdr, c_msc, c_img⟩ := I
  have K0 : gK h b = (0, 8) := s.K 0 (by decide) rfl
  have K1 : gK h (b + 1) = (0, 1) := s.K 1 (by decide) rfl
  have K25 : gK h (b + 25) = (0, 7) := s.K 25 (by decide) rfl
  have K36 : gK h (b + 36) = (0, 6) := s.K 36 (by decide) rfl
  have K37 : gK h (b + 37) = (1, 12) := s.K 37 (by decide) rfl
  have K124 : gK h (b + 124) = (0, 0) := s.K 124 (by decide) rfl
  have K127 : gK h (b + 127) = (1, 4) := s.K 127 (by decide) rfl
  have K128 : gK h (b + 128) = (1, 4) := s.K 128 (by decide) rfl
  have K131 : gK h (b + 131) = (0, 9) := s.K 131 (by decide) rfl
  have K169 : gK h (b + 169) = (1, 12) := s.K 169 (by decide) rfl
  have K170 : gK h (b + 170) = (1, 4) := s.K 170 (by decide) rfl
  have K171 : gK h (b + 171) = (1, 4) := s.K 171 (by decide) rfl
  have R0_0 : gR h b 0 = some (b + 1) := s.R 0 0 rfl
  have R0_4 : gR h b 4 = some (b + 124) := s.R 0 4 rfl
  have R1_6 : gR h (b + 1) 6 = some (b + 25) := s.R 1 6 rfl
  have R25_5 : gR h (b + 25) 5 = some (b + 36) := s.R 25 5 rfl
  have R36_1 : gR h (b + 36) 1 = some (b + 37) := s.R 36 1 rfl
  have R124_2 : gR h (b + 124) 2 = some (b + 127) := s.R 124 2 rfl
  have R124_3 : gR h (b + 124) 3 = some (b + 128) := s.R 124 3 rfl
  have R131_64 : gR h (b + 131) 64 = some (b + 169) := s.R 131 64 rfl
  have R131_65 : gR h (b + 131) 65 = some (b + 170) := s.R 131 65 rfl
  have R131_66 : gR h (b + 131) 66 = some (b + 171) := s.R 131 66 rfl
  obtain ⟨n, hn, ⟨W, N2⟩, MM, LL⟩ := c_pri
  obtain ⟨P, hP0⟩ : ∃ P : Nat → Nat, ∀ l, P l = if l < n then (gI h (b + 37) l).toNatClampNeg else 0 := ⟨_, fun l => rfl⟩
  have D : ∀ l, l < n → gI h (b + 37) l = nI (P l) ∧ gI h (b + 169) l = nI (P l) := fun l hl => by
    obtain ⟨x, a1, a2, a3, a4⟩ := LL l hl
    rw [hP0, if_pos hl, a3, a4, tn_nI (by omega)]
    exact ⟨rfl, rfl⟩
  have hP : ∀ l, P l ≤ 99 := fun l => by
    rw [hP0]
    by_cases hl : l < n
    · obtain ⟨x, a1, a2, a3, a4⟩ := LL l hl
      rw [if_pos hl, a3, tn_nI (by omega)]; exact a2
    · rw [if_neg hl]; omega
  rcases in1_cases v 3 3 rfl (by omega) with ⟨k, l0, l1, rfl, u1, u2, i1⟩ | ⟨u, i1⟩
  · -- the class
    have CB : ∀ d j, -1000 ≤ (wst nx k (-1000) P d j).1 ∧ (wst nx k (-1000) P d j).1 ≤ 99 * d ∧ 0 ≤ (wst nx k (-1000) P d j).2 ∧ (wst nx k (-1000) P d j).2 ≤ 99 * d := wst_bd (fun _ _ _ _ _ a b c d => nx_bd a b c d) (by omega) hP
    have RB : ∀ d j, -100000000 ≤ (wst rx k (-100000000) P d j).1 ∧ (wst rx k (-100000000) P d j).1 ≤ 99 * d ∧ 0 ≤ (wst rx k (-100000000) P d j).2 ∧ (wst rx k (-100000000) P d j).2 ≤ 99 * d := wst_bd (fun _ _ _ _ _ a b c d => rx_bd a b c d) (by omega) hP
    have c54 : ∀ (k35 : Nat → Nat → Int32 → Int32 → PH → Option (Int32 × PH)) d (hh : PH), d < n → Sn [(127, 0, 4), (128, 0, 4)] b h hh → Two hh (b + 127) (b + 128) (wst nx k (-1000) P d) → ∃ h2, Sn [(127, 0, 4), (128, 0, 4)] b h h2 ∧ Two h2 (b + 127) (b + 128) (wst nx k (-1000) P (d + 1)) ∧ f_Desk_mostWon_54 k35 FU (b + 124) (b + 36) (nI k) (nI d) (nI (P d)) 1 hh = k35 (b + 124) (b + 36) (nI k) (nI (d + 1)) h2 := by
      intro k35 d hh hd t0 tw
      have key := lp (fun N (s : PH) i => f_Desk_mostWon_54 k35 N (b + 124) (b + 36) (nI k) (nI d) (nI (P d)) (nI i) s) (fun i s => sI (sI s (b + 127) i (iI (wst nx k (-1000) P (d + 1) i).1)) (b + 128) i (iI (wst nx k (-1000) P (d + 1) i).2)) (fun i s => 1 ≤ i ∧ Sn [(127, 0, 4), (128, 0, 4)] b h s ∧ Two s (b + 127) (b + 128) (mid i (wst nx k (-1000) P d) (wst nx k (-1000) P (d + 1)))) (k + 1) (fun s => k35 (b + 124) (b + 36) (nI k) (nI (d + 1)) s)
        (fun N i s hi q => by
          obtain ⟨q0, q1, q2⟩ := q
          obtain ⟨m, rfl⟩ : ∃ m, i = m + 1 := ⟨i - 1, by omega⟩
          have e1 : ¬ k < m + 1 := by omega
          have e2 : ¬ 4 ≤ m + 1 := by omega
          have e3 : m + 1 < 4 := by omega
          have e4 : m < 4 := by omega
          have kk : gK s (b + 124) = (0, 0) ∧ gK s (b + 127) = (1, 4) ∧ gK s (b + 128) = (1, 4) := ⟨by rw [q1.1]; exact K124, by rw [q1.1]; exact K127, by rw [q1.1]; exact K128⟩
          have rr : gR s (b + 124) 2 = some (b + 127) ∧ gR s (b + 124) 3 = some (b + 128) := ⟨by rw [q1.2.1]; exact R124_2, by rw [q1.2.1]; exact R124_3⟩
          have v1 : gI s (b + 127) (m + 1) = iI (wst nx k (-1000) P d (m + 1)).1 := by
            rw [(q2 (m + 1) e3).1]; unfold mid; rw [if_neg (by omega)]
          have v2 : gI s (b + 128) (m + 1) = iI (wst nx k (-1000) P d (m + 1)).2 := by
            rw [(q2 (m + 1) e3).2]; unfold mid; rw [if_neg (by omega)]
          have v3 : gI s (b + 128) m = iI (wst nx k (-1000) P (d + 1) m).2 := by
            rw [(q2 m e4).2]; unfold mid; rw [if_pos (by omega)]
          have b1 := CB d (m + 1)
          have b2 := CB (d + 1) m
          have b3 := CB (d + 1) (m + 1)
          have hPd := hP d
          have e5 : wst nx k (-1000) P (d + 1) (m + 1) = (max (wst nx k (-1000) P d (m + 1)).1 ((wst nx k (-1000) P (d + 1) m).2 - P d), max (wst nx k (-1000) P d (m + 1)).2 (max (wst nx k (-1000) P d (m + 1)).1 ((wst nx k (-1000) P (d + 1) m).2 - P d) + P d)) := by
            rw [wst, nx, if_pos (by omega)]
          have e6 : jmax (iI (wst nx k (-1000) P d (m + 1)).1) (iI (wst nx k (-1000) P (d + 1) m).2 - nI (P d)) = iI (wst nx k (-1000) P (d + 1) (m + 1)).1 := by
            rw [iI_nat, iI_sub, iI_max (by omega) (by omega) (by omega) (by omega), e5]
          have e7 : jmax (iI (wst nx k (-1000) P d (m + 1)).2) (iI (wst nx k (-1000) P (d + 1) (m + 1)).1 + nI (P d)) = iI (wst nx k (-1000) P (d + 1) (m + 1)).2 := by
            rw [iI_nat, iI_add, iI_max (by omega) (by omega) (by omega) (by omega), e5]
          have e8 : nI (m + 1) - 1 = nI m := pk_sub (a := m + 1) (b := 1) (by omega)
          rw [f_Desk_mostWon_54]
          simp (disch := omega) [lnA, ↓ob_eq, ob_so, ldI, ldR, ldO, stI, stZ, stR, isO, wrA_n, rdA_n, wrA_l, rdA_l, gK_sI, gR_sI, gX_sI, gN_sI, gK_cp, gR_cp, gX_cp, gN_cp, rtZ_0, rtZ_1, if_true, reduceIte, and_self, true_and, and_true, kk, rr, e1, e2, e3, e4, v1, v2, v3, e6, e7, e8, nI_lt', nI_le', nI_addL, gI_q, gI_n1, gI_n2])
        (fun i s hi q => by
          obtain ⟨q0, q1, q2⟩ := q
          refine ⟨by omega, (q1.put 127 i _ (inL_in (lo := 0) (hi := 4) (by decide) (by omega) (by omega))).put 128 i _ (inL_in (lo := 0) (hi := 4) (by decide) (by omega) (by omega)), Two.put (by omega) q2⟩)
        (fun N s q => by
          have e1 : k < k + 1 := by omega
          rw [f_Desk_mostWon_54]
          simp (disch := omega) [e1, nI_lt', nI_addL])
        k 1 hh FU (by omega) ⟨by omega, t0, tw.cg (fun j hj => by
          unfold mid
          by_cases z : j < 1
          · obtain rfl : j = 0 := by omega
            rw [if_pos z]; rfl
          · rw [if_neg z])⟩ (by rw [FU_eq]; omega)
      refine ⟨_, key.2.2.1, key.2.2.2.cg (fun j hj => ?_), key.1⟩
      unfold mid
      by_cases z : j < k + 1
      · rw [if_pos z]
      · rw [if_neg z]
        obtain ⟨m, rfl⟩ : ∃ m, j = m + 1 := ⟨j - 1, by omega⟩
        rw [wst, nx, if_neg (by omega)]
    have c35 : ∀ hh : PH, Sn [(127, 0, 4), (128, 0, 4)] b h hh → Two hh (b + 127) (b + 128) (wst nx k (-1000) P 0) → ∃ h2, Sn [(127, 0, 4), (128, 0, 4)] b h h2 ∧ f_Desk_mostWon_35 FU (b + 124) (b + 36) (nI k) 0 hh = some (iI (wst nx k (-1000) P n k).2, h2) := by
      have go : ∀ e d M (hh : PH), d + e = n → e < M → Sn [(127, 0, 4), (128, 0, 4)] b h hh → Two hh (b + 127) (b + 128) (wst nx k (-1000) P d) → ∃ h2, Sn [(127, 0, 4), (128, 0, 4)] b h h2 ∧ f_Desk_mostWon_35 M (b + 124) (b + 36) (nI k) (nI d) hh = some (iI (wst nx k (-1000) P n k).2, h2) := by
        intro e
        induction e with
        | zero =>
          intro d M hh hd hM t0 tw
          obtain ⟨N, rfl⟩ : ∃ N, M = N + 1 := ⟨M - 1, by omega⟩
          obtain rfl : d = n := by omega
          refine ⟨hh, t0, ?_⟩
          have kk : gK hh (b + 124) = (0, 0) ∧ gK hh (b + 128) = (1, 4) ∧ gK hh (b + 36) = (0, 6) := ⟨by rw [t0.1]; exact K124, by rw [t0.1]; exact K128, by rw [t0.1]; exact K36⟩
          have rr : gR hh (b + 124) 3 = some (b + 128) := by rw [t0.2.1]; exact R124_3
          have nn : gI hh (b + 36) 2 = nI d := by rw [t0.I (by decide)]; exact N2
          have e0 : ¬ nI k < 0 := nI_pos (by omega)
          have e3 : ¬ 3 < k := by omega
          have w : f_Tc_within (nI k) (nI 3) hh = some (1, hh) := by
            simp (disch := omega) [f_Tc_within, e0, e3, nI_lt', rtZ_1]
          have e4 : nI 4 - 1 = nI 3 := by decide
          have e5 : k < 4 := by omega
          rw [f_Desk_mostWon_35]
          simp (disch := omega) [lnA, ↓ob_eq, ob_so, ldI, ldR, ldO, stI, stZ, stR, isO, wrA_n, rdA_n, wrA_l, rdA_l, gK_sI, gR_sI, gX_sI, gN_sI, gK_cp, gR_cp, gX_cp, gN_cp, rtZ_0, rtZ_1, if_true, reduceIte, and_self, true_and, and_true, kk, rr, nn, w, e4, e5, (tw k e5).2, nI_le']
        | succ e ih =>
          intro d M hh hd hM t0 tw
          obtain ⟨N, rfl⟩ : ∃ N, M = N + 1 := ⟨M - 1, by omega⟩
          obtain ⟨h2, s2, w2, e2⟩ := c54 (fun a0 a1 x2 x3 h => f_Desk_mostWon_35 N a0 a1 x2 x3 h) d hh (by omega) t0 tw
          obtain ⟨h3, s3, e3⟩ := ih (d + 1) N h2 (by omega) (by omega) s2 w2
          refine ⟨h3, s3, ?_⟩
          have kk : gK hh (b + 36) = (0, 6) := by rw [t0.1]; exact K36
          have nn : gI hh (b + 36) 2 = nI n := by rw [t0.I (by decide)]; exact N2
          have ww : gI hh (b + 36) 0 = nI 1 := by rw [t0.I (by decide)]; exact W
          have e4 : ¬ n ≤ d := by omega
          have gg : f_Row_get (b + 36) (nI d) 0 hh = some (nI (P d), hh) := by
            have := row_get (w := 1) (l := d) (i := 0) (c := b + 37) (m := 12) kk (by rw [t0.2.1]; exact R36_1) (by rw [t0.1]; exact K37) ww nn (by omega) (by omega) (by omega) (by omega) (by omega)
            rw [Nat.mul_one] at this
            have this : f_Row_get (b + 36) (nI d) 0 hh = some (gI hh (b + 37) d, hh) := this
            have e5 : gI hh (b + 37) d = nI (P d) := by
              rw [t0.2.2.2.2 37 d (by simp [inL])]
              exact (D d (by omega)).1
            rw [e5] at this
            exact this
          have main : f_Desk_mostWon_35 (N + 1) (b + 124) (b + 36) (nI k) (nI d) hh = f_Desk_mostWon_54 (fun a0 a1 x2 x3 h => f_Desk_mostWon_35 N a0 a1 x2 x3 h) FU (b + 124) (b + 36) (nI k) (nI d) (nI (P d)) 1 hh := by
            rw [f_Desk_mostWon_35]
            simp (disch := omega) only [↓ob_eq, ob_so, ldI, ldR, ldO, stI, stZ, stR, isO, wrA_n, rdA_n, wrA_l, rdA_l, gK_sI, gR_sI, gX_sI, gN_sI, gK_cp, gR_cp, gX_cp, gN_cp, rtZ_0, rtZ_1, if_true, reduceIte, and_self, true_and, and_true, kk, nn, e4, gg, nI_le', if_false]
          exact (main.trans e2).trans e3
      intro hh t0 tw
      have this := go n 0 FU hh (by omega) (by rw [FU_eq]; omega) t0 tw
      rw [nI_0] at this
      exact this
    have c2 : ∃ h2, Sn [(127, 0, 4), (128, 0, 4)] b h h2 ∧ f_Desk_mostWon (b + 124) (b + 36) (nI k) h = some (iI (wst nx k (-1000) P n k).2, h2) := by
      have key := lp (fun N (s : PH) i => f_Desk_mostWon_2 N (b + 124) (b + 36) (nI k) (nI i) s) (fun i s => sI (sI s (b + 128) i 0) (b + 127) i (-1000)) (fun i s => Sn [(127, 0, 4), (128, 0, 4)] b h s ∧ ∀ j, j < i → gI s (b + 127) j = -1000 ∧ gI s (b + 128) j = 0) 4 (fun s => f_Desk_mostWon_35 FU (b + 124) (b + 36) (nI k) 0 s)
        (fun N i s hi q => by
          obtain ⟨q1, q2⟩ := q
          have e2 : ¬ 4 ≤ i := by omega
          have kk : gK s (b + 124) = (0, 0) ∧ gK s (b + 127) = (1, 4) ∧ gK s (b + 128) = (1, 4) := ⟨by rw [q1.1]; exact K124, by rw [q1.1]; exact K127, by rw [q1.1]; exact K128⟩
          have rr : gR s (b + 124) 2 = some (b + 127) ∧ gR s (b + 124) 3 = some (b + 128) := ⟨by rw [q1.2.1]; exact R124_2, by rw [q1.2.1]; exact R124_3⟩
          rw [f_Desk_mostWon_2]
          simp (disch := omega) [lnA, ↓ob_eq, ob_so, ldI, ldR, ldO, stI, stZ, stR, isO, wrA_n, rdA_n, wrA_l, rdA_l, gK_sI, gR_sI, gX_sI, gN_sI, gK_cp, gR_cp, gX_cp, gN_cp, rtZ_0, rtZ_1, if_true, reduceIte, and_self, true_and, and_true, kk, rr, e2, hi, nI_le', nI_addL])
        (fun i s hi q => by
          obtain ⟨q1, q2⟩ := q
          refine ⟨(q1.put 128 i _ (inL_in (lo := 0) (hi := 4) (by decide) (by omega) (by omega))).put 127 i _ (inL_in (lo := 0) (hi := 4) (by decide) (by omega) (by omega)), fun j hj => ?_⟩
          by_cases z : j = i
          · subst z; constructor <;> simp (disch := omega) only [gI_q, gI_n1, gI_n2]
          · have := q2 j (by omega)
            constructor
            · simp (disch := omega) only [gI_q, gI_n1, gI_n2]; exact this.1
            · simp (disch := omega) only [gI_q, gI_n1, gI_n2]; exact this.2)
        (fun N s q => by
          obtain ⟨q1, q2⟩ := q
          have kk : gK s (b + 124) = (0, 0) ∧ gK s (b + 128) = (1, 4) := ⟨by rw [q1.1]; exact K124, by rw [q1.1]; exact K128⟩
          have rr : gR s (b + 124) 3 = some (b + 128) := by rw [q1.2.1]; exact R124_3
          rw [f_Desk_mostWon_2]
          simp (disch := omega) [lnA, ↓ob_eq, ob_so, ldI, ldR, ldO, stI, stZ, stR, isO, wrA_n, rdA_n, wrA_l, rdA_l, gK_sI, gR_sI, gX_sI, gN_sI, gK_cp, gR_cp, gX_cp, gN_cp, rtZ_0, rtZ_1, if_true, reduceIte, and_self, true_and, and_true, kk, rr, nI_le'])
        4 0 h FU (by omega) ⟨Sn.rf, fun j hj => absurd hj (by omega)⟩ (by rw [FU_eq]; omega)
      obtain ⟨h2, s2, e2⟩ := c35 _ key.2.1 (fun j hj => ⟨(key.2.2 j hj).1.trans m1000_eq, (key.2.2 j hj).2.trans zero_eq⟩)
      exact ⟨h2, s2, key.1.trans e2⟩
    obtain ⟨h1, t1, e1⟩ := c2
    -- the reference
    have K' : ∀ hh, Sn [(131, 0, 1), (170, 0, 4), (171, 0, 4)] b h1 hh → gK hh = gK h ∧ gR hh = gR h := fun hh t => ⟨t.1.trans t1.1, t.2.1.trans t1.2.1⟩
    have r58 : ∀ (k48 : Nat → Int32 → Int32 → PH → Option (Int32 × PH)) d (hh : PH), d < n → Sn [(131, 0, 1), (170, 0, 4), (171, 0, 4)] b h1 hh → Two hh (b + 171) (b + 170) (wst rx k (-100000000) P d) → ∃ h2, Sn [(131, 0, 1), (170, 0, 4), (171, 0, 4)] b h1 h2 ∧ Two h2 (b + 171) (b + 170) (wst rx k (-100000000) P (d + 1)) ∧ f_Mo_won_58 k48 FU (b + 131) (nI k) (nI d) 1 hh = k48 (b + 131) (nI k) (nI (d + 1)) h2 := by
      intro k48 d hh hd t0 tw
      have key := lp (fun N (s : PH) i => f_Mo_won_58 k48 N (b + 131) (nI k) (nI d) (nI i) s) (fun i s => sI (sI s (b + 170) i (iI (wst rx k (-100000000) P (d + 1) i).2)) (b + 171) i (iI (wst rx k (-100000000) P (d + 1) i).1)) (fun i s => 1 ≤ i ∧ Sn [(131, 0, 1), (170, 0, 4), (171, 0, 4)] b h1 s ∧ Two s (b + 171) (b + 170) (mid i (wst rx k (-100000000) P d) (wst rx k (-100000000) P (d + 1)))) (k + 1) (fun s => k48 (b + 131) (nI k) (nI (d + 1)) s)
        (fun N i s hi q => by
          obtain ⟨q0, q1, q2⟩ := q
          obtain ⟨m, rfl⟩ : ∃ m, i = m + 1 := ⟨i - 1, by omega⟩
          have e1 : ¬ k < m + 1 := by omega
          have e3 : m + 1 < 4 := by omega
          have e4 : m < 4 := by omega
          have d12 : d < 12 := by omega
          obtain ⟨g1, g2⟩ := K' s q1
          have kk : gK s (b + 131) = (0, 9) ∧ gK s (b + 170) = (1, 4) ∧ gK s (b + 171) = (1, 4) ∧ gK s (b + 169) = (1, 12) := ⟨by rw [g1]; exact K131, by rw [g1]; exact K170, by rw [g1]; exact K171, by rw [g1]; exact K169⟩
          have rr : gR s (b + 131) 64 = some (b + 169) ∧ gR s (b + 131) 65 = some (b + 170) ∧ gR s (b + 131) 66 = some (b + 171) := ⟨by rw [g2]; exact R131_64, by rw [g2]; exact R131_65, by rw [g2]; exact R131_66⟩
          have v1 : gI s (b + 171) (m + 1) = iI (wst rx k (-100000000) P d (m + 1)).1 := by
            rw [(q2 (m + 1) e3).1]; unfold mid; rw [if_neg (by omega)]
          have v2 : gI s (b + 170) (m + 1) = iI (wst rx k (-100000000) P d (m + 1)).2 := by
            rw [(q2 (m + 1) e3).2]; unfold mid; rw [if_neg (by omega)]
          have v3 : gI s (b + 170) m = iI (wst rx k (-100000000) P (d + 1) m).2 := by
            rw [(q2 m e4).2]; unfold mid; rw [if_pos (by omega)]
          have vp : gI s (b + 169) d = nI (P d) := by
            rw [q1.2.2.2.2 169 d (by simp [inL]), t1.2.2.2.2 169 d (by simp [inL])]; exact (D d hd).2
          have b1 := RB d (m + 1)
          have b2 := RB (d + 1) m
          have b3 := RB (d + 1) (m + 1)
          have hPd := hP d
          have e5 : wst rx k (-100000000) P (d + 1) (m + 1) = (max (wst rx k (-100000000) P d (m + 1)).1 ((wst rx k (-100000000) P (d + 1) m).2 - P d), max (wst rx k (-100000000) P d (m + 1)).2 ((wst rx k (-100000000) P d (m + 1)).1 + P d)) := by
            rw [wst, rx, if_pos (by omega)]
          have e6 : ∀ hh, f_Mo_greater (b + 131) (iI (wst rx k (-100000000) P d (m + 1)).2) (iI (wst rx k (-100000000) P d (m + 1)).1 + nI (P d)) hh = some (iI (wst rx k (-100000000) P (d + 1) (m + 1)).2, hh) := fun hh => by
            rw [iI_nat, iI_add, mo_greater (by omega) (by omega) (by omega) (by omega), e5]
          have e7 : ∀ hh, f_Mo_greater (b + 131) (iI (wst rx k (-100000000) P d (m + 1)).1) (iI (wst rx k (-100000000) P (d + 1) m).2 - nI (P d)) hh = some (iI (wst rx k (-100000000) P (d + 1) (m + 1)).1, hh) := fun hh => by
            rw [iI_nat, iI_sub, mo_greater (by omega) (by omega) (by omega) (by omega), e5]
          have e8 : nI (m + 1) - 1 = nI m := pk_sub (a := m + 1) (b := 1) (by omega)
          rw [f_Mo_won_58]
          simp (disch := omega) [↓ob_eq, ob_so, ldI, ldR, ldO, stI, stZ, stR, isO, wrA_n, rdA_n, wrA_l, rdA_l, gK_sI, gR_sI, gX_sI, gN_sI, gK_cp, gR_cp, gX_cp, gN_cp, rtZ_0, rtZ_1, if_true, reduceIte, and_self, true_and, and_true, kk, rr, e1, e3, e4, d12, v1, v2, v3, vp, e6, e7, e8, nI_lt', nI_addL, gI_q, gI_n1, gI_n2])
        (fun i s hi q => by
          obtain ⟨q0, q1, q2⟩ := q
          refine ⟨by omega, (q1.put 170 i _ (inL_in (lo := 0) (hi := 4) (by decide) (by omega) (by omega))).put 171 i _ (inL_in (lo := 0) (hi := 4) (by decide) (by omega) (by omega)), Two.put' (by omega) q2⟩)
        (fun N s q => by
          have e1 : k < k + 1 := by omega
          rw [f_Mo_won_58]
          simp (disch := omega) [e1, nI_lt', nI_addL])
        k 1 hh FU (by omega) ⟨by omega, t0, tw.cg (fun j hj => by
          unfold mid
          by_cases z : j < 1
          · obtain rfl : j = 0 := by omega
            rw [if_pos z]; rfl
          · rw [if_neg z])⟩ (by rw [FU_eq]; omega)
      refine ⟨_, key.2.2.1, key.2.2.2.cg (fun j hj => ?_), key.1⟩
      unfold mid
      by_cases z : j < k + 1
      · rw [if_pos z]
      · rw [if_neg z]
        obtain ⟨m, rfl⟩ : ∃ m, j = m + 1 := ⟨j - 1, by omega⟩
        rw [wst, rx, if_neg (by omega)]
    -- the last loop: the most of all
    have r139 : ∀ hh : PH, Sn [(131, 0, 1), (170, 0, 4), (171, 0, 4)] b h1 hh → Two hh (b + 171) (b + 170) (wst rx k (-100000000) P n) → f_Mo_won_139 FU (b + 131) (nI k) 0 0 hh = some (iI (mx (wst rx k (-100000000) P n) k), hh) := by
      intro hh t0 tw
      obtain ⟨g1, g2⟩ := K' hh t0
      have kk : gK hh (b + 131) = (0, 9) ∧ gK hh (b + 170) = (1, 4) := ⟨by rw [g1]; exact K131, by rw [g1]; exact K170⟩
      have rr : gR hh (b + 131) 65 = some (b + 170) := by rw [g2]; exact R131_65
      have w0 := (wst_rel (k := k) hP n).2.1
      have key := lp (fun N (s : Int) i => f_Mo_won_139 N (b + 131) (nI k) (iI s) (nI i) hh) (fun i s => max s (wst rx k (-100000000) P n i).2) (fun i s => 0 ≤ s ∧ s ≤ 99 * n ∧ s = mx (wst rx k (-100000000) P n) (i - 1)) (k + 1) (fun s => some (iI s, hh))
        (fun N i s hi q => by
          have e1 : ¬ k < i := by omega
          have e3 : i < 4 := by omega
          have b1 := RB n i
          have e6 : f_Mo_greater (b + 131) (iI s) (iI (wst rx k (-100000000) P n i).2) hh = some (iI (max s (wst rx k (-100000000) P n i).2), hh) := mo_greater (by omega) (by omega) (by omega) (by omega)
          rw [f_Mo_won_139]
          simp (disch := omega) [↓ob_eq, ob_so, ldI, ldR, ldO, stI, stZ, stR, isO, wrA_n, rdA_n, wrA_l, rdA_l, gK_sI, gR_sI, gX_sI, gN_sI, gK_cp, gR_cp, gX_cp, gN_cp, rtZ_0, rtZ_1, if_true, reduceIte, and_self, true_and, and_true, kk, rr, e1, e3, (tw i e3).2, e6, nI_lt', nI_addL])
        (fun i s hi q => by
          have b1 := RB n i
          refine ⟨by omega, by omega, ?_⟩
          rw [q.2.2]
          rcases Nat.eq_zero_or_pos i with z | z
          · subst z
            rw [w0]; rfl
          · obtain ⟨m, rfl⟩ : ∃ m, i = m + 1 := ⟨i - 1, by omega⟩
            rfl)
        (fun N s q => by
          have e1 : k < k + 1 := by omega
          rw [f_Mo_won_139]
          simp (disch := omega) [e1, nI_lt'])
        (k + 1) 0 0 FU (by omega) ⟨by omega, by omega, rfl⟩ (by rw [FU_eq]; omega)
      have k1 := key.1
      rw [← zero_eq, key.2.2.2, Nat.add_sub_cancel] at k1
      exact k1
    have r48 : ∀ hh : PH, Sn [(131, 0, 1), (170, 0, 4), (171, 0, 4)] b h1 hh → Two hh (b + 171) (b + 170) (wst rx k (-100000000) P 0) → ∃ h2, Sn [(131, 0, 1), (170, 0, 4), (171, 0, 4)] b h1 h2 ∧ f_Mo_won_48 FU (b + 131) (nI k) 0 hh = some (iI (mx (wst rx k (-100000000) P n) k), h2) := by
      have go : ∀ e d M (hh : PH), d + e = n → e < M → Sn [(131, 0, 1), (170, 0, 4), (171, 0, 4)] b h1 hh → Two hh (b + 171) (b + 170) (wst rx k (-100000000) P d) → ∃ h2, Sn [(131, 0, 1), (170, 0, 4), (171, 0, 4)] b h1 h2 ∧ f_Mo_won_48 M (b + 131) (nI k) (nI d) hh = some (iI (mx (wst rx k (-100000000) P n) k), h2) := by
        intro e
        induction e with
        | zero =>
          intro d M hh hd hM t0 tw
          obtain ⟨N, rfl⟩ : ∃ N, M = N + 1 := ⟨M - 1, by omega⟩
          obtain rfl : d = n := by omega
          refine ⟨hh, t0, ?_⟩
          obtain ⟨g1, g2⟩ := K' hh t0
          have kk : gK hh (b + 131) = (0, 9) := by rw [g1]; exact K131
          have nn : gI hh (b + 131) 63 = nI d := by rw [t0.I (by decide), t1.I (by decide)]; exact MM
          rw [f_Mo_won_48]
          simp (disch := omega) [↓ob_eq, ob_so, ldI, ldR, ldO, stI, stZ, stR, isO, wrA_n, rdA_n, wrA_l, rdA_l, gK_sI, gR_sI, gX_sI, gN_sI, gK_cp, gR_cp, gX_cp, gN_cp, rtZ_0, rtZ_1, if_true, reduceIte, and_self, true_and, and_true, kk, nn, nI_le', r139 hh t0 tw]
        | succ e ih =>
          intro d M hh hd hM t0 tw
          obtain ⟨N, rfl⟩ : ∃ N, M = N + 1 := ⟨M - 1, by omega⟩
          obtain ⟨h2, s2, w2, e2⟩ := r58 (fun a0 x1 x2 h => f_Mo_won_48 N a0 x1 x2 h) d hh (by omega) t0 tw
          obtain ⟨h3, s3, e3⟩ := ih (d + 1) N h2 (by omega) (by omega) s2 w2
          refine ⟨h3, s3, ?_⟩
          obtain ⟨g1, g2⟩ := K' hh t0
          have kk : gK hh (b + 131) = (0, 9) := by rw [g1]; exact K131
          have nn : gI hh (b + 131) 63 = nI n := by rw [t0.I (by decide), t1.I (by decide)]; exact MM
          have e4 : ¬ n ≤ d := by omega
          have main : f_Mo_won_48 (N + 1) (b + 131) (nI k) (nI d) hh = f_Mo_won_58 (fun a0 x1 x2 h => f_Mo_won_48 N a0 x1 x2 h) FU (b + 131) (nI k) (nI d) 1 hh := by
            rw [f_Mo_won_48]
            simp (disch := omega) only [↓ob_eq, ob_so, ldI, ldR, ldO, stI, stZ, stR, isO, wrA_n, rdA_n, wrA_l, rdA_l, gK_sI, gR_sI, gX_sI, gN_sI, gK_cp, gR_cp, gX_cp, gN_cp, rtZ_0, rtZ_1, if_true, reduceIte, and_self, true_and, and_true, kk, nn, e4, nI_le', if_false]
          exact (main.trans e2).trans e3
      intro hh t0 tw
      have this := go n 0 FU hh (by omega) (by rw [FU_eq]; omega) t0 tw
      rw [nI_0] at this
      exact this
    have r2 : ∃ h2, Sn [(131, 0, 1), (170, 0, 4), (171, 0, 4)] b h1 h2 ∧ f_Mo_won (b + 131) (nI k) h1 = some (iI (mx (wst rx k (-100000000) P n) k), h2) := by
      have key := lp (fun N (s : PH) i => f_Mo_won_19 N (b + 131) (nI k) (nI i) s) (fun i s => sI (sI s (b + 170) i 0) (b + 171) i (-100000000)) (fun i s => Sn [(131, 0, 1), (170, 0, 4), (171, 0, 4)] b h1 s ∧ ∀ j, j < i → gI s (b + 171) j = -100000000 ∧ gI s (b + 170) j = 0) 4 (fun s => f_Mo_won_48 FU (b + 131) (nI k) 0 s)
        (fun N i s hi q => by
          obtain ⟨q1, q2⟩ := q
          have e2 : ¬ 4 ≤ i := by omega
          obtain ⟨g1, g2⟩ := K' s q1
          have kk : gK s (b + 131) = (0, 9) ∧ gK s (b + 170) = (1, 4) ∧ gK s (b + 171) = (1, 4) := ⟨by rw [g1]; exact K131, by rw [g1]; exact K170, by rw [g1]; exact K171⟩
          have rr : gR s (b + 131) 65 = some (b + 170) ∧ gR s (b + 131) 66 = some (b + 171) := ⟨by rw [g2]; exact R131_65, by rw [g2]; exact R131_66⟩
          rw [f_Mo_won_19]
          simp (disch := omega) [↓ob_eq, ob_so, ldI, ldR, ldO, stI, stZ, stR, isO, wrA_n, rdA_n, wrA_l, rdA_l, gK_sI, gR_sI, gX_sI, gN_sI, gK_cp, gR_cp, gX_cp, gN_cp, rtZ_0, rtZ_1, if_true, reduceIte, and_self, true_and, and_true, kk, rr, e2, hi, L_len, nI_addL])
        (fun i s hi q => by
          obtain ⟨q1, q2⟩ := q
          refine ⟨(q1.put 170 i _ (inL_in (lo := 0) (hi := 4) (by decide) (by omega) (by omega))).put 171 i _ (inL_in (lo := 0) (hi := 4) (by decide) (by omega) (by omega)), fun j hj => ?_⟩
          by_cases z : j = i
          · subst z; constructor <;> simp (disch := omega) only [gI_q, gI_n1, gI_n2]
          · have := q2 j (by omega)
            constructor
            · simp (disch := omega) only [gI_q, gI_n1, gI_n2]; exact this.1
            · simp (disch := omega) only [gI_q, gI_n1, gI_n2]; exact this.2)
        (fun N s q => by
          have e1 : (4 : Int32) ≤ nI 4 := by decide
          rw [f_Mo_won_19]
          simp [e1])
        4 0 (sI h1 (b + 131) 0 0) FU (by omega) ⟨Sn.rf.put 131 0 0 (by decide), fun j hj => absurd hj (by omega)⟩ (by rw [FU_eq]; omega)
      obtain ⟨h2, s2, e2⟩ := r48 _ key.2.1 (fun j hj => ⟨(key.2.2 j hj).1.trans far_eq, (key.2.2 j hj).2.trans zero_eq⟩)
      have K1' : gK h1 (b + 131) = (0, 9) := by rw [t1.1]; exact K131
      refine ⟨h2, s2, ?_⟩
      have e3 : f_Mo_won (b + 131) (nI k) h1 = f_Mo_won_19 FU (b + 131) (nI k) (nI 0) (sI h1 (b + 131) 0 0) := by
        simp [f_Mo_won, i1, ↓ob_eq, ob_so, ldI, ldR, ldO, stI, stZ, stR, isO, wrA_n, rdA_n, wrA_l, rdA_l, gK_sI, gR_sI, gX_sI, gN_sI, gK_cp, gR_cp, gX_cp, gN_cp, rtZ_0, rtZ_1, if_true, reduceIte, and_self, true_and, and_true, K1', nI_0]
      exact e3.trans (key.1.trans e2)
    obtain ⟨h2, t2, e2⟩ := r2
    have er : (wst nx k (-1000) P n k).2 = mx (wst rx k (-100000000) P n) k := ((wst_rel hP n).2.2 k (Nat.le_refl _)).1
    rw [er] at e1
    exact both_ro I0 (by simp [f_Tc_won, u1, u2, ↓ob_eq, ob_so, ldI, ldR, ldO, stI, stZ, stR, isO, wrA_n, rdA_n, wrA_l, rdA_l, gK_sI, gR_sI, gX_sI, gN_sI, gK_cp, gR_cp, gX_cp, gN_cp, rtZ_0, rtZ_1, if_true, reduceIte, and_self, true_and, and_true, K0, K1, K25, K124, R0_0, R0_4, R1_6, R25_5, e1]) t1 e2 t2 (by decide)
  · refine both_ref I0 (r := -1) ?_ (by simp [f_Mo_won, i1, ↓ob_eq, ob_so, ldI, ldR, ldO, stI, stZ, stR, isO, wrA_n, rdA_n, wrA_l, rdA_l, gK_sI, gR_sI, gX_sI, gN_sI, gK_cp, gR_cp, gX_cp, gN_cp, rtZ_0, rtZ_1, if_true, reduceIte, and_self, true_and, and_true, K131])
    rcases u with u | ⟨u, u2⟩
    · simp [f_Tc_won, f_Tc_won_10, u]
    · simp [f_Tc_won, f_Tc_won_10, u, u2]
