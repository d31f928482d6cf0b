/-! ===== an hour ===== -/
theorem lpe {σ ρ : Type} (F : Nat → Nat → PH → σ → ρ) (st : Nat → σ → σ) (Q : Nat → σ → PH → Prop) (n : Nat) (fin : σ → PH → ρ) (hs : ∀ N i hx s, i < n → Q i s hx → ∃ hy, Q (i + 1) (st i s) hy ∧ F (N + 1) i hx s = F N (i + 1) hy (st i s)) (he : ∀ N hx s, Q n s hx → F (N + 1) n hx s = fin s hx) : ∀ d i hx s M, i + d = n → Q i s hx → d < M → ∃ hy, Q n (fo st i d s) hy ∧ F M i hx s = fin (fo st i d s) hy
  | 0, i, hx, s, M, hi, q, hM => by
    obtain ⟨N, rfl⟩ : ∃ N, M = N + 1 := ⟨M - 1, by omega⟩
    obtain rfl : i = n := by omega
    exact ⟨hx, q, he N hx s q⟩
  | d + 1, i, hx, s, M, hi, q, hM => by
    obtain ⟨N, rfl⟩ : ∃ N, M = N + 1 := ⟨M - 1, by omega⟩
    obtain ⟨hy, qy, ey⟩ := hs N i hx s (by omega) q
    obtain ⟨hz, qz, ez⟩ := lpe F st Q n fin hs he d (i + 1) hy (st i s) N (by omega) qy (by omega)
    exact ⟨hz, qz, ey.trans ez⟩
theorem upr_same {g : Nat → Int32} {k : Nat} : upr g k (g k) = g := by
  funext j
  unfold upr
  by_cases q : j = k
  · rw [if_pos q, q]
  · rw [if_neg q]
/-- the shifts, by what the class holds -/
def shS (h : PH) (b l : Nat) (g : Nat → Int32) : Nat → Int32 := if gI h (b + 22) (4 * l) = g 0 then (if canA g (gI h (b + 22) (4 * l + 1)).toNatClampNeg (gI h (b + 22) (4 * l + 2)).toNatClampNeg then actR g (gI h (b + 22) (4 * l + 1)).toNatClampNeg (gI h (b + 22) (4 * l + 2)).toNatClampNeg (gI h (b + 22) (4 * l + 3)) else g) else g
def nsO (h : PH) (b : Nat) : Nat := (gI h (b + 131) 38).toNatClampNeg
/-- who is next at a gate -/
def ftX (g : Nat → Int32) (wd y t : Nat) : Bool := decide (g (31 + t) = nI y + 1) && (decide (g (43 + t) = 0) && !wd.testBit t)
def ft (nt : Nat) (g : Nat → Int32) (wd y : Nat) : Int32 := fox (fun t (_ : Unit) => ftX g wd y t) (fun t _ => nI t) (fun _ s => s) (fun _ => -1) 0 nt ()
theorem ft_ok {nt : Nat} {g : Nat → Int32} {wd y : Nat} : ft nt g wd y = -1 ∨ ∃ t, t < nt ∧ ft nt g wd y = nI t ∧ g (43 + t) = 0 := by
  unfold ft
  by_cases ex : ∃ l, l < nt ∧ ftX g wd y l = true ∧ ∀ j, j < l → ftX g wd y j = false
  · obtain ⟨l, l1, l2, l3⟩ := ex
    have := fox_at (ex := fun t (_ : Unit) => ftX g wd y t) (out := fun t _ => nI t) (st := fun _ s => s) (fin := fun _ => (-1 : Int32)) nt 0 () l l1 (fun j hj => by rw [Nat.zero_add]; exact l3 j hj) (by rw [Nat.zero_add]; exact l2)
    rw [this, Nat.zero_add]
    refine Or.inr ⟨l, l1, rfl, ?_⟩
    unfold ftX at l2
    simp only [Bool.and_eq_true, decide_eq_true_eq] at l2
    exact l2.2.1
  · left
    refine fox_no (ex := fun t (_ : Unit) => ftX g wd y t) (out := fun t _ => nI t) (st := fun _ s => s) (fin := fun _ => (-1 : Int32)) nt 0 () (fun j hj => ?_)
    rw [Nat.zero_add]
    induction j using Nat.strongRecOn with
    | ind j ih =>
      cases q : ftX g wd y j
      · rfl
      · exact absurd ⟨j, hj, q, fun i hi => ih i hi (by omega)⟩ ex
def wrk (g : Nat → Int32) (o : Nat) : Bool := !decide (9 ≤ g (73 + o)) && !(clo g).testBit (g (67 + o)).toNatClampNeg
def whoS (nt : Nat) (g : Nat → Int32) (wd o : Nat) : Int32 := if wrk g o then ft nt g wd (g (67 + o)).toNatClampNeg else -1
/-- an officer's turn: the row, the book, those weighed, those busy -/
def ofS (h : PH) (b : Nat) (th : Bool) (o : Nat) (s : (Nat → Int32) × (Nat → Int32) × Nat × Nat) : (Nat → Int32) × (Nat → Int32) × Nat × Nat := if whoS (ntOf h b) s.1 s.2.2.1 o = -1 then s else (wgR h b s.1 (whoS (ntOf h b) s.1 s.2.2.1 o).toNatClampNeg o th, wgB h b s.1 s.2.1 (whoS (ntOf h b) s.1 s.2.2.1 o).toNatClampNeg o th, s.2.2.1 ||| 2 ^ (whoS (ntOf h b) s.1 s.2.2.1 o).toNatClampNeg, s.2.2.2 ||| 2 ^ o)
def wpS (h : PH) (b t : Nat) (g : Nat → Int32) : Nat → Int32 := if g (43 + t) = 0 then upr g (19 + t) (jmin 99 (g (19 + t) + tlv h b g 0 t none)) else g
def rsS (busy o : Nat) (g : Nat → Int32) : Nat → Int32 := if busy.testBit o then g else upr g (73 + o) (jmax 0 (g (73 + o) - 1))
def h1R (h : PH) (b : Nat) (g : Nat → Int32) : Nat → Int32 := fo (shS h b) 0 (nsO h b) g
def h2R (h : PH) (b : Nat) (th : Bool) (g B : Nat → Int32) : (Nat → Int32) × (Nat → Int32) × Nat × Nat := fo (ofS h b th) 0 (noOf h b) (h1R h b g, B, 0, 0)
def h3R (h : PH) (b : Nat) (th : Bool) (g B : Nat → Int32) : Nat → Int32 := fo (wpS h b) 0 (ntOf h b) (h2R h b th g B).1
def h4R (h : PH) (b : Nat) (th : Bool) (g B : Nat → Int32) : Nat → Int32 := fo (rsS (h2R h b th g B).2.2.2) 0 (noOf h b) (h3R h b th g B)
def hrR (h : PH) (b : Nat) (th : Bool) (g B : Nat → Int32) : Nat → Int32 := upr (h4R h b th g B) 0 (h4R h b th g B 0 + 1)
def hrB (h : PH) (b : Nat) (th : Bool) (g B : Nat → Int32) : Nat → Int32 := (h2R h b th g B).2.1
/-- what is told of a shift -/
theorem shi_at {h hh : PH} {b l : Nat} (I : Inv b h) (t : Sn DYN b h hh) (hl : l < nsO h b) : ∃ hr w who, VA (ntOf h b) (noOf h b) w who (gI h (b + 22) (4 * l + 3)) ∧ nsO h b ≤ 16 ∧ gI h (b + 22) (4 * l) = nI hr ∧ gI h (b + 22) (4 * l + 1) = nI w ∧ gI h (b + 22) (4 * l + 2) = nI who ∧ (w ≤ 5 ∧ who ≤ 12 ∧ hr ≤ 999) ∧ f_Row_get (b + 21) (nI l) 0 hh = some (nI hr, hh) ∧ f_Row_get (b + 21) (nI l) 1 hh = some (nI w, hh) ∧ f_Row_get (b + 21) (nI l) 2 hh = some (nI who, hh) ∧ f_Row_get (b + 21) (nI l) 3 hh = some (gI h (b + 22) (4 * l + 3), hh) ∧ gI hh (b + 151) (4 * l) = nI hr ∧ gI hh (b + 151) (4 * l + 1) = nI (dcode w) ∧ gI hh (b + 151) (4 * l + 2) = nI who ∧ ((w = 0 ∨ w = 3) → gI hh (b + 151) (4 * l + 3) = gI h (b + 22) (4 * l + 3)) := by
  obtain ⟨s, cd, c_stat, c_realm, c_book, c_law, c_kin, c_shi, c_roa, c_ord, c_han, c_wei, c_bag, c_pri, c_cnt, c_led, c_yea, c_log, c_rdr, c_msc, c_img⟩ := I
  have K21 : gK h (b + 21) = (0, 6) := s.K 21 (by decide) rfl
  have K22 : gK h (b + 22) = (1, 64) := s.K 22 (by decide) rfl
  have R21_1 : gR h (b + 21) 1 = some (b + 22) := s.R 21 1 rfl
  obtain ⟨⟨hnt, hno⟩, _⟩ := c_realm
  obtain ⟨n, n16, ⟨W0, N2⟩, MM, LL⟩ := c_shi
  have en : nsO h b = n := by unfold nsO; rw [MM, tn_nI (by omega)]
  rw [en] at hl ⊢
  obtain ⟨hr, w, who, a1, a2, a3, a4, a5, a6, a7, a8, a9, a10, a11, a12⟩ := LL l hl
  have c22 : ∀ j, j < 64 → gI hh (b + 22) j = gI h (b + 22) j := fun j hj => t.I (disj_ok (M := U_shi) (by decide) (inL_in (lo := 0) (hi := 64) (by decide) (by omega) hj))
  have c151 : ∀ j, j < 64 → gI hh (b + 151) j = gI h (b + 151) j := fun j hj => t.I (disj_ok (M := U_shi) (by decide) (inL_in (lo := 0) (hi := 64) (by decide) (by omega) hj))
  have gt : ∀ i, i < 4 → f_Row_get (b + 21) (nI l) (nI i) hh = some (gI h (b + 22) (4 * l + i), hh) := fun i hi => by
    have := row_get (w := 4) (l := l) (i := i) (h := hh) (by rw [t.1]; exact K21) (by rw [t.2.1]; exact R21_1) (by rw [t.1]; exact K22) (by rw [t.I (by decide)]; exact W0) (by rw [t.I (by decide)]; exact N2) hl hi (by omega) (by omega) (by omega)
    rw [Nat.mul_comm l 4, c22 _ (by omega)] at this
    exact this
  have g0 : f_Row_get (b + 21) (nI l) 0 hh = some (gI h (b + 22) (4 * l), hh) := gt 0 (by omega)
  have g1 := gt 1 (by omega)
  have g2 := gt 2 (by omega)
  have g3 := gt 3 (by omega)
  rw [a6] at g0
  rw [a8] at g1
  rw [a10] at g2
  have va : VA (ntOf h b) (noOf h b) w who (gI h (b + 22) (4 * l + 3)) := ⟨a2, a3, a4, a5, fun q => by
    obtain ⟨v, v1, v2, v3⟩ := a12 q
    exact ⟨v, v1, v2⟩⟩
  have hwho : who ≤ 12 := by
    have : w ≤ 2 ∨ w = 3 ∨ 4 ≤ w := by omega
    rcases this with q | q | q
    · have := a3 q; omega
    · have := a4 q; omega
    · have := a5 q; omega
  refine ⟨hr, w, who, va, n16, a6, a8, a10, ⟨a2, hwho, a1⟩, g0, g1, g2, g3, by rw [c151 _ (by omega)]; exact a7, by rw [c151 _ (by omega)]; exact a9, by rw [c151 _ (by omega)]; exact a11, fun q => ?_⟩
  obtain ⟨v, v1, v2, v3⟩ := a12 q
  rw [c151 _ (by omega), v3, v2]
theorem actR_v {g : Nat → Int32} {w who : Nat} {v v' : Int32} (h : (w = 0 ∨ w = 3) → v = v') : actR g w who v = actR g w who v' := by
  unfold actR
  by_cases q0 : w = 0
  · rw [if_pos q0, if_pos q0, h (Or.inl q0)]
  · rw [if_neg q0, if_neg q0]
    by_cases q1 : w = 1
    · rw [if_pos q1, if_pos q1]
    · rw [if_neg q1, if_neg q1]
      by_cases q2 : w = 2
      · rw [if_pos q2, if_pos q2]
      · rw [if_neg q2, if_neg q2]
        by_cases q3 : w = 3
        · rw [if_pos q3, if_pos q3, h (Or.inr q3)]
        · rw [if_neg q3, if_neg q3]
theorem shS_RowB {h : PH} {b l hb : Nat} {g : Nat → Int32} (I : Inv b h) (hl : l < nsO h b) (rb : RowB hb (ntOf h b) (noOf h b) g) : RowB hb (ntOf h b) (noOf h b) (shS h b l g) := by
  obtain ⟨hr, w, who, va, _, s0, s1, s2, ⟨w5, w12, h9⟩, _⟩ := shi_at I (Sn.rf (L := DYN)) hl
  obtain ⟨s, cd, c_stat, c_realm, c_book, c_law, c_kin, c_shi, c_roa, c_ord, c_han, c_wei, c_bag, c_pri, c_cnt, c_led, c_yea, c_log, c_rdr, c_msc, c_img⟩ := I
  obtain ⟨⟨hnt, hno⟩, _⟩ := c_realm
  unfold shS
  rw [s1, s2, tn_nI (by omega), tn_nI (by omega)]
  split
  · split
    · exact act_RowB hnt hno rb va
    · exact rb
  · exact rb
theorem cl_h1 {h hh : PH} {b r hb : Nat} {g : Nat → Int32} {thI : Int32} (I : Inv b h) (td : Sn DYN b h hh) (hr : r = 2 ∨ r = 114) (rl : Rl h hh b r g) (rb : RowB hb (ntOf h b) (noOf h b) g) : ∃ h', Sn (RC r) b hh h' ∧ Rl h h' b r (h1R h b g) ∧ RowB hb (ntOf h b) (noOf h b) (h1R h b g) ∧ f_Land_passHour (b + 1) (b + r) thI hh = f_Land_passHour_74 FU (b + 1) (b + r) thI 0 0 0 h' := by
  have I0 := I
  obtain ⟨s, cd, c_stat, c_realm, c_book, c_law, c_kin, c_shi, c_roa, c_ord, c_han, c_wei, c_bag, c_pri, c_cnt, c_led, c_yea, c_log, c_rdr, c_msc, c_img⟩ := I
  have K1 : gK h (b + 1) = (0, 1) := s.K 1 (by decide) rfl
  have K21 : gK h (b + 21) = (0, 6) := s.K 21 (by decide) rfl
  have R1_4 : gR h (b + 1) 4 = some (b + 21) := s.R 1 4 rfl
  obtain ⟨n, n16, ⟨W0, N2⟩, MM, LL⟩ := c_shi
  have en : nsO h b = n := by unfold nsO; rw [MM, tn_nI (by omega)]
  obtain ⟨h', ⟨q1, q2, q3⟩, e⟩ := lpe (fun N i hx (_ : Nat → Int32) => f_Land_passHour_2 N (b + 1) (b + r) thI (nI i) hx) (shS h b) (fun _ g hx => Sn (RC r) b hh hx ∧ Rl h hx b r g ∧ RowB hb (ntOf h b) (noOf h b) g) (nsO h b) (fun _ hx => f_Land_passHour_74 FU (b + 1) (b + r) thI 0 0 0 hx)
    (fun N i hx g hi q => by
      obtain ⟨q1, q2, q3⟩ := q
      have dx : Sn DYN b h hx := td.tr (q1.up (by rcases hr with rfl | rfl <;> decide))
      obtain ⟨hr', w, who, va, _, s0, s1, s2, ⟨w5, w12, h9⟩, g0, g1, g2, g3, _⟩ := shi_at I0 dx hi
      have kk : gK hx (b + 1) = (0, 1) ∧ gK hx (b + 21) = (0, 6) ∧ gK hx (b + r) = (0, 5) := ⟨by rw [dx.1]; exact K1, by rw [dx.1]; exact K21, (RS_r s dx hr).1.1⟩
      have rr : gR hx (b + 1) 4 = some (b + 21) := by rw [dx.2.1]; exact R1_4
      have nn : gI hx (b + 21) 2 = nI n := by rw [dx.I (by decide)]; exact N2
      have e2 : ¬ n ≤ i := by omega
      have f18 : gI hx (b + r) 18 = g 0 := q2.2.2.2.2.2.2.1
      by_cases q : nI hr' = g 0
      · obtain ⟨hy, t', rl', e'⟩ := cl_perform I0 dx hr q2 q3 va
        have es : shS h b i g = if canA g w who then actR g w who (gI h (b + 22) (4 * i + 3)) else g := by
          unfold shS; rw [s0, s1, s2, tn_nI (by omega), tn_nI (by omega), if_pos q]
        rw [es]
        refine ⟨hy, ⟨q1.tr t', rl', ?_⟩, ?_⟩
        · rw [← es]; exact shS_RowB I0 hi q3
        · have q' : (nI hr' = g 0) = True := eq_true q
          rw [f_Land_passHour_2]
          simp (disch := omega) only [↓ob_eq, ob_so, ldI, ldR, ldO, stI, stZ, stR, isO, wrA_n, rdA_n, wrA_l, rdA_l, gK_sI, gR_sI, gX_sI, gN_sI, gK_cp, gR_cp, gX_cp, gN_cp, rtZ_0, rtZ_1, if_true, reduceIte, and_self, true_and, and_true, kk, rr, nn, e2, g0, g1, g2, g3, f18, q', e', nI_le', nI_addL, if_false]
      · have es : shS h b i g = g := by unfold shS; rw [s0, if_neg q]
        rw [es]
        refine ⟨hx, ⟨q1, q2, q3⟩, ?_⟩
        rw [f_Land_passHour_2]
        simp (disch := omega) only [↓ob_eq, ob_so, ldI, ldR, ldO, stI, stZ, stR, isO, wrA_n, rdA_n, wrA_l, rdA_l, gK_sI, gR_sI, gX_sI, gN_sI, gK_cp, gR_cp, gX_cp, gN_cp, rtZ_0, rtZ_1, if_true, reduceIte, and_self, true_and, and_true, kk, rr, nn, e2, g0, f18, q, nI_le', nI_addL, if_false])
    (fun N hx g q => by
      obtain ⟨q1, q2, q3⟩ := q
      have dx : Sn DYN b h hx := td.tr (q1.up (by rcases hr with rfl | rfl <;> decide))
      have kk : gK hx (b + 1) = (0, 1) ∧ gK hx (b + 21) = (0, 6) := ⟨by rw [dx.1]; exact K1, by rw [dx.1]; exact K21⟩
      have rr : gR hx (b + 1) 4 = some (b + 21) := by rw [dx.2.1]; exact R1_4
      have nn : gI hx (b + 21) 2 = nI n := by rw [dx.I (by decide)]; exact N2
      rw [en, f_Land_passHour_2]
      simp (disch := omega) only [↓ob_eq, ob_so, ldI, ldR, ldO, stI, stZ, stR, isO, wrA_n, rdA_n, wrA_l, rdA_l, gK_sI, gR_sI, gX_sI, gN_sI, gK_cp, gR_cp, gX_cp, gN_cp, rtZ_0, rtZ_1, if_true, reduceIte, and_self, true_and, and_true, kk, rr, nn, nI_le', Nat.le_refl])
    (nsO h b) 0 hh g FU (by omega) ⟨Sn.rf, rl, rb⟩ (by rw [FU_eq]; omega)
  refine ⟨h', q1, q2, q3, ?_⟩
  rw [nI_0] at e
  exact e
theorem oc_bits {x t : Nat} (wd : Nat) (hx : x < 4096) (hw : wd < 4096) (ht : t < 12) : (jshr (nI x ||| nI wd) (nI t) &&& 1 = 0) ↔ (x.testBit t = false ∧ wd.testBit t = false) := by
  rw [fa_or]
  have hb : x ||| wd < 4096 := Nat.or_lt_two_pow (n := 12) hx hw
  rw [jbit0 (by omega) (by omega), Nat.testBit_or]
  simp
theorem cl_first {h hh : PH} {b r y wd hb : Nat} {g : Nat → Int32} (I : Inv b h) (td : Sn DYN b h hh) (hr : r = 2 ∨ r = 114) (rl : Rl h hh b r g) (rb : RowB hb (ntOf h b) (noOf h b) g) (hw : wd < 4096) (hy : y < 4) : f_Realm_firstAt (b + r) (nI y) (nI wd) hh = some (ft (ntOf h b) g wd y, hh) := by
  obtain ⟨s, cd, c_stat, c_realm, c_book, c_law, c_kin, c_shi, c_roa, c_ord, c_han, c_wei, c_bag, c_pri, c_cnt, c_led, c_yea, c_log, c_rdr, c_msc, c_img⟩ := I
  obtain ⟨⟨hnt, hno⟩, _⟩ := c_realm
  obtain ⟨⟨k0, k1, k2, k3, k4, k5, k6, k7, k8, k9⟩, q2, q3, q4, q5, q6, q10, q11, q12, q13⟩ := RS_r s td hr
  obtain ⟨F1, F9, F0, F15, F16, F17, F18, F19, F14, F7, F8, RT, RO⟩ := rl
  have st : ∀ N t, t < ntOf h b → f_Realm_firstAt_2 (N + 1) (b + r) (nI y) (nI wd) (nI t) hh = if ftX g wd y t then some (nI t, hh) else f_Realm_firstAt_2 N (b + r) (nI y) (nI wd) (nI (t + 1)) hh := fun N t ht => by
    have t12 : t < 12 := by omega
    have e2 : ¬ ntOf h b ≤ t := by omega
    have a5 := (RT t ht).2.2.2.2
    obtain ⟨_, _, ⟨x, x1, x2⟩, x3, _⟩ := rb.2.2.2.1 t ht
    have eq1 : (g (31 + t) - 1 = nI y) ↔ g (31 + t) = nI y + 1 := by
      constructor
      · intro z; rw [← z]; exact (Int32.sub_add_cancel _ _).symm
      · intro z; rw [z]; exact Int32.add_sub_cancel _ _
    have bb := oc_bits (x := bs (ntOf h b) (fun t => g (43 + t) == 1)) (t := t) wd (bs4096 _ hnt) hw t12
    rw [bs_bit, decide_eq_true ht, Bool.true_and] at bb
    rw [f_Realm_firstAt_2]
    unfold ftX
    by_cases z1 : g (31 + t) = nI y + 1
    · have z1' : (g (31 + t) - 1 = nI y) = True := eq_true (eq1.mpr z1)
      by_cases z2 : g (43 + t) = 0 ∧ wd.testBit t = false
      · have jb : (jshr (nI (bs (ntOf h b) (fun t => g (43 + t) == 1)) ||| nI wd) (nI t) &&& 1 = 0) = True := eq_true (bb.mpr ⟨by rw [z2.1]; rfl, z2.2⟩)
        rw [decide_eq_true z1, decide_eq_true z2.1, z2.2]
        simp (disch := omega) only [↓ob_eq, ob_so, ldI, ldR, ldO, stI, stZ, stR, isO, wrA_n, rdA_n, wrA_l, rdA_l, gK_sI, gR_sI, gX_sI, gN_sI, gK_cp, gR_cp, gX_cp, gN_cp, rtZ_0, rtZ_1, if_true, reduceIte, and_self, true_and, and_true, k0, k5, q6, F1, F7, t12, e2, a5, z1', jb, nI_le', nI_addL, if_false, Bool.not_false, Bool.and_self]
      · have jb : ¬ (jshr (nI (bs (ntOf h b) (fun t => g (43 + t) == 1)) ||| nI wd) (nI t) &&& 1 = 0) := fun z => by
          have := bb.mp z
          refine z2 ⟨?_, this.2⟩
          rcases x3 with y0 | y1
          · exact y0
          · rw [y1] at this; exact absurd this.1 (by decide)
        have zf : (decide (g (43 + t) = 0) && !wd.testBit t) = false := by
          cases w1 : wd.testBit t
          · have : ¬ g (43 + t) = 0 := fun z => z2 ⟨z, w1⟩
            rw [decide_eq_false this]; rfl
          · simp
        rw [zf, Bool.and_false]
        simp (disch := omega) only [↓ob_eq, ob_so, ldI, ldR, ldO, stI, stZ, stR, isO, wrA_n, rdA_n, wrA_l, rdA_l, gK_sI, gR_sI, gX_sI, gN_sI, gK_cp, gR_cp, gX_cp, gN_cp, rtZ_0, rtZ_1, if_true, reduceIte, and_self, true_and, and_true, k0, k5, q6, F1, F7, t12, e2, a5, z1', jb, nI_le', nI_addL, if_false, Bool.false_eq_true]
    · have z1' : ¬ (g (31 + t) - 1 = nI y) := fun z => z1 (eq1.mp z)
      rw [decide_eq_false z1, Bool.false_and]
      simp (disch := omega) only [↓ob_eq, ob_so, ldI, ldR, ldO, stI, stZ, stR, isO, wrA_n, rdA_n, wrA_l, rdA_l, gK_sI, gR_sI, gX_sI, gN_sI, gK_cp, gR_cp, gX_cp, gN_cp, rtZ_0, rtZ_1, if_true, reduceIte, and_self, true_and, and_true, k0, k5, q6, F1, t12, e2, a5, z1', nI_le', nI_addL, if_false, Bool.false_eq_true]
  have a1 := lpx0 (fun N (_ : Unit) t => f_Realm_firstAt_2 N (b + r) (nI y) (nI wd) (nI t) hh) (fun t (_ : Unit) => ftX g wd y t) (fun t _ => some (nI t, hh)) (fun _ s => s) (ntOf h b) (fun _ => some ((-1 : Int32), hh)) () FU (by rw [FU_eq]; omega) (fun N t _ ht w => by
      show f_Realm_firstAt_2 (N + 1) (b + r) (nI y) (nI wd) (nI t) hh = some (nI t, hh)
      rw [st N t ht, if_pos w]) (fun N t _ ht w => by
      show f_Realm_firstAt_2 (N + 1) (b + r) (nI y) (nI wd) (nI t) hh = f_Realm_firstAt_2 N (b + r) (nI y) (nI wd) (nI (t + 1)) hh
      rw [st N t ht, w, if_neg (by decide)]) (fun N _ => by
      show f_Realm_firstAt_2 (N + 1) (b + r) (nI y) (nI wd) (nI (ntOf h b)) hh = some ((-1 : Int32), hh)
      rw [f_Realm_firstAt_2]
      simp (disch := omega) only [↓ob_eq, ob_so, ldI, ldR, ldO, stI, stZ, stR, isO, wrA_n, rdA_n, wrA_l, rdA_l, gK_sI, gR_sI, gX_sI, gN_sI, gK_cp, gR_cp, gX_cp, gN_cp, rtZ_0, rtZ_1, if_true, reduceIte, and_self, true_and, and_true, k0, F1, nI_le', Nat.le_refl])
  exact a1.trans (fox_via (fun r q => r = some (q, hh)) (ntOf h b) 0 () (fun _ _ _ _ => rfl) (fun _ => rfl))
theorem mo_next {h hh : PH} {b y wd hb : Nat} {g : Nat → Int32} (I : Inv b h) (td : Sn DYN b h hh) (rw' : Rw hh b g) (rb : RowB hb (ntOf h b) (noOf h b) g) (hw : wd < 4096) (hy : y < 4) : f_Mo_nextAt (b + 131) (nI y) (nI wd) hh = some (ft (ntOf h b) g wd y, hh) := by
  obtain ⟨s, cd, c_stat, c_realm, c_book, c_law, c_kin, c_shi, c_roa, c_ord, c_han, c_wei, c_bag, c_pri, c_cnt, c_led, c_yea, c_log, c_rdr, c_msc, c_img⟩ := I
  have K131 : gK h (b + 131) = (0, 9) := s.K 131 (by decide) rfl
  have K132 : gK h (b + 132) = (1, 79) := s.K 132 (by decide) rfl
  have R131_1 : gR h (b + 131) 1 = some (b + 132) := s.R 131 1 rfl
  obtain ⟨⟨hnt, hno⟩, _⟩ := c_realm
  have k131 : gK hh (b + 131) = (0, 9) := by rw [td.1]; exact K131
  have k132 : gK hh (b + 132) = (1, 79) := by rw [td.1]; exact K132
  have p1 : gR hh (b + 131) 1 = some (b + 132) := by rw [td.2.1]; exact R131_1
  have n6 : gI hh (b + 131) 6 = nI (ntOf h b) := by rw [td.I (by decide)]; exact c_stat.1
  have st : ∀ N t, t < ntOf h b → f_Mo_nextAt_2 (N + 1) (b + 131) (nI y) (nI wd) (nI t) hh = if ftX g wd y t then some (nI t, hh) else f_Mo_nextAt_2 N (b + 131) (nI y) (nI wd) (nI (t + 1)) hh := fun N t ht => by
    have e2 : ¬ ntOf h b ≤ t := by omega
    have a31 : 31 + t < 79 := by omega
    have a43 : 43 + t < 79 := by omega
    have g31 : gI hh (b + 132) (31 + t) = g (31 + t) := rw' _ a31
    have g43 : gI hh (b + 132) (43 + t) = g (43 + t) := rw' _ a43
    have hh' := mo_has (a := b + 131) (n := wd) (k := t) (h := hh) (by omega) (by omega)
    have e10 : ¬ (1 : Int32) = 0 := by decide
    have ey : nI y + 1 = nI (y + 1) := nI_addL (n := 1) y
    rw [f_Mo_nextAt_2]
    unfold ftX
    rw [ey]
    by_cases z1 : g (31 + t) = nI (y + 1)
    · have z1' : (g (31 + t) = nI (y + 1)) = True := eq_true z1
      rw [decide_eq_true z1]
      by_cases z2 : g (43 + t) = 0
      · have z2' : (g (43 + t) = 0) = True := eq_true z2
        rw [decide_eq_true z2]
        cases w1 : wd.testBit t
        · rw [w1] at hh'
          have hh' : f_Mo_has (b + 131) (nI wd) (nI t) hh = some (0, hh) := hh'
          simp (disch := omega) only [↓ob_eq, ob_so, ldI, ldR, ldO, stI, stZ, stR, isO, wrA_n, rdA_n, wrA_l, rdA_l, gK_sI, gR_sI, gX_sI, gN_sI, gK_cp, gR_cp, gX_cp, gN_cp, rtZ_0, rtZ_1, if_true, reduceIte, and_self, true_and, and_true, k131, k132, p1, n6, e2, a31, a43, g31, g43, z1', z2', hh', L_addn, nI_le', if_false, Bool.not_false, Bool.and_self]
        · rw [w1] at hh'
          have hh' : f_Mo_has (b + 131) (nI wd) (nI t) hh = some (1, hh) := hh'
          simp (disch := omega) only [↓ob_eq, ob_so, ldI, ldR, ldO, stI, stZ, stR, isO, wrA_n, rdA_n, wrA_l, rdA_l, gK_sI, gR_sI, gX_sI, gN_sI, gK_cp, gR_cp, gX_cp, gN_cp, rtZ_0, rtZ_1, if_true, reduceIte, and_self, true_and, and_true, k131, k132, p1, n6, e2, a31, a43, g31, g43, z1', z2', hh', e10, L_addn, nI_le', nI_addL, if_false, Bool.not_true, Bool.and_false, Bool.false_eq_true]
      · rw [decide_eq_false z2]
        simp (disch := omega) only [↓ob_eq, ob_so, ldI, ldR, ldO, stI, stZ, stR, isO, wrA_n, rdA_n, wrA_l, rdA_l, gK_sI, gR_sI, gX_sI, gN_sI, gK_cp, gR_cp, gX_cp, gN_cp, rtZ_0, rtZ_1, if_true, reduceIte, and_self, true_and, and_true, k131, k132, p1, n6, e2, a31, a43, g31, g43, z1', z2, L_addn, nI_le', nI_addL, if_false, Bool.false_and, Bool.and_false, Bool.false_eq_true]
    · rw [decide_eq_false z1, Bool.false_and]
      simp (disch := omega) only [↓ob_eq, ob_so, ldI, ldR, ldO, stI, stZ, stR, isO, wrA_n, rdA_n, wrA_l, rdA_l, gK_sI, gR_sI, gX_sI, gN_sI, gK_cp, gR_cp, gX_cp, gN_cp, rtZ_0, rtZ_1, if_true, reduceIte, and_self, true_and, and_true, k131, k132, p1, n6, e2, a31, g31, z1, L_addn, nI_le', nI_addL, if_false, Bool.false_eq_true]
  have a1 := lpx0 (fun N (_ : Unit) t => f_Mo_nextAt_2 N (b + 131) (nI y) (nI wd) (nI t) hh) (fun t (_ : Unit) => ftX g wd y t) (fun t _ => some (nI t, hh)) (fun _ s => s) (ntOf h b) (fun _ => some ((-1 : Int32), hh)) () FU (by rw [FU_eq]; omega) (fun N t _ ht w => by
      show f_Mo_nextAt_2 (N + 1) (b + 131) (nI y) (nI wd) (nI t) hh = some (nI t, hh)
      rw [st N t ht, if_pos w]) (fun N t _ ht w => by
      show f_Mo_nextAt_2 (N + 1) (b + 131) (nI y) (nI wd) (nI t) hh = f_Mo_nextAt_2 N (b + 131) (nI y) (nI wd) (nI (t + 1)) hh
      rw [st N t ht, w, if_neg (by decide)]) (fun N _ => by
      show f_Mo_nextAt_2 (N + 1) (b + 131) (nI y) (nI wd) (nI (ntOf h b)) hh = some ((-1 : Int32), hh)
      rw [f_Mo_nextAt_2]
      simp (disch := omega) only [↓ob_eq, ob_so, ldI, ldR, ldO, stI, stZ, stR, isO, wrA_n, rdA_n, wrA_l, rdA_l, gK_sI, gR_sI, gX_sI, gN_sI, gK_cp, gR_cp, gX_cp, gN_cp, rtZ_0, rtZ_1, if_true, reduceIte, and_self, true_and, and_true, k131, n6, nI_le', Nat.le_refl])
  exact a1.trans (fox_via (fun r q => r = some (q, hh)) (ntOf h b) 0 () (fun _ _ _ _ => rfl) (fun _ => rfl))
