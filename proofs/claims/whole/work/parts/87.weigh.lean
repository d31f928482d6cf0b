/-! ===== weighing ===== -/
theorem upr_c {g : Nat → Int32} {k l : Nat} {v w : Int32} (h : k ≠ l) : upr (upr g k v) l w = upr (upr g l w) k v := by
  funext j
  unfold upr
  by_cases q1 : j = l
  · by_cases q2 : j = k
    · omega
    · rw [if_pos q1, if_neg q2, if_pos q1]
  · by_cases q2 : j = k
    · rw [if_neg q1, if_pos q2, if_pos q2]
    · rw [if_neg q1, if_neg q2, if_neg q2, if_neg q1]
def bkR (G : Nat → Int32) : Nat → Int32 := if G 2 = 150 then G else upr G 2 (G 2 + 1)
def bkB (G B : Nat → Int32) (what who much : Int32) : Nat → Int32 := if G 2 = 150 then B else upr (upr (upr (upr B (4 * (G 2).toNatClampNeg) (G 0)) (4 * (G 2).toNatClampNeg + 1) what) (4 * (G 2).toNatClampNeg + 2) who) (4 * (G 2).toNatClampNeg + 3) much
/-- an array of the heap is a row -/
def Bk (hh : PH) (a : Nat) (B : Nat → Int32) : Prop := ∀ j, j < 600 → gI hh a j = B j
theorem Bk.put {hh : PH} {a k : Nat} {B : Nat → Int32} {v : Int32} (c : Bk hh a B) : Bk (sI hh a k v) a (upr B k v) := fun j hj => by
  by_cases q : j = k
  · subst q; rw [upr_q, gI_q rfl rfl]
  · rw [upr_n q, gI_n2 q]; exact c j hj
theorem Bk.sn {L : SL} {hh h2 : PH} {b o : Nat} {B : Nat → Int32} (c : Bk hh (b + o) B) (t : Sn L b hh h2) (hd : disj L [(o, 0, 600)] = true) : Bk h2 (b + o) B := fun j hj => by
  rw [t.I (disj_ok hd (inL_in (lo := 0) (hi := 600) (List.mem_singleton.mpr rfl) (by omega) hj))]; exact c j hj
theorem Bk.n1 {hh : PH} {a c k : Nat} {B : Nat → Int32} {v : Int32} (h : Bk hh a B) (hn : a ≠ c) : Bk (sI hh c k v) a B := fun j hj => by rw [gI_n1 hn]; exact h j hj
def WC (r : Nat) : SL := RC r ++ [(12, 0, 600), (17, 0, 10), (18, 0, 32)]
theorem WC_r {r o k : Nat} (h : inL (RC r) o k = true) : inL (WC r) o k = true := by
  unfold WC inL at *
  rw [List.any_append, h, Bool.true_or]
theorem WC_b {r k : Nat} (h : k < 600) : inL (WC r) 12 k = true := by
  unfold WC inL
  rw [List.any_append]
  have : ([(12, 0, 600), (17, 0, 10), (18, 0, 32)] : SL).any (fun q => q.1 == 12 && (decide (q.2.1 ≤ k) && decide (k < q.2.2))) = true := inL_in (L := [(12, 0, 600), (17, 0, 10), (18, 0, 32)]) (o := 12) (lo := 0) (hi := 600) (by decide) (by omega) h
  rw [this, Bool.or_true]
theorem cl_book {h hh : PH} {b r hb : Nat} {G B : Nat → Int32} {what who much : Int32} (I : Inv b h) (t : Sn DYN b h hh) (hr : r = 2 ∨ r = 114) (rl : Rl h hh b r G) (rb : RowB hb (ntOf h b) (noOf h b) G) (bk : Bk hh (b + 12) B) : ∃ h', Sn (WC r) b hh h' ∧ Rl h h' b r (bkR G) ∧ Bk h' (b + 12) (bkB G B what who much) ∧ f_Land_writeBook (b + 1) (b + r) what who much hh = some h' := by
  have I0 := I
  obtain ⟨s, cd, c_stat, c_realm, c_book, c_law, c_kin, c_shi, c_roa, c_ord, c_han, c_wei, c_bag, c_pri, c_cnt, c_led, c_yea, c_log, c_rdr, c_msc, c_img⟩ := I
  have K1 : gK h (b + 1) = (0, 1) := s.K 1 (by decide) rfl
  have K12 : gK h (b + 12) = (1, 600) := s.K 12 (by decide) rfl
  have R1_1 : gR h (b + 1) 1 = some (b + 12) := s.R 1 1 rfl
  have k0 := (RS_r s t hr).1.1
  have k1 : gK hh (b + 1) = (0, 1) := by rw [t.1]; exact K1
  have k12 : gK hh (b + 12) = (1, 600) := by rw [t.1]; exact K12
  have r1 : gR hh (b + 1) 1 = some (b + 12) := by rw [t.2.1]; exact R1_1
  have rl0 := rl
  obtain ⟨F1, F9, F0, F15, F16, F17, F18, F19, F14, F7, F8, RT, RO⟩ := rl
  obtain ⟨l, l1, l2⟩ := rb.2.1
  have f19 : gI hh (b + r) 19 = nI l := by rw [F19]; exact l2
  have m4 : nI l * 4 = nI (4 * l) := by rw [nI_mulL, Nat.mul_comm]
  have e0 : ¬ nI (4 * l) < 0 := nI_pos (by omega)
  unfold bkR bkB
  by_cases q : l = 150
  · have qg : G 2 = 150 := by rw [l2, q]; rfl
    have e1 : ¬ nI (4 * l + 4) ≤ nI 600 := fun z => by
      have := (nI_le' (by omega) (by omega)).mp z
      omega
    rw [if_pos qg, if_pos qg]
    refine ⟨hh, Sn.rf, rl0, bk, ?_⟩
    simp (disch := omega) only [f_Land_writeBook, lnA, ↓ob_eq, ob_so, ldI, ldR, ldO, stI, stZ, stR, isO, wrA_n, rdA_n, wrA_l, rdA_l, gK_sI, gR_sI, gX_sI, gN_sI, gK_cp, gR_cp, gX_cp, gN_cp, rtZ_0, rtZ_1, if_true, reduceIte, and_self, true_and, and_true, k0, k1, k12, r1, f19, m4, e0, e1, nI_addL, if_false]
  · have qg : ¬ G 2 = 150 := fun z => q ((nI_eqL (n := 150) (by omega) (by decide)).mp (by rw [← l2]; exact z))
    have e1 : nI (4 * l + 4) ≤ nI 600 := (nI_le' (by omega) (by omega)).mpr (by omega)
    have gl : (G 2).toNatClampNeg = l := by rw [l2, tn_nI (by omega)]
    rw [if_neg qg, if_neg qg, gl]
    have a0 : 4 * l < 600 := by omega
    have a1 : 4 * l + 1 < 600 := by omega
    have a2 : 4 * l + 2 < 600 := by omega
    have a3 : 4 * l + 3 < 600 := by omega
    have nb : ∀ p : Nat × Nat × Nat, p ∈ ([(12, 0, 600)] : SL) → p.1 < r ∨ r + 10 ≤ p.1 := fun p hp => by
      rw [List.mem_singleton] at hp; rw [hp]; dsimp only; omega
    have tb : Sn [(12, 0, 600)] b hh (sI (sI (sI (sI hh (b + 12) (4 * l) (G 0)) (b + 12) (4 * l + 1) what) (b + 12) (4 * l + 2) who) (b + 12) (4 * l + 3) much) := (((Sn.rf.put 12 _ _ (inL_in (lo := 0) (hi := 600) (by decide) (by omega) a0)).put 12 _ _ (inL_in (lo := 0) (hi := 600) (by decide) (by omega) a1)).put 12 _ _ (inL_in (lo := 0) (hi := 600) (by decide) (by omega) a2)).put 12 _ _ (inL_in (lo := 0) (hi := 600) (by decide) (by omega) a3)
    have rl1 := rl0.sn I0 tb nb
    have rl2 := rl1.lines (w := G 2 + 1) I0 hr
    have tw : Sn (WC r) b hh (sI (sI (sI (sI hh (b + 12) (4 * l) (G 0)) (b + 12) (4 * l + 1) what) (b + 12) (4 * l + 2) who) (b + 12) (4 * l + 3) much) := (((Sn.rf.put 12 _ _ (WC_b a0)).put 12 _ _ (WC_b a1)).put 12 _ _ (WC_b a2)).put 12 _ _ (WC_b a3)
    refine ⟨_, tw.put r 19 (G 2 + 1) (WC_r (RC_0 (by omega))), rl2, (((bk.put.put).put).put).n1 (by omega), ?_⟩
    have N : ∀ (H : PH) k v j, gI (sI H (b + 12) k v) (b + r) j = gI H (b + r) j := fun H k v j => gI_n1 (by omega)
    simp (disch := omega) only [f_Land_writeBook, lnA, ↓ob_eq, ob_so, ldI, ldR, ldO, stI, stZ, stR, isO, wrA_n, rdA_n, wrA_l, rdA_l, gK_sI, gR_sI, gX_sI, gN_sI, gK_cp, gR_cp, gX_cp, gN_cp, rtZ_0, rtZ_1, if_true, reduceIte, and_self, true_and, and_true, k0, k1, k12, r1, f19, F18, m4, e0, e1, N, a0, a1, a2, a3, nI_addL, l2, if_false]
/-! what a weighing does to a row -/
def wF (h : PH) (b : Nat) (g : Nat → Int32) (t o : Nat) : Int32 := tlv h b g 2 t (some o)
def wR (h : PH) (b : Nat) (g : Nat → Int32) (t o : Nat) : Int32 := tlv h b g 1 t (some o)
def dS (g : Nat → Int32) : Int32 := g 1 * 1664525 + 1013904223
def fnd (h : PH) (b : Nat) (g : Nat → Int32) (t o : Nat) (th : Bool) : Bool := if th then !decide (wF h b g t o < 500) else !decide (wF h b g t o ≤ jrem (jush (dS g) 8) 1000)
def chg (h : PH) (b : Nat) (g : Nat → Int32) (t o : Nat) (th : Bool) : Int32 := if fnd h b g t o th then wR h b g t o * g (19 + t) else 0
def bnd (h : PH) (b : Nat) (g : Nat → Int32) (t o : Nat) (th : Bool) : Bool := !decide (chg h b g t o th ≤ g (7 + t))
def pay (h : PH) (b : Nat) (g : Nat → Int32) (t o : Nat) (th : Bool) : Int32 := if bnd h b g t o th then g (7 + t) else chg h b g t o th
def wd1 (g : Nat → Int32) (th : Bool) : Nat → Int32 := if th then g else upr g 1 (dS g)
def wh (h : PH) (b : Nat) (g : Nat → Int32) (t o : Nat) (th : Bool) : Nat := if fnd h b g t o th then 4 else 5
def wd3 (h : PH) (b : Nat) (g : Nat → Int32) (t o : Nat) (th : Bool) : Nat → Int32 := upr (upr (upr (wd1 g th) (wh h b g t o th) (g (wh h b g t o th) + g (19 + t))) (7 + t) (g (7 + t) - pay h b g t o th)) 3 (g 3 + pay h b g t o th)
def wd4 (h : PH) (b : Nat) (g : Nat → Int32) (t o : Nat) (th : Bool) : Nat → Int32 := if bnd h b g t o th then upr (wd3 h b g t o th) (55 + t) 1 else upr (upr (upr (wd3 h b g t o th) (55 + t) 0) (43 + t) 1) (31 + t) 0
def wd6 (h : PH) (b : Nat) (g : Nat → Int32) (t o : Nat) (th : Bool) : Nat → Int32 := upr (upr (wd4 h b g t o th) (19 + t) 0) (73 + o) (jmin 9 (g (73 + o) + 1))
def wgR (h : PH) (b : Nat) (g : Nat → Int32) (t o : Nat) (th : Bool) : Nat → Int32 := if th then wd6 h b g t o th else bkR (wd6 h b g t o th)
def unc (h : PH) (b : Nat) (g : Nat → Int32) (t o : Nat) (th : Bool) : Bool := !bnd h b g t o th && (decide (chg h b g t o th = 0) && !decide (g (19 + t) ≤ 0))
def wgB (h : PH) (b : Nat) (g B : Nat → Int32) (t o : Nat) (th : Bool) : Nat → Int32 := if th then B else bkB (wd6 h b g t o th) B (if bnd h b g t o th then 1 else if unc h b g t o th then 2 else 0) (nI t) (if unc h b g t o th then g (19 + t) else pay h b g t o th)
theorem wd_at {h : PH} {b : Nat} {g : Nat → Int32} {t o : Nat} {th : Bool} (ht : t < 12) (ho : o < 6) : wd6 h b g t o th 0 = g 0 ∧ wd6 h b g t o th 2 = g 2 ∧ wd4 h b g t o th (73 + o) = g (73 + o) := by
  have e0 : ∀ k, (k = 0 ∨ k = 2 ∨ (67 ≤ k ∧ k < 79)) → wd4 h b g t o th k = g k := fun k hk => by
    have w3 : wd3 h b g t o th k = g k := by
      unfold wd3 wh
      rw [upr_n (by omega), upr_n (by omega)]
      unfold wd1
      cases fnd h b g t o th <;> cases th <;> simp only [if_true, if_false, Bool.false_eq_true] <;> rw [upr_n (by omega)] <;> first | done | rw [upr_n (by omega)]
    unfold wd4
    cases bnd h b g t o th
    · rw [if_neg (by decide), upr_n (by omega), upr_n (by omega), upr_n (by omega)]; exact w3
    · rw [if_pos rfl, upr_n (by omega)]; exact w3
  refine ⟨?_, ?_, e0 (73 + o) (by omega)⟩
  · unfold wd6; rw [upr_n (by omega), upr_n (by omega)]; exact e0 0 (by omega)
  · unfold wd6; rw [upr_n (by omega), upr_n (by omega)]; exact e0 2 (by omega)
theorem wF_bd {h : PH} {b t o : Nat} {g : Nat → Int32} (I : Inv b h) (ht : t < ntOf h b) (ho : o < noOf h b) : (∃ v, v ≤ 1000 ∧ wF h b g t o = nI v) ∧ ∃ v, v ≤ 99 ∧ wR h b g t o = nI v := by
  have hos : ∀ o', some o = some o' → o' < noOf h b := fun o' z => by cases z; exact ho
  refine ⟨?_, ?_⟩
  · obtain ⟨v, v1, v2⟩ := tlv_bd (g := g) (w := 2) I ht hos (by omega)
    exact ⟨v, by simpa using v1, v2⟩
  · obtain ⟨v, v1, v2⟩ := tlv_bd (g := g) (w := 1) I ht hos (by omega)
    exact ⟨v, by simpa using v1, v2⟩
/-- the charge and what is paid are numbers -/
theorem pay_bd {h : PH} {b t o hb : Nat} {g : Nat → Int32} {th : Bool} (I : Inv b h) (ht : t < ntOf h b) (ho : o < noOf h b) (rb : RowB hb (ntOf h b) (noOf h b) g) : ∃ c p x, c ≤ 9801 ∧ chg h b g t o th = nI c ∧ x ≤ 9999 ∧ g (7 + t) = nI x ∧ p ≤ x ∧ pay h b g t o th = nI p ∧ (bnd h b g t o th = true ↔ x < c) := by
  obtain ⟨_, r, r1, r2⟩ := wF_bd (g := g) I ht ho
  obtain ⟨⟨x, x1, x2⟩, ⟨y, y1, y2⟩, _⟩ := rb.2.2.2.1 t ht
  have hc : ∃ c, c ≤ 9801 ∧ chg h b g t o th = nI c := by
    unfold chg
    cases fnd h b g t o th
    · exact ⟨0, by omega, by rw [if_neg (by decide)]; rfl⟩
    · refine ⟨r * y, Nat.mul_le_mul r1 y1, ?_⟩
      rw [if_pos rfl, r2, y2, pk_mul]
  obtain ⟨c, c1, c2⟩ := hc
  have hbn : bnd h b g t o th = true ↔ x < c := by
    unfold bnd
    rw [c2, x2]
    have := nI_le' (m := c) (n := x) (by omega) (by omega)
    simp only [Bool.not_eq_true', decide_eq_false_iff_not, this]
    omega
  refine ⟨c, if x < c then x else c, x, c1, c2, x1, x2, by split <;> omega, ?_, hbn⟩
  unfold pay
  by_cases q : x < c
  · rw [if_pos q, if_pos (hbn.mpr q), x2]
  · rw [if_neg q, if_neg (fun z => q (hbn.mp z)), c2]
theorem wd6_RowB {h : PH} {b t o hb : Nat} {g : Nat → Int32} {th : Bool} (I : Inv b h) (ht : t < ntOf h b) (ho : o < noOf h b) (rb : RowB hb (ntOf h b) (noOf h b) g) : RowB hb (ntOf h b) (noOf h b) (wd6 h b g t o th) := by
  obtain ⟨c, p, x, c1, c2, x1, x2, px, p2, _⟩ := pay_bd (th := th) I ht ho rb
  obtain ⟨s, cd, c_stat, c_realm, c_book, c_law, c_kin, c_shi, c_roa, c_ord, c_han, c_wei, c_bag, c_pri, c_cnt, c_led, c_yea, c_log, c_rdr, c_msc, c_img⟩ := I
  obtain ⟨⟨hnt, hno⟩, _⟩ := c_realm
  have r1 : RowB hb (ntOf h b) (noOf h b) (wd1 g th) := by
    unfold wd1
    cases th
    · rw [if_neg (by decide)]; exact rb.draws hnt hno
    · rw [if_pos rfl]; exact rb
  have r3 : RowB hb (ntOf h b) (noOf h b) (wd3 h b g t o th) := by
    unfold wd3 wh
    have q1 : RowB hb (ntOf h b) (noOf h b) (upr (wd1 g th) (if fnd h b g t o th = true then 4 else 5) (g (if fnd h b g t o th = true then 4 else 5) + g (19 + t))) := by
      cases fnd h b g t o th
      · exact r1.smug hnt hno
      · exact r1.basin hnt hno
    refine (q1.coin hnt hno ht ⟨x - p, by omega, ?_⟩).treas hnt hno
    rw [x2, p2]
    exact pk_sub px
  have r4 : RowB hb (ntOf h b) (noOf h b) (wd4 h b g t o th) := by
    unfold wd4
    cases bnd h b g t o th
    · rw [if_neg (by decide)]
      exact ((r3.bond hnt hno ht (Or.inl rfl)).out hnt hno ht (Or.inr rfl)).at hnt hno ht ⟨0, by omega, rfl⟩
    · rw [if_pos rfl]
      exact r3.bond hnt hno ht (Or.inr rfl)
  obtain ⟨_, z, z1, z2⟩ := rb.2.2.2.2 o ho
  unfold wd6
  refine (r4.wet hnt hno ht ⟨0, by omega, rfl⟩).tired hnt hno ho ⟨Nat.min 9 (z + 1), Nat.min_le_left _ _, ?_⟩
  rw [z2, nI_addL]
  exact jminN (a := 9) (by omega) (by omega)
theorem bkR_RowB {hb nt no : Nat} {g : Nat → Int32} (hnt : nt ≤ 12) (hno : no ≤ 6) (rb : RowB hb nt no g) : RowB hb nt no (bkR g) := by
  unfold bkR
  obtain ⟨l, l1, l2⟩ := rb.2.1
  by_cases q : g 2 = 150
  · rw [if_pos q]; exact rb
  · rw [if_neg q]
    refine rb.lines hnt hno ⟨l + 1, ?_, by rw [l2, nI_addL]⟩
    have : l ≠ 150 := fun z => q (by rw [l2, z]; rfl)
    omega
theorem wgR_RowB {h : PH} {b t o hb : Nat} {g : Nat → Int32} {th : Bool} (I : Inv b h) (ht : t < ntOf h b) (ho : o < noOf h b) (rb : RowB hb (ntOf h b) (noOf h b) g) : RowB hb (ntOf h b) (noOf h b) (wgR h b g t o th) := by
  have r6 := wd6_RowB (th := th) I ht ho rb
  obtain ⟨s, cd, c_stat, c_realm, c_book, c_law, c_kin, c_shi, c_roa, c_ord, c_han, c_wei, c_bag, c_pri, c_cnt, c_led, c_yea, c_log, c_rdr, c_msc, c_img⟩ := I
  obtain ⟨⟨hnt, hno⟩, _⟩ := c_realm
  unfold wgR
  cases th
  · rw [if_neg (by decide)]; exact bkR_RowB hnt hno r6
  · rw [if_pos rfl]; exact r6
