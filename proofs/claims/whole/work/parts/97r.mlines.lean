/-! ===== texts: the reference's lines ===== -/
def HB (hi : Int32) (below : Nat) : Prop := ∀ x : Nat, x ≤ 9999 → (hi < nI x ↔ below ≤ x)
theorem HB_n {m : Nat} (hm : m ≤ 10000) : HB (nI m - 1) m := by
  intro x hx
  cases m with
  | zero => 
    refine ⟨fun _ => Nat.zero_le _, fun _ => ?_⟩
    rw [fa_lt, nI_toInt (by omega), show (nI 0 - 1).toInt = -1 by decide]; omega
  | succ k =>
    rw [show nI (k + 1) - 1 = nI k from nI_subL (n := 1) _ (by show 1 ≤ _; omega), nI_lt' (by omega) (by omega)]
    omega
theorem HB_l {m : Nat} {hi : Int32} (h : hi = nI m) (hm : m ≤ 10000) : HB hi (m + 1) := by
  intro x hx
  rw [h, nI_lt' (by omega) (by omega)]
  omega
def XMN (h0 : PH) (b n : Nat) (B : Nat → Nat) (c i : Nat) (cs : XCS) (r : Except (Nat × Nat) Nat) (x : Option (Int32 × PH)) : Prop := match r with
  | .ok v => ∃ h', x = some (nI v, h') ∧ Sn LMP b h0 h' ∧ XMR h' b n B c i cs ∧ v ≤ 9999
  | .error e => ∃ h', x = some (-1, h') ∧ Sn LMP b h0 h' ∧ XMF h' b n B e
section MLINES
variable {b n c : Nat} {B : Nat → Nat}
theorem XMN.tr {h0 h1 : PH} {i : Nat} {cs : XCS} {r : Except (Nat × Nat) Nat} {x : Option (Int32 × PH)} (t : Sn LMP b h0 h1) (o : XMN h1 b n B c i cs r x) : XMN h0 b n B c i cs r x := by
  cases r with
  | ok p => obtain ⟨h', a1, a2, a3⟩ := o; exact ⟨h', a1, t.tr a2, a3⟩
  | error p => obtain ⟨h', a1, a2, a3⟩ := o; exact ⟨h', a1, t.tr a2, a3⟩
theorem mo_num {h : PH} {i below : Nat} {cs : XCS} {hi : Int32} (C : XMR h b n B c i cs) (hb : HB hi below) : XMN h b n B c (i + 1) cs (nmS (tkA B n) below none i) (f_Mo_readNumber (b + 131) 0 hi h) := by
  have K := C.K
  unfold f_Mo_readNumber nmS
  rw [ldI_y K, bind_some']
  by_cases q : isNm (tkA B n i) = true
  · obtain ⟨x, x1, x2⟩ := isNm_g q
    have tn : (tkA B n i).toNatClampNeg = x := by rw [x2]; exact tn_nI (by omega)
    rw [if_pos q, if_pos (C.num.1.mpr q), ldI_y K, bind_some', isO_y K, bind_some', C.num.2 q, tn, x2]
    have ii : f_Mo_isIn (b + 131) (nI x) 0 hi h = some (bI (!decide (below ≤ x)), h) := by
      unfold f_Mo_isIn
      rw [if_neg (nI_pos (by omega))]
      by_cases z : below ≤ x
      · rw [if_pos ((hb x x1).mpr z), rtZ_0, show (!decide (below ≤ x)) = false by simp [z]]; rfl
      · rw [if_neg (fun y => z ((hb x x1).mp y)), rtZ_1, show (!decide (below ≤ x)) = true by simp [z]]; rfl
    rw [ii, bind_some']
    dsimp only
    by_cases z : below ≤ x
    · rw [if_pos (Or.inl z), show (!decide (below ≤ x)) = false by simp [z], if_pos (show bI false = 0 from rfl), isO_y K, bind_some']
      exact C.err rfl
    · rw [if_neg (by rintro (y | y); exact z y; cases y), show (!decide (below ≤ x)) = true by simp [z], if_neg (show ¬ bI true = 0 by decide), ldI_y K, bind_some', C.num.2 q, x2, isO_y K, bind_some']
      obtain ⟨h2, a1, a2, a3⟩ := mo_adv C (C.lt (by rw [x2]; exact nI_ne_m1 (by omega)))
      rw [a1, bind_some']
      exact ⟨h2, rfl, a2, a3, x1⟩
  · rw [if_neg q, if_neg (fun z => q (C.num.1.mp z)), isO_y K, bind_some']
    exact C.err rfl
theorem mo_told {h : PH} {i below : Nat} {cs : XCS} {hi : Int32} (C : XMR h b n B c i cs) (hb : HB hi below) (w : Nat) (hw : w < 29) {x t : Int32} (hx : x = nI (prm w)) (ht : t = nI (20000 + w)) : XMN h b n B c (i + 2) cs (if tkA B n i = t then nmS (tkA B n) below none (i + 1) else .error (1, i)) (f_Mo_readTold (b + 131) x 0 hi h) := by
  have K := C.K
  unfold f_Mo_readTold
  rw [isO_y K, bind_some', mo_isW C w hw hx ht, bind_some']
  dsimp only
  by_cases q : tkA B n i = t
  · rw [if_pos q, if_neg (bI_t q), isO_y K, bind_some']
    obtain ⟨h2, a1, a2, a3⟩ := mo_adv C (C.lt (by rw [q, ht]; exact nI_ne_m1 (by omega)))
    rw [a1, bind_some', isO_y a3.K, bind_some']
    have u := mo_num a3 hb
    cases e : nmS (tkA B n) below none (i + 1) with
    | error er =>
      rw [e] at u
      obtain ⟨h3, u1, u2, u3⟩ := u
      rw [u1, bind_some']
      exact ⟨h3, rfl, a2.tr u2, u3⟩
    | ok v =>
      rw [e] at u
      obtain ⟨h3, u1, u2, u3⟩ := u
      rw [u1, bind_some']
      exact ⟨h3, rfl, a2.tr u2, u3⟩
  · rw [if_neg q, if_pos (bI_f q), isO_y K, bind_some']
    exact C.err rfl
theorem mo_mark {h : PH} {i : Nat} {cs : XCS} (C : XMR h b n B c i cs) : XMO h b n B c (if tkA B n i = 10059 then .ok (i + 1, cs) else .error (1, i)) (f_Mo_readMark (b + 131) 59 h) := by
  have K := C.K
  unfold f_Mo_readMark
  rw [isO_y K, bind_some', mo_isS C 59 (by decide) (by omega) (x := 59) (t := 10059) rfl rfl, bind_some']
  dsimp only
  by_cases q : tkA B n i = 10059
  · rw [if_pos q, if_neg (bI_t q), isO_y K, bind_some']
    obtain ⟨h2, a1, a2, a3⟩ := mo_adv C (C.lt (by rw [q]; decide))
    rw [a1, bind_some']
    exact ⟨h2, rfl, a2, a3⟩
  · rw [if_neg q, if_pos (bI_f q), isO_y K, bind_some']
    exact C.err rfl
theorem XMR.end0 {h : PH} {i : Nat} {cs : XCS} (C : XMR h b n B c i cs) : gI h (b + 131) 17 = 0 ↔ tkA B n i = -1 := by
  rcases C.tk with ⟨z, y⟩ | ⟨z, y⟩ | ⟨x, x1, z, y, v⟩ | ⟨x, x1, z, y⟩ | ⟨x, x1, z, y, v⟩
  · rw [z, y]; decide
  · rw [z, y]; decide
  · rw [z, y]; exact ⟨fun q => absurd q (by decide), fun q => absurd q (nI_ne_m1 (by omega))⟩
  · rw [z]
    rcases y with ⟨-, y, -⟩ | ⟨-, y⟩
    · rw [y]; exact ⟨fun q => absurd q (by decide), fun q => absurd q (nI_ne_m1 (by omega))⟩
    · rw [y]; exact ⟨fun q => absurd q (by decide), fun q => absurd q (nI_ne_m1 (by omega))⟩
  · rw [z, y]; exact ⟨fun q => absurd q (by decide), fun q => absurd q (nI_ne_m1 (by omega))⟩
theorem prm_l : ∀ w : Fin 29, prm w.val ≤ 2 ↔ w.val ≤ 2 := by decide
theorem prm_l2 : ∀ w : Fin 29, w.val ≤ 2 → prm w.val = w.val := by decide
theorem mo_isLine {h : PH} {i : Nat} {cs : XCS} (C : XMR h b n B c i cs) : f_Mo_isLineWord (b + 131) h = some (bI (decide (tkA B n i = 20000 ∨ tkA B n i = 20001 ∨ tkA B n i = 20002)), h) ∧ ((tkA B n i = 20000 ∨ tkA B n i = 20001 ∨ tkA B n i = 20002) → gI h (b + 131) 18 = nI ((tkA B n i).toNatClampNeg - 20000)) := by
  have K := C.K
  have gen : ∀ x : Nat, x < 100000 → ((nI x = 20000 ∨ nI x = 20001 ∨ nI x = 20002) ↔ (x = 20000 ∨ x = 20001 ∨ x = 20002)) := by
    intro x hx
    have z0 : nI x = 20000 ↔ x = 20000 := nI_eqL (n := 20000) (by omega) (by decide)
    have z1 : nI x = 20001 ↔ x = 20001 := nI_eqL (n := 20001) (by omega) (by decide)
    have z2 : nI x = 20002 ↔ x = 20002 := nI_eqL (n := 20002) (by omega) (by decide)
    rw [z0, z1, z2]
  have no : gI h (b + 131) 17 ≠ 2 → ¬ (tkA B n i = 20000 ∨ tkA B n i = 20001 ∨ tkA B n i = 20002) → f_Mo_isLineWord (b + 131) h = some (bI (decide (tkA B n i = 20000 ∨ tkA B n i = 20001 ∨ tkA B n i = 20002)), h) ∧ ((tkA B n i = 20000 ∨ tkA B n i = 20001 ∨ tkA B n i = 20002) → gI h (b + 131) 18 = nI ((tkA B n i).toNatClampNeg - 20000)) := by
    intro q1 q2
    refine ⟨?_, fun z => absurd z q2⟩
    unfold f_Mo_isLineWord
    rw [ldI_y K, bind_some', if_neg q1, rtZ_0, bI_f q2]
  rcases C.tk with ⟨z, y⟩ | ⟨z, y⟩ | ⟨x, x1, z, y, v⟩ | ⟨x, x1, z, y⟩ | ⟨x, x1, z, y, v⟩
  · exact no (by rw [y]; decide) (by rw [z]; decide)
  · exact no (by rw [y]; decide) (by rw [z]; decide)
  · exact no (by rw [y]; decide) (by rw [z, gen x (by omega)]; omega)
  · refine no ?_ (by rw [z, gen _ (by omega)]; omega)
    rcases y with ⟨-, y, -⟩ | ⟨-, y⟩ <;> rw [y] <;> decide
  · have p1 : prm x < 29 := prm_lt ⟨x, x1⟩
    have p2 : prm x ≤ 2 ↔ x ≤ 2 := prm_l ⟨x, x1⟩
    have e1 : f_Mo_isIn (b + 131) (nI (prm x)) 0 2 h = _ := mo_in (x := prm x) (lo := 0) (hi := 2) (by omega) (by omega) (by omega) (b + 131) h
    refine ⟨?_, fun q => ?_⟩
    · unfold f_Mo_isLineWord
      rw [ldI_y K, bind_some', if_pos y, ldI_y K, bind_some', isO_y K, bind_some', v, e1, bind_some', z]
      dsimp only
      by_cases q : x ≤ 2
      · rw [show (decide (0 ≤ prm x) && decide (prm x ≤ 2)) = true by simp; exact p2.mpr q, if_neg (show ¬ bI true = 0 by decide), rtZ_1, show decide (nI (20000 + x) = 20000 ∨ nI (20000 + x) = 20001 ∨ nI (20000 + x) = 20002) = true by
          rw [decide_eq_true_eq, gen _ (by omega)]; omega]; rfl
      · rw [show (decide (0 ≤ prm x) && decide (prm x ≤ 2)) = false by simp; omega, if_pos (show bI false = 0 from rfl), rtZ_0, show decide (nI (20000 + x) = 20000 ∨ nI (20000 + x) = 20001 ∨ nI (20000 + x) = 20002) = false by
          rw [decide_eq_false_iff_not, gen _ (by omega)]; omega]; rfl
    · rw [z, gen _ (by omega)] at q
      have q2 : x ≤ 2 := by omega
      have p3 : prm x = x := prm_l2 ⟨x, x1⟩ q2
      rw [v, p3, z, tn_nI (by omega), show 20000 + x - 20000 = x by omega]
end MLINES
def LML : SL := [(131, 15, 19), (131, 28, 29), (131, 32, 34), (147, 800, 1200), (148, 800, 1200), (131, 29, 30), (131, 31, 32), (149, 0, 40), (143, 32, 48), (144, 32, 48), (145, 32, 48), (146, 32, 48)]
/-- the reference reads lines of a law -/
def XML (h : PH) (b n : Nat) (B : Nat → Nat) (c i : Nat) (cs : XCS) (ls : XLS) : Prop := XMR h b n B c i cs ∧ gI h (b + 131) 29 = 0 ∧ ls.length ≤ 16 ∧ cs.length ≤ i ∧ ∀ l, l < ls.length → gI h (b + 143) (32 + l) = nI (ls.getD l nL).1 ∧ gI h (b + 144) (32 + l) = nI (ls.getD l nL).2.1 ∧ gI h (b + 145) (32 + l) = nI (ls.getD l nL).2.2.1 ∧ gI h (b + 146) (32 + l) = nI (ls.getD l nL).2.2.2
def MTO (h0 : PH) (b n : Nat) (B : Nat → Nat) (L : SL) (P : PH → Nat → XCS → XLS → Prop) (r : Except (Nat × Nat) (XCS × XLS)) (x : Option (Int32 × PH)) : Prop := match r with
  | .ok p => ∃ h' i, x = some (nI p.2.length, h') ∧ Sn L b h0 h' ∧ P h' i p.1 p.2
  | .error e => ∃ h', x = some (-1, h') ∧ Sn L b h0 h' ∧ XMF h' b n B e
theorem MTO.tr {h0 h1 : PH} {b n : Nat} {B : Nat → Nat} {L : SL} {P : PH → Nat → XCS → XLS → Prop} {r : Except (Nat × Nat) (XCS × XLS)} {x : Option (Int32 × PH)} (t : Sn L b h0 h1) (o : MTO h1 b n B L P r x) : MTO h0 b n B L P r x := by
  cases r with
  | ok p => obtain ⟨h', i, a1, a2, a3⟩ := o; exact ⟨h', i, a1, t.tr a2, a3⟩
  | error p => obtain ⟨h', a1, a2, a3⟩ := o; exact ⟨h', a1, t.tr a2, a3⟩
theorem lmp_lml {b : Nat} {h h2 : PH} (t : Sn LMP b h h2) : Sn LML b h h2 := t.up (by decide)
theorem lma_lml {b : Nat} {h h2 : PH} (t : Sn LMA b h h2) : Sn LML b h h2 := t.up (by decide)
theorem mo_law {b n c K : Nat} {B : Nat → Nat} (hK : c < K) (hcE : tkA B n c = -1) : ∀ (k N : Nat) (h : PH) (i : Nat) (cs : XCS) (ls : XLS), XML h b n B c i cs ls → 16 < ls.length + k → 16 < ls.length + N → MTO h b n B LML (XML · b n B c) (tlL (tkA B n) (lwS (tkA B n) K) k i cs ls) (f_Mo_readLaw_2 N (b + 131) (nI ls.length) h) := by
  intro k
  induction k with
  | zero => intro N h i cs ls C h1 _; have := C.2.2.1; omega
  | succ k ih =>
    intro N h i cs ls CL hk hN
    obtain ⟨C, h29, l16, hl, dl⟩ := CL
    have hn := C.hn
    have K1 := C.K
    have s := C.1.1
    obtain ⟨M, rfl⟩ : ∃ M, N = M + 1 := ⟨N - 1, by omega⟩
    obtain ⟨il, iv⟩ := mo_isLine C
    rw [f_Mo_readLaw_2, isO_y K1, bind_some', il, bind_some']
    dsimp only
    unfold tlL
    by_cases q : tkA B n i = -1
    · have q2 : ¬ (tkA B n i = 20000 ∨ tkA B n i = 20001 ∨ tkA B n i = 20002) := by rw [q]; decide
      rw [if_pos q, if_pos (bI_f q2), ldI_y K1, bind_some', if_pos (C.end0.mpr q)]
      exact ⟨h, i, rfl, Sn.rf, C, h29, l16, hl, dl⟩
    rw [if_neg q]
    unfold lwS
    by_cases q2 : tkA B n i = 20000 ∨ tkA B n i = 20001 ∨ tkA B n i = 20002
    rotate_left
    · rw [if_pos (bI_f q2), ldI_y K1, bind_some', if_neg (fun z => q (C.end0.mp z)), if_neg q2, isO_y K1, bind_some']
      obtain ⟨h2, u1, u2, u3⟩ := C.err (k := 1) (x := 1) rfl
      exact ⟨h2, u1, lmp_lml u2, u3⟩
    rw [if_neg (bI_t q2), if_pos q2]
    have z16 : nI ls.length = 16 ↔ ls.length = 16 := nI_eqL (n := 16) (by omega) (by decide)
    by_cases q16 : ls.length = 16
    · rw [if_pos (z16.mpr q16), if_pos q16, isO_y K1, bind_some']
      obtain ⟨h2, u1, u2, u3⟩ := C.err (k := 3) (x := 3) rfl
      exact ⟨h2, u1, lmp_lml u2, u3⟩
    rw [if_neg (fun z => q16 (z16.mp z)), if_neg q16]
    have K143 : gK h (b + 143) = (1, 48) := s.K 143 (by decide) rfl
    rw [ldR_y K1 (s.R 131 21 rfl), bind_some', ldI_y K1, bind_some', iv q2, show (32 : Int32) + nI ls.length = nI (32 + ls.length) from L_addn _, wr_at K143 (by omega) (by omega), bind_some']
    generalize hw : (tkA B n i).toNatClampNeg - 20000 = w
    obtain ⟨h1, e1⟩ : ∃ h1, h1 = sI h (b + 143) (32 + ls.length) (nI w) := ⟨_, rfl⟩
    rw [← e1]
    have t1 : Sn [(143, 32, 48)] b h h1 := by rw [e1]; exact Sn.rf.put 143 _ _ (inL_in (lo := 32) (hi := 48) (by decide) (by omega) (by omega))
    have C1 := C.sn t1 (by decide) (by omega)
    obtain ⟨h2, a1, a2, a3⟩ := mo_adv C1 (C1.lt q)
    have hn2 := a3.hn
    have s2 := a3.1.1
    have K144 : gK h2 (b + 144) = (1, 48) := s2.K 144 (by decide) rfl
    rw [isO_y C1.K, bind_some', a1, bind_some', ldR_y a3.K (s2.R 131 22 rfl), bind_some', ldI_y a3.K, bind_some', a3.2.2.2.2.1, wr_at K144 (by omega) (by omega), bind_some']
    obtain ⟨h3, e3⟩ : ∃ h3, h3 = sI h2 (b + 144) (32 + ls.length) (nI cs.length) := ⟨_, rfl⟩
    rw [← e3]
    have t3 : Sn [(144, 32, 48)] b h2 h3 := by rw [e3]; exact Sn.rf.put 144 _ _ (inL_in (lo := 32) (hi := 48) (by decide) (by omega) (by omega))
    have C3 := a3.sn t3 (by decide) (by omega)
    have T3 : Sn LML b h h3 := ((t1.up (by decide)).tr (lmp_lml a2)).tr (t3.up (by decide))
    have u := mo_sum C3 (by omega) hK
    have g := sum_gd hcE (K := K) (i := i + 1) (cs := cs) hn2.2.2
    rw [isO_y C3.K, bind_some']
    cases e : suS (tkA B n) K (i + 1) cs with
    | error er =>
      rw [e] at u
      obtain ⟨h4, u1, u2, u3⟩ := u
      rw [u1, bind_some']
      exact ⟨h4, by rw [if_pos rfl], T3.tr (lmp_lml u2), u3⟩
    | ok r =>
      rw [e] at u g
      obtain ⟨h4, u1, u2, u3⟩ := u
      obtain ⟨g1, g2, v, g3, g4, -⟩ := g
      have hlr : r.2.length ≤ r.1 := by rw [g3, List.length_append]; omega
      have s4 := u3.1.1
      have K145 : gK h4 (b + 145) = (1, 48) := s4.K 145 (by decide) rfl
      rw [u1, bind_some']
      dsimp only
      rw [if_neg n0m, ldR_y u3.K (s4.R 131 23 rfl), bind_some', ldI_y u3.K, bind_some', u3.2.2.2.2.1, wr_at K145 (by omega) (by omega), bind_some']
      obtain ⟨h5, e5⟩ : ∃ h5, h5 = sI h4 (b + 145) (32 + ls.length) (nI r.2.length) := ⟨_, rfl⟩
      rw [← e5]
      have t5 : Sn [(145, 32, 48)] b h4 h5 := by rw [e5]; exact Sn.rf.put 145 _ _ (inL_in (lo := 32) (hi := 48) (by decide) (by omega) (by omega))
      have C5 := u3.sn t5 (by decide) (by omega)
      have T5 : Sn LML b h h5 := (T3.tr (lmp_lml u2)).tr (t5.up (by decide))
      have h29' : gI h5 (b + 131) 29 = 0 := by
        rw [t5.I (by decide), u2.I (by decide), t3.I (by decide), a2.I (by decide), t1.I (by decide)]; exact h29
      have d5 : (∀ l, l < ls.length → gI h5 (b + 143) (32 + l) = nI (ls.getD l nL).1 ∧ gI h5 (b + 144) (32 + l) = nI (ls.getD l nL).2.1 ∧ gI h5 (b + 145) (32 + l) = nI (ls.getD l nL).2.2.1 ∧ gI h5 (b + 146) (32 + l) = nI (ls.getD l nL).2.2.2) ∧ gI h5 (b + 143) (32 + ls.length) = nI w ∧ gI h5 (b + 144) (32 + ls.length) = nI cs.length ∧ gI h5 (b + 145) (32 + ls.length) = nI r.2.length := by
        have x3 : ∀ j, gI h5 (b + 143) j = gI h1 (b + 143) j := fun j => by
          rw [t5.I (by simp [inL]), u2.I (by simp [inL, LMP]), t3.I (by simp [inL]), a2.I (by simp [inL, LMP])]
        have x4 : ∀ j, gI h5 (b + 144) j = gI h3 (b + 144) j := fun j => by
          rw [t5.I (by simp [inL]), u2.I (by simp [inL, LMP])]
        have y4 : ∀ j, gI h2 (b + 144) j = gI h (b + 144) j := fun j => by
          rw [a2.I (by simp [inL, LMP]), t1.I (by simp [inL])]
        have y5 : ∀ j, gI h4 (b + 145) j = gI h (b + 145) j := fun j => by
          rw [u2.I (by simp [inL, LMP]), t3.I (by simp [inL]), a2.I (by simp [inL, LMP]), t1.I (by simp [inL])]
        have y6 : ∀ j, gI h5 (b + 146) j = gI h (b + 146) j := fun j => by
          rw [t5.I (by simp [inL]), u2.I (by simp [inL, LMP]), t3.I (by simp [inL]), a2.I (by simp [inL, LMP]), t1.I (by simp [inL])]
        refine ⟨fun l hl2 => ?_, ?_, ?_, ?_⟩
        · obtain ⟨z1, z2, z3, z4⟩ := dl l hl2
          refine ⟨?_, ?_, ?_, ?_⟩
          · rw [x3, e1, gI_n2 (by omega)]; exact z1
          · rw [x4, e3, gI_n2 (by omega), y4]; exact z2
          · rw [e5, gI_n2 (by omega), y5]; exact z3
          · rw [y6]; exact z4
        · rw [x3, e1, gI_q rfl rfl]
        · rw [x4, e3, gI_q rfl rfl]
        · rw [e5, gI_q rfl rfl]
      obtain ⟨d5, d51, d52, d53⟩ := d5
      have fin : ∀ (h6 : PH) (q : Nat × XCS), Sn LMA b h5 h6 → XMR h6 b n B c q.1 q.2 → gI h6 (b + 131) 29 = 0 → q.2.length ≤ q.1 → MTO h b n B LML (XML · b n B c) (match (if tkA B n q.1 = 10059 then (.ok (q.1 + 1, q.2, ls ++ [(w, cs.length, r.2.length, q.2.length)]) : XLR) else .error (1, q.1)) with | .ok r => tlL (tkA B n) (lwS (tkA B n) K) k r.1 r.2.1 r.2.2 | .error e => .error e) (f_Mo_readLaw_92 (fun a0 x1 h => f_Mo_readLaw_2 M a0 x1 h) (b + 131) (nI ls.length) (nI (32 + ls.length)) h6) := by
        intro h6 q t6 C6 o6 hq
        have hn6 := C6.hn
        have s6 := C6.1.1
        have K146 : gK h6 (b + 146) = (1, 48) := s6.K 146 (by decide) rfl
        unfold f_Mo_readLaw_92
        rw [ldR_y C6.K (s6.R 131 24 rfl), bind_some', ldI_y C6.K, bind_some', C6.2.2.2.2.1, wr_at K146 (by omega) (by omega), bind_some']
        obtain ⟨h7, e7⟩ : ∃ h7, h7 = sI h6 (b + 146) (32 + ls.length) (nI q.2.length) := ⟨_, rfl⟩
        rw [← e7]
        have t7 : Sn [(146, 32, 48)] b h6 h7 := by rw [e7]; exact Sn.rf.put 146 _ _ (inL_in (lo := 32) (hi := 48) (by decide) (by omega) (by omega))
        have C7 := C6.sn t7 (by decide) (by omega)
        have T7 : Sn LML b h h7 := (T5.tr (lma_lml t6)).tr (t7.up (by decide))
        rw [isO_y C7.K, bind_some', mo_isS C7 59 (by decide) (by omega) (x := 59) (t := 10059) rfl rfl, bind_some']
        dsimp only
        by_cases c9 : tkA B n q.1 = 10059
        · obtain ⟨h8, y1, y2, y3⟩ := mo_adv C7 (C7.lt (by rw [c9]; decide))
          rw [if_neg (bI_t c9), if_pos c9, isO_y C7.K, bind_some', y1, bind_some', nI_s]
          dsimp only
          have ll : (ls ++ [(w, cs.length, r.2.length, q.2.length)]).length = ls.length + 1 := by rw [List.length_append]; rfl
          have X8 : XML h8 b n B c (q.1 + 1) q.2 (ls ++ [(w, cs.length, r.2.length, q.2.length)]) := by
            refine ⟨y3, ?_, by rw [ll]; omega, by omega, fun l hl2 => ?_⟩
            · rw [y2.I (by decide), t7.I (by decide)]; exact o6
            · rw [ll] at hl2
              have m3 : ∀ j, gI h8 (b + 143) j = gI h5 (b + 143) j := fun j => by rw [y2.I (by simp [inL, LMP]), t7.I (by simp [inL]), t6.I (by simp [inL, LMA])]
              have m4 : ∀ j, gI h8 (b + 144) j = gI h5 (b + 144) j := fun j => by rw [y2.I (by simp [inL, LMP]), t7.I (by simp [inL]), t6.I (by simp [inL, LMA])]
              have m5 : ∀ j, gI h8 (b + 145) j = gI h5 (b + 145) j := fun j => by rw [y2.I (by simp [inL, LMP]), t7.I (by simp [inL]), t6.I (by simp [inL, LMA])]
              have m6 : ∀ j, gI h8 (b + 146) j = gI h7 (b + 146) j := fun j => by rw [y2.I (by simp [inL, LMP])]
              rw [getD_ap, m3, m4, m5, m6]
              by_cases z : l = ls.length
              · rw [if_pos z, z, e7, gI_q rfl rfl]
                exact ⟨d51, d52, d53, rfl⟩
              · rw [if_neg z, e7, gI_n2 (by omega), t6.I (by simp [inL, LMA])]
                exact d5 l (by omega)
          have fin := ih M h8 (q.1 + 1) q.2 _ X8 (by rw [ll]; omega) (by rw [ll]; omega)
          rw [ll] at fin
          exact MTO.tr (T7.tr (lmp_lml y2)) fin
        · rw [if_pos (bI_f c9), if_neg c9, isO_y C7.K, bind_some']
          obtain ⟨h8, y1, y2, y3⟩ := C7.err (k := 1) (x := 1) rfl
          exact ⟨h8, y1, T7.tr (lmp_lml y2), y3⟩
      rw [isO_y C5.K, bind_some', mo_isW C5 19 (by omega) (x := 3) (t := 20019) rfl rfl, bind_some']
      dsimp only
      by_cases c7 : tkA B n r.1 = 20019
      · rw [if_neg (bI_t c7), if_pos c7, isO_y C5.K, bind_some']
        obtain ⟨h6, y1, y2, y3⟩ := mo_adv C5 (C5.lt (by rw [c7]; decide))
        have hn6 := y3.hn
        rw [y1, bind_some', isO_y y3.K, bind_some']
        have u' := mo_any y3 (by rw [y2.I (by decide)]; exact h29') (by omega) hK
        have g' := cho_gd hcE (K := K) (i := r.1 + 1) (cs := r.2) hn6.2.2
        cases e2 : chS (tkA B n) K 8 (r.1 + 1) r.2 with
        | error er =>
          rw [e2] at u'
          obtain ⟨h7, z1, z2, z3⟩ := u'
          rw [z1, bind_some']
          exact ⟨h7, by rw [if_pos rfl], (T5.tr (lmp_lml y2)).tr (lma_lml z2), z3⟩
        | ok q =>
          rw [e2] at u' g'
          obtain ⟨h7, z1, z2, z3, z4⟩ := u'
          obtain ⟨k1, k2, v', k3, k4, -⟩ := g'
          rw [z1, bind_some']
          dsimp only
          rw [if_neg n0m]
          exact fin h7 q ((lmp_lma y2).tr z2) z3 z4 (by rw [k3, List.length_append]; omega)
      · rw [if_pos (bI_f c7), if_neg c7]
        exact fin h5 r Sn.rf C5 h29' hlr
