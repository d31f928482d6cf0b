/-! ===== texts: the class reads a law ===== -/
theorem i32_sub {t a b : Int32} : t - a = b ↔ t = b + a := by
  constructor
  · intro h
    rw [← h]
    first | exact (Int32.sub_add_cancel t a).symm | simp
  · intro h
    rw [h]
    first | exact Int32.add_sub_cancel b a | simp
def LCP : SL := [(102, 2, 4), (102, 8, 11), (104, 2, 3), (107, 0, 400)]
/-- the class stands at token i, and has written cs -/
def XCR (h : PH) (b n : Nat) (B : Nat → Nat) (c i : Nat) (cs : XCS) : Prop := XRC h b n B ∧ TkC h b n B c ∧ gI h (b + 102) 8 = nI i ∧ gI h (b + 102) 9 = tkA B n i ∧ i ≤ c ∧ gI h (b + 104) 2 = nI cs.length ∧ (gI h (b + 102) 2 = 0 ∧ gI h (b + 102) 3 = -1) ∧ ∀ j, j < cs.length → gI h (b + 107) j = enc (cs.getD j (0, 0)).1 (cs.getD j (0, 0)).2
def XCO (h0 : PH) (b n : Nat) (B : Nat → Nat) (c : Nat) (r : XPR) (x : Option (Int32 × PH)) : Prop := match r with
  | .ok p => ∃ h', x = some (1, h') ∧ Sn LCP b h0 h' ∧ XCR h' b n B c p.1 p.2
  | .error e => ∃ h', x = some (0, h') ∧ Sn LCP b h0 h' ∧ gI h' (b + 102) 2 = nI e.1 ∧ gI h' (b + 102) 3 = nI (psN B n e.2)
theorem XCO.tr {h0 h1 : PH} {b n c : Nat} {B : Nat → Nat} {r : XPR} {x : Option (Int32 × PH)} (t : Sn LCP b h0 h1) (o : XCO h1 b n B c r x) : XCO h0 b n B c r x := by
  cases r with
  | ok p => obtain ⟨h', a1, a2, a3⟩ := o; exact ⟨h', a1, t.tr a2, a3⟩
  | error p => obtain ⟨h', a1, a2, a3⟩ := o; exact ⟨h', a1, t.tr a2, a3⟩
section CREAD
variable {h : PH} {b n c i : Nat} {B : Nat → Nat} {cs : XCS}
theorem XCR.hB (C : XCR h b n B c i cs) : ∀ j, j < 400 → B j ≤ 255 := fun j hj => (C.1.2.2.2 j hj).1
theorem XCR.hn (C : XCR h b n B c i cs) : n ≤ 400 ∧ c ≤ n ∧ i ≤ c := ⟨C.1.2.1, C.2.1.1, C.2.2.2.2.1⟩
theorem XCR.tk (C : XCR h b n B c i cs) (j : Nat) : TkK (tkA B n j) := tkA_k C.1.2.1 C.hB j
theorem XCR.cE (C : XCR h b n B c i cs) : tkA B n c = -1 := by
  unfold tkA
  rw [C.2.1.2.1, if_neg (Nat.lt_irrefl _)]
theorem XCR.ne (C : XCR h b n B c i cs) (hi : i < c) : tkA B n i ≠ -1 := tk_ne C.1.2.1 C.hB (C.2.1.2.2.1 i hi)
theorem XCR.lt (C : XCR h b n B c i cs) (hi : tkA B n i ≠ -1) : i < c := ne_end C.cE rfl hi C.2.2.2.2.1
theorem XCR.K (C : XCR h b n B c i cs) : gK h (b + 102) = (0, 4) ∧ gK h (b + 104) = (0, 2) ∧ gK h (b + 107) = (1, 400) ∧ gK h (b + 112) = (1, 401) ∧ gK h (b + 113) = (1, 401) := by
  obtain ⟨⟨s, -⟩, -⟩ := C
  exact ⟨s.K 102 (by decide) rfl, s.K 104 (by decide) rfl, s.K 107 (by decide) rfl, s.K 112 (by decide) rfl, s.K 113 (by decide) rfl⟩
theorem XCR.R (C : XCR h b n B c i cs) : ldR h 4 (b + 102) 4 = some (b + 104) ∧ ldR h 4 (b + 102) 6 = some (b + 112) ∧ ldR h 4 (b + 102) 7 = some (b + 113) ∧ ldR h 2 (b + 104) 1 = some (b + 107) := by
  have K := C.K
  obtain ⟨⟨s, -⟩, -⟩ := C
  exact ⟨ldR_y K.1 (s.R 102 4 rfl), ldR_y K.1 (s.R 102 6 rfl), ldR_y K.1 (s.R 102 7 rfl), ldR_y K.2.1 (s.R 104 1 rfl)⟩
theorem XCR.t9 (C : XCR h b n B c i cs) : ldI h 4 (b + 102) 9 = some (tkA B n i) := by rw [ldI_y C.K.1, C.2.2.2.1]
theorem cl_fail (C : XCR h b n B c i cs) {k : Nat} : ∃ h', f_Reader_fail (b + 102) (nI k) h = some (0, h') ∧ Sn LCP b h h' ∧ gI h' (b + 102) 2 = nI k ∧ gI h' (b + 102) 3 = nI (psN B n i) := by
  have hn := C.hn
  obtain ⟨K1, K2, K3, K4, K5⟩ := C.K
  obtain ⟨⟨s, -⟩, ⟨-, -, -, p4⟩, c8, -⟩ := C
  refine ⟨sI (sI h (b + 102) 2 (nI k)) (b + 102) 3 (nI (psN B n i)), ?_, (Sn.rf.put 102 2 _ (by decide)).put 102 3 _ (by decide), by simp (disch := omega) only [gI_q, gI_n1, gI_n2], by simp (disch := omega) only [gI_q, gI_n1, gI_n2]⟩
  unfold f_Reader_fail f_Reader_fail_34
  have e1 : gI (sI h (b + 102) 2 (nI k)) (b + 102) 8 = nI i := by simp (disch := omega) only [gI_q, gI_n1, gI_n2]; exact c8
  have k1 : gK (sI h (b + 102) 2 (nI k)) (b + 102) = (0, 4) := K1
  have k5 : gK (sI h (b + 102) 2 (nI k)) (b + 113) = (1, 401) := K5
  have e2 : gI (sI h (b + 102) 2 (nI k)) (b + 113) i = nI (psN B n i) := by simp (disch := omega) only [gI_q, gI_n1, gI_n2]; exact (p4 i hn.2.2).2
  rw [stI_y K1, bind_some', ldI_y k1, bind_some', ldR_y k1 (s.R 102 7 rfl), bind_some', show lnA (sI h (b + 102) 2 (nI k)) (b + 113) = some (nI 401) by unfold lnA; rw [k5]; rfl, bind_some', e1, if_neg (by rw [nI_le' (by omega) (by omega)]; omega), bind_some', bind_some', rd_at k5 (by omega) (by omega) e2, bind_some', stI_y k1, bind_some', rtZ_0]
theorem XCR.err (C : XCR h b n B c i cs) {k : Nat} {x : Int32} (hx : x = nI k) : XCO h b n B c (.error (k, i)) ((f_Reader_fail (b + 102) x h).bind fun p => rtZ p.1 p.2) := by
  obtain ⟨h', a1, a2⟩ := cl_fail C (k := k)
  rw [hx, a1, bind_some']
  exact ⟨h', rtZ_0, a2⟩
theorem XCR.sn {L : SL} {h2 : PH} (C : XCR h b n B c i cs) (t : Sn L b h h2) (hd : disj L [(102, 1, 2), (103, 0, 400), (112, 0, 401), (113, 0, 401), (102, 8, 10), (104, 2, 3), (107, 0, 400), (102, 2, 4)] = true) (hl : cs.length ≤ 400) : XCR h2 b n B c i cs := by
  have hn := C.hn
  obtain ⟨c1, ⟨p1, p2, p3, p4⟩, c3, c4, c5, c6, cf, c7⟩ := C
  have g : ∀ o lo hi j, (o, lo, hi) ∈ ([(102, 1, 2), (103, 0, 400), (112, 0, 401), (113, 0, 401), (102, 8, 10), (104, 2, 3), (107, 0, 400), (102, 2, 4)] : SL) → lo ≤ j → j < hi → gI h2 (b + o) j = gI h (b + o) j := fun o lo hi j hm h1 h2 => t.I (disj_ok hd (inL_in hm h1 h2))
  refine ⟨⟨c1.1.sn t, c1.2.1, ?_, fun j hj => ⟨(c1.2.2.2 j hj).1, ?_⟩⟩, ⟨p1, p2, p3, fun j hj => ⟨?_, ?_⟩⟩, ?_, ?_, c5, ?_, ⟨?_, ?_⟩, fun j hj => ?_⟩
  · rw [g 102 1 2 1 (by decide) (by omega) (by omega)]; exact c1.2.2.1
  · rw [g 103 0 400 j (by decide) (by omega) hj]; exact (c1.2.2.2 j hj).2
  · rw [g 112 0 401 j (by decide) (by omega) (by omega)]; exact (p4 j hj).1
  · rw [g 113 0 401 j (by decide) (by omega) (by omega)]; exact (p4 j hj).2
  · rw [g 102 8 10 8 (by decide) (by omega) (by omega)]; exact c3
  · rw [g 102 8 10 9 (by decide) (by omega) (by omega)]; exact c4
  · rw [g 104 2 3 2 (by decide) (by omega) (by omega)]; exact c6
  · rw [g 102 2 4 2 (by decide) (by omega) (by omega)]; exact cf.1
  · rw [g 102 2 4 3 (by decide) (by omega) (by omega)]; exact cf.2
  · rw [g 107 0 400 j (by decide) (by omega) (by omega)]; exact c7 j hj
theorem cl_adv2 (C : XCR h b n B c i cs) (hi : i < c) : ∃ h', f_Reader_advance (b + 102) h = some h' ∧ Sn [(102, 8, 10)] b h h' ∧ XCR h' b n B c (i + 1) cs := by
  have hn := C.hn
  have ne := C.ne hi
  obtain ⟨K1, K2, K3, K4, K5⟩ := C.K
  have t9 := C.t9
  obtain ⟨c1, ⟨p1, p2, p3, p4⟩, c3, c4, c5, c6, cf, c7⟩ := C
  have s := c1.1
  have k1 : gK (sI h (b + 102) 8 (nI (i + 1))) (b + 102) = (0, 4) := K1
  have k4 : gK (sI h (b + 102) 8 (nI (i + 1))) (b + 112) = (1, 401) := K4
  have e2 : gI (sI h (b + 102) 8 (nI (i + 1))) (b + 112) (i + 1) = tkA B n (i + 1) := by simp (disch := omega) only [gI_q, gI_n1, gI_n2]; exact (p4 (i + 1) (by omega)).1
  obtain ⟨h1, e1⟩ : ∃ h1, h1 = sI (sI h (b + 102) 8 (nI (i + 1))) (b + 102) 9 (tkA B n (i + 1)) := ⟨_, rfl⟩
  have t2 : Sn [(102, 8, 10)] b h h1 := by rw [e1]; exact (Sn.rf.put 102 8 _ (by decide)).put 102 9 _ (by decide)
  refine ⟨h1, ?_, t2, c1.sn t2 (by decide), ⟨p1, p2, p3, fun j hj => ?_⟩, ?_, ?_, by omega, ?_, ?_, fun j hj => ?_⟩
  · unfold f_Reader_advance
    rw [t9, bind_some', if_neg ne, ldI_y K1, bind_some', ldR_y K1 (s.R 102 6 rfl), bind_some', show lnA h (b + 112) = some (nI 401) by unfold lnA; rw [K4]; rfl, bind_some', c3, nI_s, if_neg (by rw [nI_le' (by omega) (by omega)]; omega), bind_some', nI_s, stI_y K1, bind_some', ldR_y k1 (s.R 102 6 rfl), bind_some', ldI_y k1, bind_some', gI_q rfl rfl, rd_at k4 (by omega) (by omega) e2, bind_some', stI_y k1, bind_some', e1]
  · rw [t2.I (o := 112) (by simp [inL]), t2.I (o := 113) (by simp [inL])]; exact p4 j hj
  · rw [e1]; simp (disch := omega) only [gI_q, gI_n1, gI_n2]
  · rw [e1]; simp (disch := omega) only [gI_q, gI_n1, gI_n2]
  · rw [t2.I (o := 104) (by simp [inL])]; exact c6
  · rw [t2.I (o := 102) (by decide), t2.I (o := 102) (by decide)]; exact cf
  · rw [t2.I (o := 107) (by simp [inL])]; exact c7 j hj
theorem cl_adv (C : XCR h b n B c i cs) (hi : i < c) : ∃ h', f_Reader_advance (b + 102) h = some h' ∧ Sn LCP b h h' ∧ XCR h' b n B c (i + 1) cs := by
  obtain ⟨h', a1, a2, a3⟩ := cl_adv2 C hi
  exact ⟨h', a1, a2.up (by decide), a3⟩
theorem cl_write (C : XCR h b n B c i cs) {o a x : Int32} (hx : x = enc o a) (hl : cs.length < 400) : ∃ h', f_Law_write (b + 104) x h = some h' ∧ Sn LCP b h h' ∧ XCR h' b n B c i (cs ++ [(o, a)]) := by
  have hn := C.hn
  obtain ⟨K1, K2, K3, K4, K5⟩ := C.K
  obtain ⟨c1, ⟨p1, p2, p3, p4⟩, c3, c4, c5, c6, cf, c7⟩ := C
  have s := c1.1
  obtain ⟨h1, e1⟩ : ∃ h1, h1 = sI (sI h (b + 107) cs.length x) (b + 104) 2 (nI (cs.length + 1)) := ⟨_, rfl⟩
  have t2 : Sn [(104, 2, 3), (107, 0, 400)] b h h1 := by rw [e1]; exact (Sn.rf.put 107 _ _ (inL_in (lo := 0) (hi := 400) (by decide) (by omega) hl)).put 104 2 _ (by decide)
  have t1 : Sn LCP b h h1 := by rw [e1]; exact (Sn.rf.put 107 _ _ (inL_in (lo := 0) (hi := 400) (by decide) (by omega) hl)).put 104 2 _ (by decide)
  have k2 : gK (sI h (b + 107) cs.length x) (b + 104) = (0, 2) := K2
  refine ⟨h1, ?_, t1, c1.sn t2 (by decide), ⟨p1, p2, p3, fun j hj => ?_⟩, ?_, ?_, c5, ?_, ?_, fun j hj => ?_⟩
  · unfold f_Law_write
    rw [ldI_y K2, bind_some', ldR_y K2 (s.R 104 1 rfl), bind_some', show lnA h (b + 107) = some (nI 400) by unfold lnA; rw [K3]; rfl, bind_some', c6, if_neg (by rw [nI_le' (by omega) (by omega)]; omega), bind_some', bind_some', wr_at K3 hl (by omega), bind_some', ldI_y k2, bind_some', gI_n1 (by omega), c6, nI_s, stI_y k2, bind_some', e1]
  · rw [t2.I (o := 112) (by simp [inL]), t2.I (o := 113) (by simp [inL])]; exact p4 j hj
  · rw [t2.I (o := 102) (by simp [inL])]; exact c3
  · rw [t2.I (o := 102) (by simp [inL])]; exact c4
  · rw [e1, List.length_append]; simp (disch := omega) only [gI_q, gI_n1, gI_n2]; rfl
  · rw [t2.I (o := 102) (by decide), t2.I (o := 102) (by decide)]; exact cf
  · rw [List.length_append] at hj
    have hj : j < cs.length + 1 := hj
    rw [e1]
    by_cases z : j = cs.length
    · rw [gI_n1 (by omega), gI_q rfl z, z, List.getD_eq_getElem?_getD, List.getElem?_concat_length]
      exact hx
    · rw [gI_n1 (by omega), gI_n2 z, c7 j (by omega), List.getD_eq_getElem?_getD, List.getD_eq_getElem?_getD, List.getElem?_append_left (by omega)]
theorem cl_isN (C : XCR h b n B c i cs) : f_Reader_isNumber (b + 102) h = some (bI (isNm (tkA B n i)), h) := by
  have t9 := C.t9
  unfold f_Reader_isNumber
  rw [t9, bind_some', bind_some']
  rcases C.tk i with e | e | ⟨x, x1, e⟩ | ⟨x, x1, e⟩ | ⟨x, x1, e⟩
  · rw [e, if_pos (by decide), rtZ_0]; rfl
  · rw [e, if_pos (by decide), rtZ_0]; rfl
  · have e2 : 9999 < nI x ↔ 9999 < x := L_ltn (n := 9999) (by omega) (by decide)
    rw [e, if_neg (nI_pos (by omega)), if_neg (by rw [e2]; omega), rtZ_1, isNm_x x1]; rfl
  · have e2 : 9999 < nI (10000 + x) ↔ 9999 < 10000 + x := L_ltn (n := 9999) (by omega) (by decide)
    rw [e, if_neg (nI_pos (by omega)), if_pos (by rw [e2]; omega), rtZ_0, isNm_o (by omega) (by omega)]; rfl
  · have e2 : 9999 < nI (20000 + x) ↔ 9999 < 20000 + x := L_ltn (n := 9999) (by omega) (by decide)
    rw [e, if_neg (nI_pos (by omega)), if_pos (by rw [e2]; omega), rtZ_0, isNm_o (by omega) (by omega)]; rfl
theorem nI_neg {x m : Nat} (h1 : x < m) (hm : m < 100000) : nI x - nI m < 0 := by
  rw [fa_lt, pk_sub_toInt (by omega) (by omega)]
  show (x : Int) - m < 0
  omega
theorem cl_asks {t : Int32} (k : TkK t) (h : PH) : f_Tc_within (t - 20003) 9 h = some (bI (isAs t), h) := by
  unfold f_Tc_within
  have low : ∀ x, x < 20003 → f_Tc_within (nI x - 20003) 9 h = some (bI (isAs (nI x)), h) := by
    intro x hx
    unfold f_Tc_within
    rw [if_pos (show nI x - 20003 < 0 from nI_neg (m := 20003) hx (by omega)), rtZ_0, isAs_o (Or.inl hx) (by omega)]; rfl
  unfold f_Tc_within at low
  rcases k with e | e | ⟨x, x1, e⟩ | ⟨x, x1, e⟩ | ⟨x, x1, e⟩
  · rw [e, if_pos (by decide), rtZ_0]; rfl
  · rw [e, if_pos (by decide), rtZ_0]; rfl
  · rw [e]; exact low x (by omega)
  · rw [e]; exact low _ (by omega)
  · rw [e]
    by_cases q : 20000 + x < 20003
    · exact low _ q
    · rw [show nI (20000 + x) - 20003 = nI (20000 + x - 20003) from nI_subL _ (by show 20003 ≤ _; omega)]
      have e2 : 9 < nI (20000 + x - 20003) ↔ 9 < 20000 + x - 20003 := L_ltn (n := 9) (by omega) (by decide)
      by_cases q2 : 20012 < 20000 + x
      · rw [if_neg (nI_pos (by omega)), if_pos (by rw [e2]; omega), rtZ_0, isAs_o (Or.inr q2) (by omega)]; rfl
      · rw [if_neg (nI_pos (by omega)), if_neg (by rw [e2]; omega), rtZ_1, show 20000 + x = 20003 + (x - 3) by omega, isAs_x (by omega)]; rfl
theorem cl_unit (C : XCR h b n B c i cs) (hl : cs.length ≤ i) : XCO h b n B c (unS (tkA B n) i cs) (f_Reader_unit (b + 102) h) := by
  have hn := C.hn
  obtain ⟨K1, K2, K3, K4, K5⟩ := C.K
  obtain ⟨R1, R2, R3, R4⟩ := C.R
  have t9 := C.t9
  have go : ∀ (o a x : Int32), x = enc o a → tkA B n i ≠ -1 → XCO h b n B c (.ok (i + 1, cs ++ [(o, a)])) (f_Reader_unit_52 (b + 102) x (b + 104) h) := by
    intro o a x hx ne
    have hic := C.lt ne
    obtain ⟨h1, w1, w2, w3⟩ := cl_write C hx (by omega)
    obtain ⟨h2, a1, a2, a3⟩ := cl_adv w3 hic
    refine ⟨h2, ?_, w2.tr a2, a3⟩
    unfold f_Reader_unit_52
    rw [isO_y K2, bind_some', w1, bind_some', isO_y w3.K.1, bind_some', a1, bind_some', rtZ_1]
  have go31 : ∀ (x1 : Int32), tkA B n i - 20003 = x1 → (isNm (tkA B n i) = true ∨ isAs (tkA B n i) = true) → XCO h b n B c (unS (tkA B n) i cs) (f_Reader_unit_31 (b + 102) x1 h) := by
    intro x1 hx1 hh
    unfold f_Reader_unit_31 unS
    rw [R1, bind_some', isO_y K1, bind_some', cl_isN C, bind_some']
    dsimp only
    by_cases q : isNm (tkA B n i) = true
    · rw [if_pos q, if_neg (by rw [q]; decide), t9, bind_some']
      exact go 0 _ _ rfl (fun z => by rw [z, isNm_m1] at q; cases q)
    · have hh := hh.resolve_left q
      rw [if_neg q, if_pos hh, if_pos (by rw [show isNm (tkA B n i) = false by simpa using q]; rfl), hx1]
      exact go 1 _ _ rfl (fun z => by rw [z, isAs_m1] at hh; cases hh)
  unfold f_Reader_unit
  rw [t9, bind_some', isO_y K1, bind_some', cl_isN C, bind_some']
  dsimp only
  by_cases q : isNm (tkA B n i) = true
  · rw [if_neg (by rw [q]; decide)]
    exact go31 _ rfl (Or.inl q)
  · rw [if_pos (by rw [show isNm (tkA B n i) = false by simpa using q]; rfl), cl_asks (C.tk i), bind_some']
    dsimp only
    by_cases q2 : isAs (tkA B n i) = true
    · rw [if_neg (by rw [q2]; decide)]
      exact go31 _ rfl (Or.inr q2)
    · rw [if_pos (by rw [show isAs (tkA B n i) = false by simpa using q2]; rfl), isO_y K1, bind_some']
      unfold unS
      rw [if_neg q, if_neg q2]
      exact C.err rfl
theorem cl_div (C : XCR h b n B c i cs) (hl : cs.length ≤ i) : XCO h b n B c (dvS (tkA B n) i cs) (f_Reader_divisor (b + 102) h) := by
  have hn := C.hn
  obtain ⟨K1, K2, K3, K4, K5⟩ := C.K
  obtain ⟨R1, R2, R3, R4⟩ := C.R
  have t9 := C.t9
  unfold f_Reader_divisor dvS
  rw [isO_y K1, bind_some', cl_isN C, bind_some']
  dsimp only
  by_cases q : isNm (tkA B n i) = true
  · rw [if_pos q, if_neg (show ¬ bI (isNm (tkA B n i)) = 0 by rw [q]; decide), t9, bind_some']
    by_cases q2 : tkA B n i = 0
    · rw [if_pos q2, if_pos q2, isO_y K1, bind_some']
      exact C.err rfl
    · rw [if_neg q2, if_neg q2, R1, bind_some', bind_some', isO_y K2, bind_some']
      have hic := C.lt (fun z => by rw [z, isNm_m1] at q; cases q)
      obtain ⟨h1, w1, w2, w3⟩ := cl_write C (o := 0) (a := tkA B n i) rfl (by omega)
      obtain ⟨h2, a1, a2, a3⟩ := cl_adv w3 hic
      refine ⟨h2, ?_, w2.tr a2, a3⟩
      rw [show f_Law_write (b + 104) (tkA B n i) h = some h1 from w1, bind_some', isO_y w3.K.1, bind_some', a1, bind_some', rtZ_1]
  · rw [if_neg q, if_pos (by rw [show isNm (tkA B n i) = false by simpa using q]; rfl), isO_y K1, bind_some']
    exact C.err rfl
end CREAD
