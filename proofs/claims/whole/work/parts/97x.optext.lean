/-! ===== text ===== -/
def LTM : SL := [(131, 0, 1), (131, 14, 19), (131, 27, 30), (131, 31, 36), (143, 32, 48), (144, 32, 48), (145, 32, 48), (146, 32, 48), (147, 800, 1200), (148, 800, 1200), (149, 0, 40), (150, 12, 24), (151, 64, 128), (152, 64, 128)]
def LTC : SL := [(102, 1, 4), (102, 8, 11), (104, 2, 3), (107, 0, 400), (105, 2, 3), (106, 0, 64), (110, 2, 3), (111, 0, 64), (112, 0, 401), (113, 0, 401)]
def hT (h : PH) (b : Nat) : PH := sI (sI (sI (sI (sI (sI h (b + 131) 0 0) (b + 131) 34 0) (b + 131) 35 (-1)) (b + 131) 15 0) (b + 131) 28 0) (b + 131) 29 0
theorem hT_sn {h : PH} {b : Nat} : Sn LTM b h (hT h b) := (((((Sn.rf.put 131 0 _ (by decide)).put 131 34 _ (by decide)).put 131 35 _ (by decide)).put 131 15 _ (by decide)).put 131 28 _ (by decide)).put 131 29 _ (by decide)
theorem hT_sn2 {h : PH} {b : Nat} : Sn [(131, 0, 1), (131, 34, 36), (131, 15, 16), (131, 28, 30)] b h (hT h b) := (((((Sn.rf.put 131 0 _ (by decide)).put 131 34 _ (by decide)).put 131 35 _ (by decide)).put 131 15 _ (by decide)).put 131 28 _ (by decide)).put 131 29 _ (by decide)
theorem mo_text_pre {h : PH} {b : Nat} (K : gK h (b + 131) = (0, 9)) (x1 : Int32) : f_Mo_text (b + 131) x1 h = (f_Mo_isIn (b + 131) x1 0 3 (hT h b)).bind fun p7 => if p7.1 = 0 then f_Mo_text_69 (b + 131) x1 (-1) p7.2 else (isO p7.2 9 (b + 131)).bind fun _ => (f_Mo_readsText (b + 131) x1 p7.2).bind fun p9 => if p9.1 = (-1) then (ldI p9.2 9 (b + 131) 32).bind fun v11 => (stI p9.2 9 (b + 131) 34 v11).bind fun h12 => (ldI h12 9 (b + 131) 33).bind fun v13 => (stI h12 9 (b + 131) 35 v13).bind fun h14 => f_Mo_text_69 (b + 131) x1 p9.1 h14 else f_Mo_text_69 (b + 131) x1 p9.1 p9.2 := by
  have k1 : ∀ v, gK (sI h (b + 131) 0 v) (b + 131) = (0, 9) := fun _ => K
  unfold f_Mo_text
  rw [stI_y K, bind_some', stI_y (h := sI h (b + 131) 0 0) K, bind_some', stI_y (h := sI (sI h (b + 131) 0 0) (b + 131) 34 0) K, bind_some', stI_y (h := sI (sI (sI h (b + 131) 0 0) (b + 131) 34 0) (b + 131) 35 (-1)) K, bind_some', stI_y (h := sI (sI (sI (sI h (b + 131) 0 0) (b + 131) 34 0) (b + 131) 35 (-1)) (b + 131) 15 0) K, bind_some', stI_y (h := sI (sI (sI (sI (sI h (b + 131) 0 0) (b + 131) 34 0) (b + 131) 35 (-1)) (b + 131) 15 0) (b + 131) 28 0) K, bind_some', isO_y (h := sI (sI (sI (sI (sI (sI h (b + 131) 0 0) (b + 131) 34 0) (b + 131) 35 (-1)) (b + 131) 15 0) (b + 131) 28 0) (b + 131) 29 0) K, bind_some']
  rfl
theorem text69_bad {h : PH} {b : Nat} (K : gK h (b + 131) = (0, 9)) (x1 : Int32) : f_Mo_text_69 (b + 131) x1 (-1) h = some (-1, sI h (b + 131) 14 0) := by
  unfold f_Mo_text_69
  rw [stI_y K, bind_some', if_pos rfl]
theorem text_ref {b n c nt no k : Nat} {B : Nat → Nat} (hk : k ≤ 3) (hnt : nt ≤ 12) (hno : no ≤ 6) (hc : TkN n B c) {h : PH} (C : XRM h b n B) (h6 : gI h (b + 131) 6 = nI nt) (h7 : gI h (b + 131) 7 = nI no) : match tlL (tkA B n) (lnK (tkA B n) nt no k) 17 0 [] [] with
    | .ok p => ∃ h' i, f_Mo_text (b + 131) (nI k) h = f_Mo_text_69 (b + 131) (nI k) (nI p.2.length) h' ∧ Sn LTM b h h' ∧ PK nt no k h' b n B c i p.1 p.2 ∧ gI h' (b + 131) 27 = 0 ∧ gI h' (b + 131) 34 = 0 ∧ gI h' (b + 131) 35 = -1
    | .error e => ∃ h', f_Mo_text (b + 131) (nI k) h = some (-1, h') ∧ Sn LTM b h h' ∧ gI h' (b + 131) 34 = nI e.1 ∧ gI h' (b + 131) 35 = nI (psN B n e.2) ∧ gI h' (b + 131) 14 = 0 := by
  have t1 := hT_sn2 (h := h) (b := b)
  have C1 := C.sn t1 (by decide)
  have ii : f_Mo_isIn (b + 131) (nI k) 0 3 (hT h b) = some (1, hT h b) := by
    have z : 3 < nI k ↔ 3 < k := L_ltn (n := 3) (by omega) (by decide)
    unfold f_Mo_isIn
    rw [if_neg (nI_pos (by omega)), if_neg (by rw [z]; omega), rtZ_1]
  have u := mo_readsText (k := k) hk hnt hno hc C1 (by unfold hT; simp (disch := omega) only [gI_q, gI_n1, gI_n2]) (by unfold hT; simp (disch := omega) only [gI_q, gI_n1, gI_n2]) (by unfold hT; simp (disch := omega) only [gI_q, gI_n1, gI_n2]) (by rw [t1.I (by decide)]; exact h6) (by rw [t1.I (by decide)]; exact h7)
  rw [mo_text_pre C.K, ii, bind_some']
  dsimp only
  rw [if_neg n10, isO_y C1.K, bind_some']
  cases e : tlL (tkA B n) (lnK (tkA B n) nt no k) 17 0 [] [] with
  | error er =>
    rw [e] at u
    obtain ⟨h2, u1, u2, u3⟩ := u
    have k2 : gK h2 (b + 131) = (0, 9) := by rw [u2.1]; exact C1.K
    have g33 : gI (sI h2 (b + 131) 34 (nI er.1)) (b + 131) 33 = nI (psN B n er.2) := by simp (disch := omega) only [gI_q, gI_n1, gI_n2]; exact u3.2
    rw [u1, bind_some']
    dsimp only
    rw [if_pos rfl, ldI_y k2, bind_some', u3.1, stI_y k2, bind_some', ldI_y (by rw [gK_sI]; exact k2), bind_some', g33, stI_y (by rw [gK_sI]; exact k2), bind_some', text69_bad (by rw [gK_sI, gK_sI]; exact k2)]
    refine ⟨_, rfl, (((hT_sn.tr (u2.up (by decide))).put 131 34 _ (by decide)).put 131 35 _ (by decide)).put 131 14 _ (by decide), by simp (disch := omega) only [gI_q, gI_n1, gI_n2], by simp (disch := omega) only [gI_q, gI_n1, gI_n2], by simp (disch := omega) only [gI_q, gI_n1, gI_n2]⟩
  | ok p =>
    rw [e] at u
    obtain ⟨h2, i, u1, u2, u3, u4⟩ := u
    have l16 : p.2.length ≤ 16 := by
      unfold PK at u3
      split at u3
      · exact u3.2.2.1
      · split at u3
        · exact u3.2.1
        · split at u3
          · exact u3.2.1
          · exact u3.2.1
    rw [u1, bind_some']
    dsimp only
    rw [if_neg (nI_ne_m1 (by omega))]
    exact ⟨h2, i, rfl, hT_sn.tr (u2.up (by decide)), u3, u4, by rw [u2.I (by decide)]; unfold hT; simp (disch := omega) only [gI_q, gI_n1, gI_n2], by rw [u2.I (by decide)]; unfold hT; simp (disch := omega) only [gI_q, gI_n1, gI_n2]⟩
theorem text_cl {b : Nat} {h h1 : PH} {x1 z : Int32} {nt no : Nat} (s : Shp h b) (F1 : gI h (b + 2) 1 = nI nt) (F9 : gI h (b + 2) 9 = nI no) (e : f_Reader_readText (b + 102) x1 (nI nt) (nI no) h = some (z, h1)) (t : Sn LTX b h h1) : f_Tc_text b x1 h = if z = 0 then some (-1, sI h1 (b + 102) 1 0) else if x1 = 0 then (f_Law_copyFrom (b + 13) (b + 104) (sI h1 (b + 102) 1 0)).bind fun h19 => (ldI h19 6 (b + 14) 2).bind fun v24 => some (v24, h19) else if x1 = 2 then f_Tc_text_90 b x1 (sI (sI h1 (b + 102) 1 0) (b + 40) 2 0) else f_Tc_text_90 b x1 (sI h1 (b + 102) 1 0) := by
  have s1 := s.sn t
  have K0 : gK h b = (0, 8) := s.K 0 (by decide) rfl
  have K0' : gK h1 b = (0, 8) := s1.K 0 (by decide) rfl
  have s2 : Shp (sI h1 (b + 102) 1 0) b := s1
  have K2 : gK (sI h1 (b + 102) 1 0) b = (0, 8) := s1.K 0 (by decide) rfl
  have R00 : gR h b 0 = some (b + 1) := s.R 0 0 rfl
  have R02 : gR h b 2 = some (b + 102) := s.R 0 2 rfl
  have Q02 : gR h1 b 2 = some (b + 102) := s1.R 0 2 rfl
  have Q00 : gR (sI h1 (b + 102) 1 0) b 0 = some (b + 1) := s1.R 0 0 rfl
  have P02 : gR (sI h1 (b + 102) 1 0) b 2 = some (b + 102) := s1.R 0 2 rfl
  have Q01 : gR (sI h1 (b + 102) 1 0) b 1 = some (b + 40) := s1.R 0 1 rfl
  unfold f_Tc_text
  rw [ldR_y K0 R02, bind_some', ldR_y K0 R00, bind_some', ldR_y (s.K 1 (by decide) rfl) (s.R 1 0 rfl), bind_some', ldI_y (s.K 2 (by decide) rfl), bind_some', bind_some', ldR_y (s.K 1 (by decide) rfl) (s.R 1 0 rfl), bind_some', ldI_y (s.K 2 (by decide) rfl), bind_some', F1, F9, isO_y (s.K 102 (by decide) rfl), bind_some', e, bind_some']
  dsimp only
  rw [ldR_y K0' Q02, bind_some', stI_y (s1.K 102 (by decide) rfl), bind_some']
  by_cases q : z = 0
  · rw [if_pos q, if_pos q]
  rw [if_neg q, if_neg q]
  by_cases q0 : x1 = 0
  · rw [if_pos q0, if_pos q0, ldR_y K2 Q00, bind_some', ldR_y (s2.K 1 (by decide) rfl) (s2.R 1 2 rfl), bind_some', ldR_y K2 P02, bind_some', ldR_y (s2.K 102 (by decide) rfl) (s2.R 102 4 rfl), bind_some', isO_y (s2.K 13 (by decide) rfl), bind_some']
    obtain ⟨h3, a1, a2, -⟩ := cl_lawcopy s2
    have s3 := s2.sn a2
    have K3 : gK h3 b = (0, 8) := s3.K 0 (by decide) rfl
    have R3 : gR h3 b 0 = some (b + 1) := s3.R 0 0 rfl
    rw [a1, bind_some', bind_some', ldR_y K3 R3, bind_some', ldR_y (s3.K 1 (by decide) rfl) (s3.R 1 2 rfl), bind_some', ldR_y (s3.K 13 (by decide) rfl) (s3.R 13 0 rfl), bind_some']
  rw [if_neg q0, if_neg q0]
  by_cases q2 : x1 = 2
  · rw [if_pos q2, if_pos q2, ldR_y K2 Q01, bind_some', isO_y (s2.K 40 (by decide) rfl), bind_some']
    unfold f_Log_forget
    rw [stI_y (s2.K 40 (by decide) rfl), bind_some', bind_some']
  · rw [if_neg q2, if_neg q2]
theorem text90 {b k d : Nat} {h : PH} (s : Shp h b) (hkd : (k = 1 ∧ d = 19) ∨ (k = 2 ∧ d = 21) ∨ (k = 3 ∧ d = 23)) : f_Tc_text_90 b (nI k) h = (f_Row_copyFrom (b + d) (b + 110) h).bind fun h3 => (ldI h3 6 (b + d) 2).bind fun v5 => some (v5, h3) := by
  have K0 : gK h b = (0, 8) := s.K 0 (by decide) rfl
  have R00 : gR h b 0 = some (b + 1) := s.R 0 0 rfl
  have R02 : gR h b 2 = some (b + 102) := s.R 0 2 rfl
  have z1 : nI k = 1 ↔ k = 1 := nI_eqL (n := 1) (by omega) (by decide)
  have z2 : nI k = 2 ↔ k = 2 := nI_eqL (n := 2) (by omega) (by decide)
  have fin : ∀ d', (d' = 19 ∨ d' = 21 ∨ d' = 23) → f_Tc_text_127 b (b + d') h = (f_Row_copyFrom (b + d') (b + 110) h).bind fun h3 => (ldI h3 6 (b + d') 2).bind fun v5 => some (v5, h3) := by
    intro d' hd
    have Kd : gK h (b + d') = (0, 6) := by rcases hd with rfl | rfl | rfl; exact s.K 19 (by decide) rfl; exact s.K 21 (by decide) rfl; exact s.K 23 (by decide) rfl
    unfold f_Tc_text_127
    rw [ldR_y K0 R02, bind_some', ldR_y (s.K 102 (by decide) rfl) (s.R 102 5 rfl), bind_some', isO_y Kd, bind_some']
  unfold f_Tc_text_90
  rcases hkd with ⟨rfl, rfl⟩ | ⟨rfl, rfl⟩ | ⟨rfl, rfl⟩
  · rw [if_pos (z1.mpr rfl), ldR_y K0 R00, bind_some', ldR_y (s.K 1 (by decide) rfl) (s.R 1 3 rfl), bind_some']
    exact fin 19 (Or.inl rfl)
  · rw [if_neg (fun z => absurd (z1.mp z) (by decide)), if_pos (z2.mpr rfl), ldR_y K0 R00, bind_some', ldR_y (s.K 1 (by decide) rfl) (s.R 1 4 rfl), bind_some']
    exact fin 21 (Or.inr (Or.inl rfl))
  · rw [if_neg (fun z => absurd (z1.mp z) (by decide)), if_neg (fun z => absurd (z2.mp z) (by decide)), ldR_y K0 R00, bind_some', ldR_y (s.K 1 (by decide) rfl) (s.R 1 5 rfl), bind_some']
    exact fin 23 (Or.inr (Or.inr rfl))
/-- nothing lies on the tape any more -/
theorem rdr_new {b : Nat} {h hB : PH} {L : SL} (q3 : FigR 400 400 255 255 (gI h (b + 103)) (gI h (b + 140))) (t : Sn L b h hB) (hd : disj L [(103, 0, 400), (140, 0, 400)] = true) (e1 : gI hB (b + 102) 1 = 0) (e2 : gI hB (b + 131) 14 = 0) (e3 : gI hB (b + 102) 2 = gI hB (b + 131) 34) (e4 : gI hB (b + 102) 3 = gI hB (b + 131) 35) : C_rdr hB b :=
  ⟨⟨0, by omega, e1, e2⟩, e3, e4, q3.cg (fun j hj => t.I (disj_ok hd (inL_in (o := 103) (lo := 0) (hi := 400) (by decide) (by omega) hj))) (fun j hj => t.I (disj_ok hd (inL_in (o := 140) (lo := 0) (hi := 400) (by decide) (by omega) hj)))⟩
