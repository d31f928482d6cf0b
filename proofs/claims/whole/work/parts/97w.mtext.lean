/-! ===== texts: the reference reads a text ===== -/
def LRA : SL := [(131, 15, 19), (131, 27, 30), (131, 31, 34), (143, 32, 48), (144, 32, 48), (145, 32, 48), (146, 32, 48), (147, 800, 1200), (148, 800, 1200), (149, 0, 40), (150, 12, 24), (151, 64, 128), (152, 64, 128)]
theorem tk_zero {b : Nat} : ∀ (d N : Nat) (h : PH) (i : Nat), Shp h b → i + d = 12 → d < N → (∀ j, j < i → gI h (b + 150) (12 + j) = 0) → ∃ h', f_Mo_readKin_2 N (b + 131) (nI i) h = f_Mo_readKin_26 FU (b + 131) 0 h' ∧ Sn [(150, 12, 24)] b h h' ∧ ∀ j, j < 12 → gI h' (b + 150) (12 + j) = 0 := by
  intro d
  induction d with
  | zero =>
    intro N h i s hi hN hz
    obtain ⟨M, rfl⟩ : ∃ M, N = M + 1 := ⟨N - 1, by omega⟩
    have z : (12 : Int32) ≤ nI i ↔ 12 ≤ i := L_len (n := 12) (by omega) (by decide)
    rw [f_Mo_readKin_2, if_pos (by rw [z]; omega)]
    exact ⟨h, rfl, Sn.rf, fun j hj => hz j (by omega)⟩
  | succ d ih =>
    intro N h i s hi hN hz
    obtain ⟨M, rfl⟩ : ∃ M, N = M + 1 := ⟨N - 1, by omega⟩
    have K : gK h (b + 131) = (0, 9) := s.K 131 (by decide) rfl
    have z : (12 : Int32) ≤ nI i ↔ 12 ≤ i := L_len (n := 12) (by omega) (by decide)
    rw [f_Mo_readKin_2, if_neg (by rw [z]; omega), ldR_y K (s.R 131 37 rfl), bind_some', show (12 : Int32) + nI i = nI (12 + i) from L_addn _, wr_at (s.K 150 (by decide) rfl) (by omega) (by omega), bind_some', nI_s]
    have t1 : Sn [(150, 12, 24)] b h (sI h (b + 150) (12 + i) 0) := Sn.rf.put 150 _ _ (inL_in (lo := 12) (hi := 24) (by decide) (by omega) (by omega))
    obtain ⟨h', g1, g2, g3⟩ := ih M _ (i + 1) (s.sn t1) (by omega) (by omega) (fun j hj => by
      by_cases e : j = i
      · rw [gI_q rfl (by omega)]
      · rw [gI_n2 (by omega)]; exact hz j (by omega))
    exact ⟨h', g1, t1.tr g2, g3⟩
def PK (nt no k : Nat) (h : PH) (b n : Nat) (B : Nat → Nat) (c i : Nat) (cs : XCS) (ls : XLS) : Prop := if k = 0 then XML h b n B c i cs ls else if k = 1 then XMK nt h b n B c i cs ls else if k = 2 then XMS nt no h b n B c i cs ls else XMD h b n B c i cs ls
theorem mo_readsText {b n c nt no k : Nat} {B : Nat → Nat} (hk : k ≤ 3) (hnt : nt ≤ 12) (hno : no ≤ 6) (hc : TkN n B c) {h : PH} (C : XRM h b n B) (h15 : gI h (b + 131) 15 = 0) (h28 : gI h (b + 131) 28 = 0) (h29 : gI h (b + 131) 29 = 0) (h6 : gI h (b + 131) 6 = nI nt) (h7 : gI h (b + 131) 7 = nI no) : match tlL (tkA B n) (lnK (tkA B n) nt no k) 17 0 [] [] with
    | .ok p => ∃ h' i, f_Mo_readsText (b + 131) (nI k) h = some (nI p.2.length, h') ∧ Sn LRA b h h' ∧ PK nt no k h' b n B c i p.1 p.2 ∧ gI h' (b + 131) 27 = 0
    | .error e => ∃ h', f_Mo_readsText (b + 131) (nI k) h = some (-1, h') ∧ Sn LRA b h h' ∧ XMF h' b n B e := by
  have hn := C.2.1
  have K := C.K
  have cE : tkA B n c = -1 := by unfold tkA; rw [hc.2.1, if_neg (Nat.lt_irrefl _)]
  have t1 : Sn [(131, 27, 28)] b h (sI h (b + 131) 27 0) := Sn.rf.put 131 27 _ (by decide)
  have C1 := C.sn t1 (by decide)
  obtain ⟨h2, a1, a2, a3⟩ := mo_first C1 (by simp (disch := omega) only [gI_q, gI_n1, gI_n2]; exact h15)
  have C2 := C1.sn a2 (by decide)
  have T2 : Sn LRA b h h2 := (t1.up (by decide)).tr (a2.up (by decide))
  have M2 : XMR h2 b n B c 0 [] := ⟨C2, hc, a3, Nat.zero_le _, by rw [a2.I (by decide)]; simp (disch := omega) only [gI_q, gI_n1, gI_n2]; exact h28, fun j hj => by cases hj⟩
  have o29 : gI h2 (b + 131) 29 = 0 := by rw [a2.I (by decide)]; simp (disch := omega) only [gI_q, gI_n1, gI_n2]; exact h29
  have o27 : gI h2 (b + 131) 27 = 0 := by rw [a2.I (by decide)]; simp (disch := omega) only [gI_q, gI_n1, gI_n2]
  have o6 : gI h2 (b + 131) 6 = nI nt := by rw [T2.I (by decide)]; exact h6
  have o7 : gI h2 (b + 131) 7 = nI no := by rw [T2.I (by decide)]; exact h7
  have z1 : nI k = 1 ↔ k = 1 := nI_eqL (n := 1) (by omega) (by decide)
  have z2 : nI k = 2 ↔ k = 2 := nI_eqL (n := 2) (by omega) (by decide)
  have z3 : nI k = 3 ↔ k = 3 := nI_eqL (n := 3) (by omega) (by decide)
  unfold f_Mo_readsText
  rw [stI_y K, bind_some', isO_y C1.K, bind_some', a1, bind_some']
  have fin : ∀ (L : SL) (P : PH → Nat → XCS → XLS → Prop) (r : Except (Nat × Nat) (XCS × XLS)) (x : Option (Int32 × PH)), MTO h2 b n B L P r x → subL L LRA = true → (∀ h', Sn L b h2 h' → gI h' (b + 131) 27 = 0) → (∀ h' i cs ls, P h' i cs ls → PK nt no k h' b n B c i cs ls) → match r with
      | .ok p => ∃ h' i, (x.bind fun p4 => some (p4.1, p4.2)) = some (nI p.2.length, h') ∧ Sn LRA b h h' ∧ PK nt no k h' b n B c i p.1 p.2 ∧ gI h' (b + 131) 27 = 0
      | .error e => ∃ h', (x.bind fun p4 => some (p4.1, p4.2)) = some (-1, h') ∧ Sn LRA b h h' ∧ XMF h' b n B e := by
    intro L P r x m hs h27 hp
    cases r with
    | error e =>
      obtain ⟨h', m1, m2, m3⟩ := m
      exact ⟨h', by rw [m1, bind_some'], T2.tr (m2.up hs), m3⟩
    | ok p =>
      obtain ⟨h', i, m1, m2, m3⟩ := m
      exact ⟨h', i, by rw [m1, bind_some'], T2.tr (m2.up hs), hp h' i p.1 p.2 m3, h27 h' m2⟩
  unfold lnK
  by_cases c1 : k = 1
  · rw [if_pos (z1.mpr c1), if_neg (by omega), if_pos c1, isO_y M2.K, bind_some']
    unfold f_Mo_readKin
    obtain ⟨h3, g1, g2, g3⟩ := tk_zero 12 FU h2 0 M2.1.1 rfl (by rw [FU_eq]; omega) (fun j hj => by omega)
    have M3 : XMR h3 b n B c 0 [] := M2.sn g2 (by decide) (by decide)
    have X3 : XMK nt h3 b n B c 0 [] [] := ⟨M3, by decide, by decide, by rw [g2.I (by decide)]; exact o6, fun t ht => by rw [g3 t ht]; rfl⟩
    rw [show f_Mo_readKin_2 FU (b + 131) 0 h2 = f_Mo_readKin_26 FU (b + 131) 0 h3 from g1]
    have m := MTO.tr (L := LMK) (g2.up (by decide)) (mo_kin26 hnt 17 FU h3 0 [] [] X3 (by decide) (by rw [FU_eq]; show 16 < 0 + _; omega))
    exact fin LMK _ _ _ m (by decide) (fun h' t => by rw [t.I (by decide)]; exact o27) (fun h' i cs ls p => by unfold PK; rw [if_neg (by omega), if_pos c1]; exact p)
  rw [if_neg (fun z => c1 (z1.mp z)), if_neg c1]
  by_cases c2 : k = 2
  · rw [if_pos (z2.mpr c2), if_neg (by omega), if_pos c2, isO_y M2.K, bind_some']
    unfold f_Mo_readShifts
    have X3 : XMS nt no h2 b n B c 0 [] [] := ⟨M2, by decide, by decide, o6, o7, fun l hl => by cases hl⟩
    exact fin LMS _ _ _ (mo_shifts2 hnt hno 17 FU h2 0 [] [] X3 (by decide) (by rw [FU_eq]; show 16 < 0 + _; omega)) (by decide) (fun h' t => by rw [t.I (by decide)]; exact o27) (fun h' i cs ls p => by unfold PK; rw [if_neg (by omega), if_neg c1, if_pos c2]; exact p)
  rw [if_neg (fun z => c2 (z2.mp z)), if_neg c2]
  by_cases c3 : k = 3
  · rw [if_pos (z3.mpr c3), if_neg (by omega), isO_y M2.K, bind_some']
    unfold f_Mo_readRoads
    have X3 : XMD h2 b n B c 0 [] [] := ⟨M2, by decide, by decide, fun l hl => by cases hl⟩
    exact fin LMD _ _ _ (mo_roads2 17 FU h2 0 [] [] X3 (by decide) (by rw [FU_eq]; show 16 < 0 + _; omega)) (by decide) (fun h' t => by rw [t.I (by decide)]; exact o27) (fun h' i cs ls p => by unfold PK; rw [if_neg (by omega), if_neg c1, if_neg c2]; exact p)
  have c0 : k = 0 := by omega
  rw [if_neg (fun z => c3 (z3.mp z)), if_pos c0, isO_y M2.K, bind_some']
  unfold f_Mo_readLaw
  have X3 : XML h2 b n B c 0 [] [] := ⟨M2, o29, by decide, Nat.le_refl _, fun l hl => by cases hl⟩
  exact fin LML _ _ _ (mo_law (K := 401) (by have := hc.1; omega) cE 17 FU h2 0 [] [] X3 (by decide) (by rw [FU_eq]; show 16 < 0 + _; omega)) (by decide) (fun h' t => by rw [t.I (by decide)]; exact o27) (fun h' i cs ls p => by unfold PK; rw [if_pos c0]; exact p)
/-! the class takes what it has read -/
theorem cl_rowcopy {h : PH} {b d r : Nat} (s : Shp h b) (hd : d = 14 ∨ d = 19 ∨ d = 21 ∨ d = 23) (hr : r = 105 ∨ r = 110) : f_Row_copyFrom (b + d) (b + r) h = some (cpI (sI h (b + d) 2 (gI h (b + r) 2)) (b + (r + 1)) 0 (b + (d + 1)) 0 64) := by
  have Kd : gK h (b + d) = (0, 6) := by rcases hd with rfl | rfl | rfl | rfl; exact s.K 14 (by decide) rfl; exact s.K 19 (by decide) rfl; exact s.K 21 (by decide) rfl; exact s.K 23 (by decide) rfl
  have Rd : gR h (b + d) 1 = some (b + (d + 1)) := by rcases hd with rfl | rfl | rfl | rfl; exact s.R 14 1 rfl; exact s.R 19 1 rfl; exact s.R 21 1 rfl; exact s.R 23 1 rfl
  have Kc : gK h (b + (d + 1)) = (1, 64) := by rcases hd with rfl | rfl | rfl | rfl; exact s.K 15 (by decide) rfl; exact s.K 20 (by decide) rfl; exact s.K 22 (by decide) rfl; exact s.K 24 (by decide) rfl
  have Kr : gK h (b + r) = (0, 6) := by rcases hr with rfl | rfl; exact s.K 105 (by decide) rfl; exact s.K 110 (by decide) rfl
  have Rr : gR h (b + r) 1 = some (b + (r + 1)) := by rcases hr with rfl | rfl; exact s.R 105 1 rfl; exact s.R 110 1 rfl
  have Kq : gK h (b + (r + 1)) = (1, 64) := by rcases hr with rfl | rfl; exact s.K 106 (by decide) rfl; exact s.K 111 (by decide) rfl
  have e : ∀ v, cpA (sI h (b + d) 2 v) (b + (r + 1)) 0 (b + (d + 1)) 0 (jmin (nI 64) (nI 64)) = some (cpI (sI h (b + d) 2 v) (b + (r + 1)) 0 (b + (d + 1)) 0 64) := fun v => by
    rw [show jmin (nI 64) (nI 64) = nI 64 by decide]
    exact cpA_n (h := sI h (b + d) 2 v) Kq Kc (by omega)
  have l1 : ∀ v, ldR (sI h (b + d) 2 v) 6 (b + r) 1 = some (b + (r + 1)) := fun v => ldR_y (h := sI h (b + d) 2 v) Kr Rr
  have l2 : ∀ v, ldR (sI h (b + d) 2 v) 6 (b + d) 1 = some (b + (d + 1)) := fun v => ldR_y (h := sI h (b + d) 2 v) Kd Rd
  have l3 : ∀ v, lnA (sI h (b + d) 2 v) (b + (d + 1)) = some (nI 64) := fun v => by unfold lnA; rw [gK_sI, Kc]; rfl
  have l4 : ∀ v, lnA (sI h (b + d) 2 v) (b + (r + 1)) = some (nI 64) := fun v => by unfold lnA; rw [gK_sI, Kq]; rfl
  unfold f_Row_copyFrom
  rw [ldI_y Kr, bind_some', stI_y Kd, bind_some', l1, bind_some', l2, bind_some', bind_some', l3, bind_some', bind_some', l4, bind_some', e, bind_some']
theorem Sn.cpy {L : SL} {b : Nat} {h h2 : PH} (t : Sn L b h h2) (o : Nat) {a n : Nat} (ho : (o, 0, n) ∈ L) : Sn L b h (cpI h2 a 0 (b + o) 0 n) := by
  refine ⟨t.1, t.2.1, t.2.2.1, t.2.2.2.1, fun q j hq => ?_⟩
  rw [gI_cp, if_neg]
  · exact t.2.2.2.2 q j hq
  · rintro ⟨e1, e2, e3⟩
    obtain rfl : q = o := by omega
    rw [inL_in ho e2 (by omega)] at hq
    cases hq
theorem cl_lawcopy {h : PH} {b : Nat} (s : Shp h b) : ∃ h', f_Law_copyFrom (b + 13) (b + 104) h = some h' ∧ Sn [(14, 2, 3), (15, 0, 64), (16, 0, 400), (13, 2, 3)] b h h' ∧ gI h' (b + 14) 2 = gI h (b + 105) 2 ∧ gI h' (b + 13) 2 = gI h (b + 104) 2 ∧ (∀ j, j < 64 → gI h' (b + 15) j = gI h (b + 106) j) ∧ ∀ j, j < 400 → gI h' (b + 16) j = gI h (b + 107) j := by
  obtain ⟨h1, e1⟩ : ∃ h1, h1 = cpI (sI h (b + 14) 2 (gI h (b + 105) 2)) (b + 106) 0 (b + 15) 0 64 := ⟨_, rfl⟩
  have t1 : Sn [(14, 2, 3), (15, 0, 64), (16, 0, 400), (13, 2, 3)] b h h1 := by rw [e1]; exact (Sn.rf.put 14 2 _ (by decide)).cpy 15 (by decide)
  have s1 := s.sn t1
  obtain ⟨h2, e2⟩ : ∃ h2, h2 = cpI h1 (b + 107) 0 (b + 16) 0 400 := ⟨_, rfl⟩
  have t2 : Sn [(14, 2, 3), (15, 0, 64), (16, 0, 400), (13, 2, 3)] b h h2 := by rw [e2]; exact t1.cpy 16 (by decide)
  have s2 := s.sn t2
  have rc : f_Row_copyFrom (b + 14) (b + 105) h = some h1 := by rw [e1]; exact cl_rowcopy s (Or.inl rfl) (Or.inl rfl)
  have cc : cpA h1 (b + 107) 0 (b + 16) 0 400 = some h2 := by rw [e2]; exact cpA_n (n := 400) (s1.K 107 (by decide) rfl) (s1.K 16 (by decide) rfl) (by omega)
  have k13 : gK h (b + 13) = (0, 2) := s.K 13 (by decide) rfl
  have k104 : gK h (b + 104) = (0, 2) := s.K 104 (by decide) rfl
  have q104 : gI h2 (b + 104) 2 = gI h (b + 104) 2 := t2.I (by decide)
  refine ⟨sI h2 (b + 13) 2 (gI h (b + 104) 2), ?_, t2.put 13 2 _ (by decide), ?_, by simp (disch := omega) only [gI_q, gI_n1, gI_n2], fun j hj => ?_, fun j hj => ?_⟩
  · unfold f_Law_copyFrom
    rw [ldR_y k13 (s.R 13 0 rfl), bind_some', ldR_y k104 (s.R 104 0 rfl), bind_some', isO_y (s.K 14 (by decide) rfl), bind_some', rc, bind_some', ldR_y (s1.K 104 (by decide) rfl) (s1.R 104 1 rfl), bind_some', ldR_y (s1.K 13 (by decide) rfl) (s1.R 13 1 rfl), bind_some', cc, bind_some', ldI_y (s2.K 104 (by decide) rfl), bind_some', q104, stI_y (s2.K 13 (by decide) rfl), bind_some']
  · rw [gI_n1 (by omega), e2, gI_cp_ne (by omega), e1, gI_cp_ne (by omega), gI_q rfl rfl]
  · rw [gI_n1 (by omega), e2, gI_cp_ne (by omega), e1, gI_cp, if_pos ⟨rfl, by omega, by omega⟩, gI_n1 (by omega), Nat.sub_zero, Nat.zero_add]
  · rw [gI_n1 (by omega), e2, gI_cp, if_pos ⟨rfl, by omega, by omega⟩, e1, gI_cp_ne (by omega), gI_n1 (by omega), Nat.sub_zero, Nat.zero_add]
theorem cl_linecopy {h : PH} {b d : Nat} (s : Shp h b) (hd : d = 19 ∨ d = 21 ∨ d = 23) : ∃ h', f_Row_copyFrom (b + d) (b + 110) h = some h' ∧ Sn [(d, 2, 3), (d + 1, 0, 64)] b h h' ∧ gI h' (b + d) 2 = gI h (b + 110) 2 ∧ ∀ j, j < 64 → gI h' (b + (d + 1)) j = gI h (b + 111) j := by
  refine ⟨_, cl_rowcopy s (Or.inr hd) (Or.inr rfl), (Sn.rf.put d 2 _ (inL_in (lo := 2) (hi := 3) (by simp) (by omega) (by omega))).cpy (d + 1) (by simp), ?_, fun j hj => ?_⟩
  · rw [gI_cp_ne (by omega), gI_q rfl rfl]
  · rw [gI_cp, if_pos ⟨rfl, by omega, by omega⟩, gI_n1 (by omega), Nat.sub_zero, Nat.zero_add]
