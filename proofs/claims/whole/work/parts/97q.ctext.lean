/-! ===== texts: the class reads a text ===== -/
theorem lwS_len {T : Nat → Int32} {K i : Nat} {cs : XCS} {ls : XLS} {r : Nat × XCS × XLS} (h : lwS T K i cs ls = .ok r) : r.2.2.length = ls.length + 1 := by
  unfold lwS at h
  repeat' (split at h)
  all_goals first | (cases h; done) | (cases h; simp)
theorem knS_len {T : Nat → Int32} {nt i : Nat} {cs : XCS} {ls : XLS} {r : Nat × XCS × XLS} (h : knS T nt i cs ls = .ok r) : r.2.2.length = ls.length + 1 := by
  unfold knS at h
  repeat' (split at h)
  all_goals first | (cases h; done) | (cases h; simp)
theorem sfS_len {T : Nat → Int32} {nt no i : Nat} {cs : XCS} {ls : XLS} {r : Nat × XCS × XLS} (h : sfS T nt no i cs ls = .ok r) : r.2.2.length = ls.length + 1 := by
  unfold sfS at h
  repeat' (split at h)
  all_goals first | (cases h; done) | (cases h; simp)
theorem roS_len {T : Nat → Int32} {i : Nat} {cs : XCS} {ls : XLS} {r : Nat × XCS × XLS} (h : roS T i cs ls = .ok r) : r.2.2.length = ls.length + 1 := by
  unfold roS at h
  repeat' (split at h)
  all_goals first | (cases h; done) | (cases h; simp)
def TlO (h0 : PH) (b n : Nat) (B : Nat → Nat) (c a : Nat) (r : Except (Nat × Nat) (XCS × XLS)) (x : Option (Int32 × PH)) : Prop := match r with
  | .ok p => ∃ h' i, x = some (1, h') ∧ Sn LCT b h0 h' ∧ XCT h' b n B c a i p.1 p.2
  | .error e => ∃ h', x = some (0, h') ∧ Sn LCT b h0 h' ∧ gI h' (b + 102) 2 = nI e.1 ∧ gI h' (b + 102) 3 = nI (psN B n e.2)
section CTEXT
variable {b n c : Nat} {B : Nat → Nat}
theorem cl_tl {a : Nat} {x1 x2 x3 : Int32} {line : Nat → XCS → XLS → XLR} {flw : PH → Option (Int32 × PH)} (hdisp : ∀ (N : Nat) (h : PH) (x4 : Int32), ¬ 16 < x4 → gK h (b + 102) = (0, 4) → ¬ gI h (b + 102) 9 = -1 → f_Reader_readText_43 (N + 1) (b + 102) x1 x2 x3 x4 h = (flw h).bind fun p => f_Reader_readText_102 (fun a0 x1 x2 x3 x4 h => f_Reader_readText_43 N a0 x1 x2 x3 x4 h) (b + 102) x1 x2 x3 x4 p.1 p.2) (hline : ∀ h i cs ls, XCT h b n B c a i cs ls → XLO h b n B c a (line i cs ls) (flw h)) (hlen : ∀ i cs ls r, line i cs ls = .ok r → r.2.2.length = ls.length + 1) : ∀ (k N : Nat) (h : PH) (i : Nat) (cs : XCS) (ls : XLS), XCT h b n B c a i cs ls → 16 < ls.length + k → 16 < ls.length + N → TlO h b n B c a (tlL (tkA B n) line k i cs ls) (f_Reader_readText_43 N (b + 102) x1 x2 x3 (nI ls.length) h) := by
  intro k
  induction k with
  | zero => intro N h i cs ls C h1 _; have := C.2.1.2.2.1; omega
  | succ k ih =>
    intro N h i cs ls C hk hN
    have l16 := C.2.1.2.2.1
    obtain ⟨M, rfl⟩ : ∃ M, N = M + 1 := ⟨N - 1, by omega⟩
    have n16 : ¬ 16 < nI ls.length := by
      have z : 16 < nI ls.length ↔ 16 < ls.length := L_ltn (n := 16) (by omega) (by decide)
      rw [z]; omega
    unfold tlL
    by_cases q : tkA B n i = -1
    · rw [if_pos q, f_Reader_readText_43, if_neg n16, C.1.t9, bind_some', if_pos q]
      exact ⟨h, i, rtZ_1, Sn.rf, C⟩
    · rw [if_neg q, hdisp M h _ n16 C.1.K.1 (by rw [C.1.2.2.2.1]; exact q)]
      have u := hline h i cs ls C
      cases e : line i cs ls with
      | error er =>
        rw [e] at u
        obtain ⟨h2, u1, u2, u3⟩ := u
        rw [u1, bind_some']
        unfold f_Reader_readText_102
        exact ⟨h2, by dsimp only; rw [if_pos rfl, rtZ_0], u2, u3⟩
      | ok r =>
        rw [e] at u
        obtain ⟨h2, u1, u2, u3⟩ := u
        have hl2 := hlen i cs ls r e
        rw [u1, bind_some']
        unfold f_Reader_readText_102
        dsimp only
        rw [if_neg n10, nI_s, ← hl2]
        have fin := ih M h2 r.1 r.2.1 r.2.2 u3 (by omega) (by omega)
        cases e2 : tlL (tkA B n) line k r.1 r.2.1 r.2.2 with
        | error er =>
          rw [e2] at fin
          obtain ⟨h', f1, f2, f3⟩ := fin
          exact ⟨h', f1, u2.tr f2, f3⟩
        | ok p =>
          rw [e2] at fin
          obtain ⟨h', i', f1, f2, f3⟩ := fin
          exact ⟨h', i', f1, u2.tr f2, f3⟩
def lnK (T : Nat → Int32) (nt no k : Nat) : Nat → XCS → XLS → XLR := if k = 0 then lwS T 401 else if k = 1 then knS T nt else if k = 2 then sfS T nt no else roS T
def rwK (k : Nat) : Nat := if k = 0 then 105 else 110
def LTX : SL := [(102, 2, 4), (102, 8, 11), (104, 2, 3), (107, 0, 400), (105, 2, 3), (106, 0, 64), (110, 2, 3), (111, 0, 64), (112, 0, 401), (113, 0, 401)]
theorem cl_kind {k nt no : Nat} (hk : k ≤ 3) (hnt : nt ≤ 12) (hno : no ≤ 6) (hc : c ≤ 400) {h : PH} (C : XCT h b n B c (rwK k) 0 [] []) : TlO h b n B c (rwK k) (tlL (tkA B n) (lnK (tkA B n) nt no k) 17 0 [] []) (f_Reader_readText_43 FU (b + 102) (nI k) (nI nt) (nI no) 0 h) := by
  have z0 : nI k = 0 ↔ k = 0 := nI_eqL (n := 0) (by omega) (by decide)
  have z1 : nI k = 1 ↔ k = 1 := nI_eqL (n := 1) (by omega) (by decide)
  have z2 : nI k = 2 ↔ k = 2 := nI_eqL (n := 2) (by omega) (by decide)
  unfold lnK
  by_cases c0 : k = 0
  · rw [show rwK k = 105 by unfold rwK; rw [if_pos c0]] at C ⊢
    rw [if_pos c0]
    refine cl_tl (flw := fun h => f_Reader_lawLine (b + 102) h) (fun N h x4 h1 h2 h3 => ?_) (fun h i cs ls C => cl_lawLine C (by omega)) (fun i cs ls r e => lwS_len e) 17 FU h 0 [] [] C (by decide) (by rw [FU_eq]; show 16 < 0 + _; omega)
    rw [f_Reader_readText_43, if_neg h1, ldI_y h2, bind_some', if_neg h3, if_pos (z0.mpr c0), isO_y h2, bind_some']
  rw [show rwK k = 110 by unfold rwK; rw [if_neg c0]] at C ⊢
  rw [if_neg c0]
  by_cases c1 : k = 1
  · rw [if_pos c1]
    refine cl_tl (flw := fun h => f_Reader_kinLine (b + 102) (nI nt) h) (fun N h x4 h1 h2 h3 => ?_) (fun h i cs ls C => cl_kinLine C hnt) (fun i cs ls r e => knS_len e) 17 FU h 0 [] [] C (by decide) (by rw [FU_eq]; show 16 < 0 + _; omega)
    rw [f_Reader_readText_43, if_neg h1, ldI_y h2, bind_some', if_neg h3, if_neg (fun z => c0 (z0.mp z)), if_pos (z1.mpr c1), isO_y h2, bind_some']
  rw [if_neg c1]
  by_cases c2 : k = 2
  · rw [if_pos c2]
    refine cl_tl (flw := fun h => f_Reader_shiftLine (b + 102) (nI nt) (nI no) h) (fun N h x4 h1 h2 h3 => ?_) (fun h i cs ls C => cl_shiftLine C hnt hno) (fun i cs ls r e => sfS_len e) 17 FU h 0 [] [] C (by decide) (by rw [FU_eq]; show 16 < 0 + _; omega)
    rw [f_Reader_readText_43, if_neg h1, ldI_y h2, bind_some', if_neg h3, if_neg (fun z => c0 (z0.mp z)), if_neg (fun z => c1 (z1.mp z)), if_pos (z2.mpr c2), isO_y h2, bind_some']
  rw [if_neg c2]
  refine cl_tl (flw := fun h => f_Reader_roadLine (b + 102) h) (fun N h x4 h1 h2 h3 => ?_) (fun h i cs ls C => cl_roadLine C) (fun i cs ls r e => roS_len e) 17 FU h 0 [] [] C (by decide) (by rw [FU_eq]; show 16 < 0 + _; omega)
  rw [f_Reader_readText_43, if_neg h1, ldI_y h2, bind_some', if_neg h3, if_neg (fun z => c0 (z0.mp z)), if_neg (fun z => c1 (z1.mp z)), if_neg (fun z => c2 (z2.mp z)), isO_y h2, bind_some']
theorem cl_readText {k nt no : Nat} (hk : k ≤ 3) (hnt : nt ≤ 12) (hno : no ≤ 6) {h : PH} (C : XRC h b n B) (w5 : gI h (b + 105) 0 = nI 4) (w10 : gI h (b + 110) 0 = nI 4) : ∃ c, TkN n B c ∧ match tlL (tkA B n) (lnK (tkA B n) nt no k) 17 0 [] [] with
    | .ok p => ∃ h' i, f_Reader_readText (b + 102) (nI k) (nI nt) (nI no) h = some (1, h') ∧ Sn LTX b h h' ∧ XCT h' b n B c (rwK k) i p.1 p.2
    | .error e => ∃ h', f_Reader_readText (b + 102) (nI k) (nI nt) (nI no) h = some (0, h') ∧ Sn LTX b h h' ∧ gI h' (b + 102) 2 = nI e.1 ∧ gI h' (b + 102) 3 = nI (psN B n e.2) := by
  have hn := C.2.1
  have s := C.1
  have K1 : gK h (b + 102) = (0, 4) := s.K 102 (by decide) rfl
  obtain ⟨h1, e1⟩ : ∃ h1, h1 = sI (sI h (b + 102) 2 0) (b + 102) 3 (-1) := ⟨_, rfl⟩
  have t1 : Sn [(102, 2, 4)] b h h1 := by rw [e1]; exact (Sn.rf.put 102 2 _ (by decide)).put 102 3 _ (by decide)
  have C1 : XRC h1 b n B := C.sn t1 (by decide)
  obtain ⟨h2, c, a1, a2, a3, a4, a5⟩ := cl_scan C1
  have C2 := C1.sn a2 (by decide)
  have s2 := C2.1
  obtain ⟨h3, e3⟩ : ∃ h3, h3 = sI (sI (sI h2 (b + 105) 2 0) (b + 104) 2 0) (b + 110) 2 0 := ⟨_, rfl⟩
  have t3 : Sn [(105, 2, 3), (104, 2, 3), (110, 2, 3)] b h2 h3 := by rw [e3]; exact ((Sn.rf.put 105 2 _ (by decide)).put 104 2 _ (by decide)).put 110 2 _ (by decide)
  have C3 := C2.sn t3 (by decide)
  have tt : Sn LTX b h h3 := ((t1.up (by decide)).tr (a2.up (by decide))).tr (t3.up (by decide))
  refine ⟨c, ⟨a3.1, a3.2.1, a3.2.2.1⟩, ?_⟩
  have hc : c ≤ 400 := by have := a3.1; omega
  have XR : XCR h3 b n B c 0 [] := by
    refine ⟨C3, ⟨a3.1, a3.2.1, a3.2.2.1, fun j hj => ?_⟩, ?_, ?_, by omega, ?_, ⟨?_, ?_⟩, fun j hj => by cases hj⟩
    · rw [t3.I (o := 112) (by simp [inL]), t3.I (o := 113) (by simp [inL])]; exact a3.2.2.2 j hj
    · rw [t3.I (by decide)]; exact a4
    · rw [t3.I (by decide)]; exact a5
    · rw [e3]; simp (disch := omega) only [gI_q, gI_n1, gI_n2]; rfl
    · rw [t3.I (by decide), a2.I (by decide), e1]; simp (disch := omega) only [gI_q, gI_n1, gI_n2]
    · rw [t3.I (by decide), a2.I (by decide), e1]; simp (disch := omega) only [gI_q, gI_n1, gI_n2]
  have XT : XCT h3 b n B c (rwK k) 0 [] [] := by
    refine ⟨XR, ?_, Nat.le_refl _⟩
    unfold rwK
    split
    · refine ⟨?_, by rw [e3]; simp (disch := omega) only [gI_q, gI_n1, gI_n2]; rfl, by decide, fun l hl => by cases hl⟩
      rw [t3.I (by decide), a2.I (by decide), t1.I (by decide)]; exact w5
    · refine ⟨?_, by rw [e3]; simp (disch := omega) only [gI_q, gI_n1, gI_n2]; rfl, by decide, fun l hl => by cases hl⟩
      rw [t3.I (by decide), a2.I (by decide), t1.I (by decide)]; exact w10
  have k3 : ¬ nI k < 0 := nI_pos (by omega)
  have k4 : nI k ≤ 3 := by
    have z : nI k ≤ 3 ↔ k ≤ 3 := nI_leL (n := 3) (by omega) (by decide)
    rw [z]; exact hk
  have main : f_Reader_readText (b + 102) (nI k) (nI nt) (nI no) h = f_Reader_readText_43 FU (b + 102) (nI k) (nI nt) (nI no) 0 h3 := by
    have k102 : gK h2 (b + 102) = (0, 4) := s2.K 102 (by decide) rfl
    have k104 : gK h2 (b + 104) = (0, 2) := s2.K 104 (by decide) rfl
    have k105 : gK h2 (b + 105) = (0, 6) := s2.K 105 (by decide) rfl
    have k110 : gK h2 (b + 110) = (0, 6) := s2.K 110 (by decide) rfl
    have lc : f_Law_clear (b + 104) h2 = some (sI (sI h2 (b + 105) 2 0) (b + 104) 2 0) := by
      unfold f_Law_clear
      rw [ldR_y k104 (s2.R 104 0 rfl), bind_some', isO_y k105, bind_some', row_clear k105, bind_some', stI_y (by rw [gK_sI]; exact k104), bind_some']
    have l5 : ldR (sI (sI h2 (b + 105) 2 0) (b + 104) 2 0) 4 (b + 102) 5 = some (b + 110) := ldR_y (h := sI (sI h2 (b + 105) 2 0) (b + 104) 2 0) k102 (s2.R 102 5 rfl)
    have l6 : isO (sI (sI h2 (b + 105) 2 0) (b + 104) 2 0) 6 (b + 110) = some () := isO_y k110
    have l7 : f_Row_clear (b + 110) (sI (sI h2 (b + 105) 2 0) (b + 104) 2 0) = some (0, h3) := by rw [e3]; exact row_clear k110
    unfold f_Reader_readText
    rw [stI_y K1, bind_some', stI_y (by rw [gK_sI]; exact K1), bind_some', if_neg k3, if_pos k4, isO_y (by rw [gK_sI, gK_sI]; exact K1), bind_some', ← e1, a1, bind_some', ldR_y k102 (s2.R 102 4 rfl), bind_some', isO_y k104, bind_some', lc, bind_some', l5, bind_some', l6, bind_some', l7, bind_some']
  rw [main]
  have u := cl_kind hk hnt hno hc XT
  cases e : tlL (tkA B n) (lnK (tkA B n) nt no k) 17 0 [] [] with
  | error er =>
    rw [e] at u
    obtain ⟨h', f1, f2, f3⟩ := u
    exact ⟨h', f1, tt.tr (f2.up (by decide)), f3⟩
  | ok p =>
    rw [e] at u
    obtain ⟨h', i', f1, f2, f3⟩ := u
    exact ⟨h', i', f1, tt.tr (f2.up (by decide)), f3⟩
end CTEXT
