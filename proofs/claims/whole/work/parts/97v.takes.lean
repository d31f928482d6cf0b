/-! ===== texts: what is read is of the kind that is asked for ===== -/
theorem tl_inv {T : Nat → Int32} {line : Nat → XCS → XLS → XLR} (P : Nat → XCS → XLS → Prop) (hP : ∀ i cs ls r, P i cs ls → line i cs ls = .ok r → P r.1 r.2.1 r.2.2) : ∀ (k i : Nat) (cs : XCS) (ls : XLS) (p : XCS × XLS), P i cs ls → tlL T line k i cs ls = .ok p → ∃ i', P i' p.1 p.2
  | 0, i, cs, ls, p, h1, h2 => by cases h2
  | k + 1, i, cs, ls, p, h1, h2 => by
    unfold tlL at h2
    split at h2
    · cases h2; exact ⟨i, h1⟩
    · split at h2
      · next r e => exact tl_inv P hP k r.1 r.2.1 r.2.2 p (hP i cs ls r h1 e) h2
      · cases h2
theorem getD_all {Q : Nat × Nat × Nat × Nat → Prop} {ls : XLS} {q : Nat × Nat × Nat × Nat} (h : ∀ l, l < ls.length → Q (ls.getD l nL)) (hq : Q q) : ∀ l, l < (ls ++ [q]).length → Q ((ls ++ [q]).getD l nL) := by
  intro l hl
  rw [List.length_append] at hl
  have hl : l < ls.length + 1 := hl
  rw [getD_ap]
  by_cases z : l = ls.length
  · rw [if_pos z]; exact hq
  · rw [if_neg z]; exact h l (by omega)
def KV (nt : Nat) (q : Nat × Nat × Nat × Nat) : Prop := q.1 < nt ∧ q.2.1 < nt ∧ q.1 ≠ q.2.1
theorem kn_v {T : Nat → Int32} {nt : Nat} {p : XCS × XLS} (h : tlL T (knS T nt) 17 0 [] [] = .ok p) : p.1 = [] ∧ ∀ l, l < p.2.length → KV nt (p.2.getD l nL) := by
  obtain ⟨-, h1, h2⟩ := tl_inv (fun _ cs ls => cs = [] ∧ ∀ l, l < ls.length → KV nt (ls.getD l nL)) (fun i cs ls r ⟨h1, h2⟩ e => by
    unfold knS at e
    split at e
    · split at e
      · cases e
      · split at e
        · cases e
        · next x ex =>
          split at e
          · split at e
            · cases e
            · next y ey =>
              split at e
              · cases e
                have a1 := nmS_ok ex
                have a2 := nmS_ok ey
                exact ⟨h1, getD_all h2 ⟨a1.1, a2.1, fun z => a2.2 (congrArg some z)⟩⟩
              · cases e
          · cases e
    · cases e) 17 0 [] [] p ⟨rfl, fun l hl => by cases hl⟩ h
  exact ⟨h1, h2⟩
def SV (nt no : Nat) (q : Nat × Nat × Nat × Nat) : Prop := q.1 ≤ 999 ∧ q.2.1 ≤ 5 ∧ q.2.2.1 < dbl nt no q.2.1 ∧ ((q.2.1 = 0 ∨ q.2.1 = 3) → q.2.2.2 < 4)
theorem sf_v {T : Nat → Int32} {nt no : Nat} {p : XCS × XLS} (h : tlL T (sfS T nt no) 17 0 [] [] = .ok p) : p.1 = [] ∧ ∀ l, l < p.2.length → SV nt no (p.2.getD l nL) := by
  obtain ⟨-, h1, h2⟩ := tl_inv (fun _ cs ls => cs = [] ∧ ∀ l, l < ls.length → SV nt no (ls.getD l nL)) (fun i cs ls r ⟨h1, h2⟩ e => by
    unfold sfS at e
    split at e
    · split at e
      · cases e
      · split at e
        · cases e
        · next x ex =>
          split at e
          · next hd =>
            split at e
            · cases e
            · next y ey =>
              have a1 := nmS_ok ex
              have a2 := nmS_ok ey
              split at e
              · split at e
                · split at e
                  · cases e
                  · next v ev =>
                    have a3 := nmS_ok ev
                    split at e
                    · cases e
                      exact ⟨h1, getD_all h2 ⟨by show x ≤ 999; omega, by show (T (i + 2)).toNatClampNeg - 20013 ≤ 5; omega, a2.1, fun _ => a3.1⟩⟩
                    · cases e
                · cases e
              · next hw =>
                split at e
                · cases e
                  exact ⟨h1, getD_all h2 ⟨by show x ≤ 999; omega, by show (T (i + 2)).toNatClampNeg - 20013 ≤ 5; omega, a2.1, fun z => absurd z hw⟩⟩
                · cases e
          · cases e
    · cases e) 17 0 [] [] p ⟨rfl, fun l hl => by cases hl⟩ h
  exact ⟨h1, h2⟩
def DV (q : Nat × Nat × Nat × Nat) : Prop := q.1 < 10 ∧ q.2.1 < 10 ∧ q.2.2.1 ≤ 99 ∧ q.2.2.2 ≤ 99
theorem ro_v {T : Nat → Int32} {p : XCS × XLS} (h : tlL T (roS T) 17 0 [] [] = .ok p) : p.1 = [] ∧ ∀ l, l < p.2.length → DV (p.2.getD l nL) := by
  obtain ⟨-, h1, h2⟩ := tl_inv (fun _ cs ls => cs = [] ∧ ∀ l, l < ls.length → DV (ls.getD l nL)) (fun i cs ls r ⟨h1, h2⟩ e => by
    unfold roS at e
    split at e
    · split at e
      · cases e
      · split at e
        · cases e
        · next x ex =>
          split at e
          · cases e
          · next y ey =>
            split at e
            · split at e
              · cases e
              · next u eu =>
                split at e
                · split at e
                  · cases e
                  · next w ew =>
                    split at e
                    · cases e
                      have a1 := nmS_ok ex
                      have a2 := nmS_ok ey
                      have a3 := nmS_ok eu
                      have a4 := nmS_ok ew
                      exact ⟨h1, getD_all h2 ⟨a1.1, a2.1, by show u ≤ 99; omega, by show w ≤ 99; omega⟩⟩
                    · cases e
                · cases e
            · cases e
    · cases e) 17 0 [] [] p ⟨rfl, fun l hl => by cases hl⟩ h
  exact ⟨h1, h2⟩
/-- a line of a law, in the codes -/
def LV (cs : XCS) (q : Nat × Nat × Nat × Nat) : Prop := q.1 ≤ 2 ∧ ∃ a e1 b1 r : XCS, cs = a ++ (e1 ++ (b1 ++ r)) ∧ a.length = q.2.1 ∧ a.length + e1.length = q.2.2.1 ∧ a.length + e1.length + b1.length = q.2.2.2 ∧ (∃ x, x ≠ 1 ∧ sqT e1 [] = some [x]) ∧ (b1 = [] ∨ sqT b1 [] = some [1])
theorem LV.ap {cs w : XCS} {q : Nat × Nat × Nat × Nat} (h : LV cs q) : LV (cs ++ w) q := by
  obtain ⟨h1, a, e1, b1, r, h2, h3⟩ := h
  exact ⟨h1, a, e1, b1, r ++ w, by rw [h2]; simp, h3⟩
theorem lw_v {T : Nat → Int32} {c K : Nat} (hc : T c = -1) {p : XCS × XLS} (h : tlL T (lwS T K) 17 0 [] [] = .ok p) : ∀ l, l < p.2.length → LV p.1 (p.2.getD l nL) := by
  obtain ⟨-, h1, h2⟩ := tl_inv (fun i cs ls => i ≤ c ∧ ∀ l, l < ls.length → LV cs (ls.getD l nL)) (fun i cs ls r ⟨hi, h2⟩ e => by
    unfold lwS at e
    split at e
    rotate_left
    · cases e
    next hw =>
    split at e
    · cases e
    have ne : T i ≠ -1 := by rcases hw with z | z | z <;> rw [z] <;> decide
    have hic := ne_end hc rfl ne hi
    have w2 : (T i).toNatClampNeg - 20000 ≤ 2 := by rcases hw with z | z | z <;> rw [z] <;> decide
    have g := sum_gd hc (K := K) (i := i + 1) (cs := cs) (by omega)
    split at e
    · cases e
    next r1 e1 =>
    rw [e1] at g
    obtain ⟨g1, g2, v, g3, g4, g5⟩ := g
    obtain ⟨x, x1, x2⟩ := g5 [] (by decide)
    split at e
    · cases e
    next q1 e2 =>
    split at e
    rotate_left
    · cases e
    next e3 =>
    cases e
    have fin : ∃ v' : XCS, q1.2 = r1.2 ++ v' ∧ q1.1 ≤ c ∧ (v' = [] ∨ sqT v' [] = some [1]) := by
      split at e2
      · next e4 =>
        have hic2 := ne_end hc e4 (by decide) g2
        have g' := cho_gd hc (K := K) (i := r1.1 + 1) (cs := r1.2) (by omega)
        rw [e2] at g'
        obtain ⟨k1, k2, v', k3, k4, k5⟩ := g'
        exact ⟨v', k3, k2, Or.inr (k5 [] (by decide))⟩
      · cases e2
        exact ⟨[], by simp, g2, Or.inl rfl⟩
    obtain ⟨v', f1, f2, f3⟩ := fin
    have hic3 := ne_end hc e3 (by decide) f2
    refine ⟨by show q1.1 + 1 ≤ c; omega, ?_⟩
    dsimp only
    have eq : q1.2 = cs ++ (v ++ v') := by rw [f1, g3]; simp
    refine getD_all (Q := LV q1.2) (fun l hl => by rw [eq]; exact (h2 l hl).ap) ?_
    refine ⟨w2, cs, v, v', [], by rw [eq]; simp, rfl, ?_, ?_, ⟨x, x1, x2⟩, f3⟩
    · show cs.length + v.length = r1.2.length
      rw [g3, List.length_append]
    · show cs.length + v.length + v'.length = q1.2.length
      rw [eq, List.length_append, List.length_append]; omega) 17 0 [] [] p ⟨Nat.zero_le _, fun l hl => by cases hl⟩ h
  exact h2
theorem getD_mid {a e : XCS} {r : XCS} {j : Nat} (hj : j < e.length) : (a ++ (e ++ r)).getD (a.length + j) (0, 0) = e.getD j (0, 0) := by
  rw [List.getD_eq_getElem?_getD, List.getD_eq_getElem?_getD, List.getElem?_append_right (by omega), show a.length + j - a.length = j by omega, List.getElem?_append_left hj]
/-- the segments of a line -/
theorem LV.seg {cs : XCS} {q : Nat × Nat × Nat × Nat} (h : LV cs q) {mo ma : Nat → Int32} (hm : ∀ j, j < cs.length → mo j = (cs.getD j (0, 0)).1 ∧ ma j = (cs.getD j (0, 0)).2) : q.1 ≤ 2 ∧ q.2.1 ≤ q.2.2.1 ∧ q.2.2.1 ≤ q.2.2.2 ∧ q.2.2.2 ≤ cs.length ∧ (∃ x, x ≠ 1 ∧ segT mo ma (q.2.2.1 - q.2.1) q.2.1 [] = some [x]) ∧ (q.2.2.1 = q.2.2.2 ∨ segT mo ma (q.2.2.2 - q.2.2.1) q.2.2.1 [] = some [1]) := by
  obtain ⟨h1, a, e1, b1, r, h2, h3, h4, h5, ⟨x, x1, x2⟩, h7⟩ := h
  have hl : cs.length = a.length + e1.length + b1.length + r.length := by rw [h2]; simp; omega
  refine ⟨h1, by omega, by omega, by omega, ⟨x, x1, ?_⟩, ?_⟩
  · rw [← h4, ← h3, show a.length + e1.length - a.length = e1.length by omega, sqT_seg e1 a.length []]
    · exact x2
    · intro j hj
      have := hm (a.length + j) (by omega)
      rw [h2, getD_mid hj] at this
      exact this
  · rcases h7 with h7 | h7
    · left
      rw [h7] at h5
      have h5 : a.length + e1.length + 0 = q.2.2.2 := h5
      omega
    · right
      have h2' : cs = (a ++ e1) ++ (b1 ++ r) := by rw [h2]; simp
      have la : (a ++ e1).length = a.length + e1.length := List.length_append
      rw [← h5, ← h4, show a.length + e1.length + b1.length - (a.length + e1.length) = b1.length by omega, sqT_seg b1 (a.length + e1.length) []]
      · exact h7
      · intro j hj
        have := hm (a.length + e1.length + j) (by omega)
        rw [h2', ← la, getD_mid hj] at this
        rw [← la]
        exact this
/-! ===== texts: the reference takes what it has read ===== -/
section TAKES
variable {b : Nat}
theorem tk_kin {x2 : Int32} : ∀ (d N : Nat) (h : PH) (i : Nat), Shp h b → i + d = 12 → d < N → ∃ h', f_Mo_takesOther_7 N (b + 131) x2 (nI i) h = some h' ∧ Sn [(150, 0, 12), (131, 36, 37)] b h h' ∧ gI h' (b + 131) 36 = x2 ∧ (∀ j, i ≤ j → j < 12 → gI h' (b + 150) j = gI h (b + 150) (12 + j)) ∧ ∀ j, j < i → gI h' (b + 150) j = gI h (b + 150) j := by
  intro d
  induction d with
  | zero =>
    intro N h i s hi hN
    obtain ⟨M, rfl⟩ : ∃ M, N = M + 1 := ⟨N - 1, by omega⟩
    have K : gK h (b + 131) = (0, 9) := s.K 131 (by decide) rfl
    have z : (12 : Int32) ≤ nI i ↔ 12 ≤ i := L_len (n := 12) (by omega) (by decide)
    rw [f_Mo_takesOther_7, if_pos (by rw [z]; omega), stI_y K, bind_some']
    exact ⟨_, rfl, Sn.rf.put 131 36 _ (by decide), by simp (disch := omega) only [gI_q, gI_n1, gI_n2], fun j h1 h2 => by omega, fun j hj => gI_n1 (by omega)⟩
  | succ d ih =>
    intro N h i s hi hN
    obtain ⟨M, rfl⟩ : ∃ M, N = M + 1 := ⟨N - 1, by omega⟩
    have K : gK h (b + 131) = (0, 9) := s.K 131 (by decide) rfl
    have K150 : gK h (b + 150) = (1, 24) := s.K 150 (by decide) rfl
    have z : (12 : Int32) ≤ nI i ↔ 12 ≤ i := L_len (n := 12) (by omega) (by decide)
    rw [f_Mo_takesOther_7, if_neg (by rw [z]; omega), ldR_y K (s.R 131 37 rfl), bind_some', bind_some', show (12 : Int32) + nI i = nI (12 + i) from L_addn _, rd_at K150 (by omega) (by omega) rfl, bind_some', wr_at K150 (by omega) (by omega), bind_some', nI_s]
    have t1 : Sn [(150, 0, 12), (131, 36, 37)] b h (sI h (b + 150) i (gI h (b + 150) (12 + i))) := Sn.rf.put 150 _ _ (inL_in (lo := 0) (hi := 12) (by decide) (by omega) (by omega))
    obtain ⟨h', g1, g2, g3, g4, g5⟩ := ih M _ (i + 1) (s.sn t1) (by omega) (by omega)
    refine ⟨h', g1, t1.tr g2, g3, fun j h1 h2 => ?_, fun j hj => ?_⟩
    · by_cases e : j = i
      · rw [g5 j (by omega), gI_q rfl e, e]
      · rw [g4 j (by omega) h2, gI_n2 (by omega)]
    · rw [g5 j (by omega), gI_n2 (by omega)]
theorem tk_deed {m : Nat} (hm : m ≤ 16) : ∀ (d N : Nat) (h : PH) (i : Nat), Shp h b → i + d = 4 * m → d < N → ∃ h', f_Mo_takesOther_49 N (b + 131) (nI m) (nI i) h = some h' ∧ Sn [(151, 0, 64), (131, 38, 39), (131, 3, 4)] b h h' ∧ (gI h' (b + 131) 38 = nI m ∧ gI h' (b + 131) 3 = 0) ∧ (∀ j, i ≤ j → j < 4 * m → gI h' (b + 151) j = gI h (b + 151) (64 + j)) ∧ ∀ j, j < i → gI h' (b + 151) j = gI h (b + 151) j := by
  intro d
  induction d with
  | zero =>
    intro N h i s hi hN
    obtain ⟨M, rfl⟩ : ∃ M, N = M + 1 := ⟨N - 1, by omega⟩
    have K : gK h (b + 131) = (0, 9) := s.K 131 (by decide) rfl
    rw [f_Mo_takesOther_49, show (4 : Int32) * nI m = nI (4 * m) from L_muln _, if_pos (by rw [nI_le' (by omega) (by omega)]; omega), stI_y K, bind_some', stI_y (by rw [gK_sI]; exact K), bind_some']
    exact ⟨_, rfl, (Sn.rf.put 131 38 _ (by decide)).put 131 3 _ (by decide), ⟨by simp (disch := omega) only [gI_q, gI_n1, gI_n2], by simp (disch := omega) only [gI_q, gI_n1, gI_n2]⟩, fun j h1 h2 => by omega, fun j hj => by rw [gI_n1 (by omega), gI_n1 (by omega)]⟩
  | succ d ih =>
    intro N h i s hi hN
    obtain ⟨M, rfl⟩ : ∃ M, N = M + 1 := ⟨N - 1, by omega⟩
    have K : gK h (b + 131) = (0, 9) := s.K 131 (by decide) rfl
    have K151 : gK h (b + 151) = (1, 128) := s.K 151 (by decide) rfl
    rw [f_Mo_takesOther_49, show (4 : Int32) * nI m = nI (4 * m) from L_muln _, if_neg (by rw [nI_le' (by omega) (by omega)]; omega), ldR_y K (s.R 131 39 rfl), bind_some', bind_some', show (64 : Int32) + nI i = nI (64 + i) from L_addn _, rd_at K151 (by omega) (by omega) rfl, bind_some', wr_at K151 (by omega) (by omega), bind_some', nI_s]
    have t1 : Sn [(151, 0, 64), (131, 38, 39), (131, 3, 4)] b h (sI h (b + 151) i (gI h (b + 151) (64 + i))) := Sn.rf.put 151 _ _ (inL_in (lo := 0) (hi := 64) (by decide) (by omega) (by omega))
    obtain ⟨h', g1, g2, g3, g4, g5⟩ := ih M _ (i + 1) (s.sn t1) (by omega) (by omega)
    refine ⟨h', g1, t1.tr g2, g3, fun j h1 h2 => ?_, fun j hj => ?_⟩
    · by_cases e : j = i
      · rw [g5 j (by omega), gI_q rfl e, e]
      · rw [g4 j (by omega) h2, gI_n2 (by omega)]
    · rw [g5 j (by omega), gI_n2 (by omega)]
theorem tk_road {m : Nat} (hm : m ≤ 16) : ∀ (d N : Nat) (h : PH) (i : Nat), Shp h b → i + d = 4 * m → d < N → ∃ h', f_Mo_takesOther_92 N (b + 131) (nI m) (nI i) h = some h' ∧ Sn [(152, 0, 64), (131, 40, 41)] b h h' ∧ gI h' (b + 131) 40 = nI m ∧ (∀ j, i ≤ j → j < 4 * m → gI h' (b + 152) j = gI h (b + 152) (64 + j)) ∧ ∀ j, j < i → gI h' (b + 152) j = gI h (b + 152) j := by
  intro d
  induction d with
  | zero =>
    intro N h i s hi hN
    obtain ⟨M, rfl⟩ : ∃ M, N = M + 1 := ⟨N - 1, by omega⟩
    have K : gK h (b + 131) = (0, 9) := s.K 131 (by decide) rfl
    rw [f_Mo_takesOther_92, show (4 : Int32) * nI m = nI (4 * m) from L_muln _, if_pos (by rw [nI_le' (by omega) (by omega)]; omega), stI_y K, bind_some']
    exact ⟨_, rfl, Sn.rf.put 131 40 _ (by decide), by simp (disch := omega) only [gI_q, gI_n1, gI_n2], fun j h1 h2 => by omega, fun j hj => by rw [gI_n1 (by omega)]⟩
  | succ d ih =>
    intro N h i s hi hN
    obtain ⟨M, rfl⟩ : ∃ M, N = M + 1 := ⟨N - 1, by omega⟩
    have K : gK h (b + 131) = (0, 9) := s.K 131 (by decide) rfl
    have K152 : gK h (b + 152) = (1, 128) := s.K 152 (by decide) rfl
    rw [f_Mo_takesOther_92, show (4 : Int32) * nI m = nI (4 * m) from L_muln _, if_neg (by rw [nI_le' (by omega) (by omega)]; omega), ldR_y K (s.R 131 41 rfl), bind_some', bind_some', show (64 : Int32) + nI i = nI (64 + i) from L_addn _, rd_at K152 (by omega) (by omega) rfl, bind_some', wr_at K152 (by omega) (by omega), bind_some', nI_s]
    have t1 : Sn [(152, 0, 64), (131, 40, 41)] b h (sI h (b + 152) i (gI h (b + 152) (64 + i))) := Sn.rf.put 152 _ _ (inL_in (lo := 0) (hi := 64) (by decide) (by omega) (by omega))
    obtain ⟨h', g1, g2, g3, g4, g5⟩ := ih M _ (i + 1) (s.sn t1) (by omega) (by omega)
    refine ⟨h', g1, t1.tr g2, g3, fun j h1 h2 => ?_, fun j hj => ?_⟩
    · by_cases e : j = i
      · rw [g5 j (by omega), gI_q rfl e, e]
      · rw [g4 j (by omega) h2, gI_n2 (by omega)]
    · rw [g5 j (by omega), gI_n2 (by omega)]
theorem n16z (k : Nat) : (16 : Int32) * 0 + nI k = nI k := by rw [show (16 : Int32) * 0 = nI 0 by decide, nI_add, Nat.zero_add]
theorem n400z (k : Nat) : (400 : Int32) * 0 + nI k = nI k := by rw [show (400 : Int32) * 0 = nI 0 by decide, nI_add, Nat.zero_add]
def LTL : SL := [(147, 0, 400), (148, 0, 400), (142, 0, 1), (143, 0, 16), (144, 0, 16), (145, 0, 16), (146, 0, 16)]
theorem tk_code {u : Nat} {x1 : Int32} (hu : u ≤ 400) : ∀ (d N : Nat) (h : PH) (i : Nat), Shp h b → gI h (b + 131) 27 = 0 → gI h (b + 131) 28 = nI u → i + d = u → d < N → ∃ h', f_Mo_takesLaw_107 N (b + 131) x1 (nI i) h = some h' ∧ Sn [(147, 0, 400), (148, 0, 400), (142, 0, 1)] b h h' ∧ gI h' (b + 142) 0 = x1 ∧ (∀ j, i ≤ j → j < u → gI h' (b + 147) j = gI h (b + 147) (800 + j) ∧ gI h' (b + 148) j = gI h (b + 148) (800 + j)) ∧ ∀ j, j < i → gI h' (b + 147) j = gI h (b + 147) j ∧ gI h' (b + 148) j = gI h (b + 148) j := by
  intro d
  induction d with
  | zero =>
    intro N h i s h27 h28 hi hN
    obtain ⟨M, rfl⟩ : ∃ M, N = M + 1 := ⟨N - 1, by omega⟩
    have K : gK h (b + 131) = (0, 9) := s.K 131 (by decide) rfl
    have K142 : gK h (b + 142) = (1, 2) := s.K 142 (by decide) rfl
    rw [f_Mo_takesLaw_107, ldI_y K, bind_some', h28, if_pos (by rw [nI_le' (by omega) (by omega)]; omega), ldR_y K (s.R 131 20 rfl), bind_some', ldI_y K, bind_some', h27, show (0 : Int32) = nI 0 from rfl, wr_at K142 (by omega) (by omega), bind_some']
    exact ⟨_, rfl, Sn.rf.put 142 0 _ (by decide), by simp (disch := omega) only [gI_q, gI_n1, gI_n2], fun j h1 h2 => by omega, fun j hj => ⟨gI_n1 (by omega), gI_n1 (by omega)⟩⟩
  | succ d ih =>
    intro N h i s h27 h28 hi hN
    obtain ⟨M, rfl⟩ : ∃ M, N = M + 1 := ⟨N - 1, by omega⟩
    have K : gK h (b + 131) = (0, 9) := s.K 131 (by decide) rfl
    have K147 : gK h (b + 147) = (1, 1200) := s.K 147 (by decide) rfl
    have k1 : ∀ v, gK (sI h (b + 147) i v) (b + 131) = (0, 9) := fun _ => K
    have k8 : ∀ v, gK (sI h (b + 147) i v) (b + 148) = (1, 1200) := fun _ => s.K 148 (by decide) rfl
    have z7 : ∀ v, gI (sI h (b + 147) i v) (b + 131) 27 = 0 := fun v => by simp (disch := omega) only [gI_q, gI_n1, gI_n2]; exact h27
    have z8 : ∀ v, gI (sI h (b + 147) i v) (b + 148) (800 + i) = gI h (b + 148) (800 + i) := fun v => gI_n1 (by omega)
    rw [f_Mo_takesLaw_107, ldI_y K, bind_some', h28, if_neg (by rw [nI_le' (by omega) (by omega)]; omega), ldR_y K (s.R 131 25 rfl), bind_some', ldI_y K, bind_some', bind_some', h27, show (800 : Int32) + nI i = nI (800 + i) from L_addn _, n400z, rd_at K147 (by omega) (by omega) rfl, bind_some', wr_at K147 (by omega) (by omega), bind_some', ldR_y (k1 _) (s.R 131 26 rfl), bind_some', ldI_y (k1 _), bind_some', bind_some', z7, n400z, rd_at (k8 _) (by omega) (by omega) (z8 _), bind_some', wr_at (k8 _) (by omega) (by omega), bind_some', nI_s]
    obtain ⟨h1, e1⟩ : ∃ h1, h1 = sI (sI h (b + 147) i (gI h (b + 147) (800 + i))) (b + 148) i (gI h (b + 148) (800 + i)) := ⟨_, rfl⟩
    rw [← e1]
    have t1 : Sn [(147, 0, 400), (148, 0, 400), (142, 0, 1)] b h h1 := by rw [e1]; exact (Sn.rf.put 147 _ _ (inL_in (lo := 0) (hi := 400) (by decide) (by omega) (by omega))).put 148 _ _ (inL_in (lo := 0) (hi := 400) (by decide) (by omega) (by omega))
    obtain ⟨h', g1, g2, g3, g4, g5⟩ := ih M h1 (i + 1) (s.sn t1) (by rw [t1.I (by decide)]; exact h27) (by rw [t1.I (by decide)]; exact h28) (by omega) (by omega)
    have q7 : ∀ j, gI h1 (b + 147) j = if j = i then gI h (b + 147) (800 + i) else gI h (b + 147) j := fun j => by
      rw [e1]
      by_cases e : j = i
      · rw [if_pos e]; simp (disch := omega) only [gI_q, gI_n1, gI_n2]
      · rw [if_neg e]; simp (disch := omega) only [gI_q, gI_n1, gI_n2]
    have q8 : ∀ j, gI h1 (b + 148) j = if j = i then gI h (b + 148) (800 + i) else gI h (b + 148) j := fun j => by
      rw [e1]
      by_cases e : j = i
      · rw [if_pos e]; simp (disch := omega) only [gI_q, gI_n1, gI_n2]
      · rw [if_neg e]; simp (disch := omega) only [gI_q, gI_n1, gI_n2]
    refine ⟨h', g1, t1.tr g2, g3, fun j h1 h2 => ?_, fun j hj => ?_⟩
    · by_cases e : j = i
      · rw [(g5 j (by omega)).1, (g5 j (by omega)).2, q7, q8, if_pos e, if_pos e, e]; exact ⟨rfl, rfl⟩
      · rw [(g4 j (by omega) h2).1, (g4 j (by omega) h2).2, q7, q8, if_neg (by omega), if_neg (by omega)]; exact ⟨rfl, rfl⟩
    · rw [(g5 j (by omega)).1, (g5 j (by omega)).2, q7, q8, if_neg (by omega), if_neg (by omega)]; exact ⟨rfl, rfl⟩
def Cp4 (h h' : PH) (b j k : Nat) : Prop := gI h' (b + 143) j = gI h (b + 143) k ∧ gI h' (b + 144) j = gI h (b + 144) k ∧ gI h' (b + 145) j = gI h (b + 145) k ∧ gI h' (b + 146) j = gI h (b + 146) k
theorem tk_lines {m u : Nat} (hm : m ≤ 16) (hu : u ≤ 400) : ∀ (d N : Nat) (h : PH) (i : Nat), Shp h b → gI h (b + 131) 27 = 0 → gI h (b + 131) 28 = nI u → i + d = m → d < N → ∃ h', f_Mo_takesLaw_2 N (b + 131) (nI m) (nI i) h = some h' ∧ Sn LTL b h h' ∧ gI h' (b + 142) 0 = nI m ∧ (∀ j, j < u → gI h' (b + 147) j = gI h (b + 147) (800 + j) ∧ gI h' (b + 148) j = gI h (b + 148) (800 + j)) ∧ (∀ j, i ≤ j → j < m → Cp4 h h' b j (32 + j)) ∧ ∀ j, j < i → Cp4 h h' b j j := by
  intro d
  induction d with
  | zero =>
    intro N h i s h27 h28 hi hN
    obtain ⟨M, rfl⟩ : ∃ M, N = M + 1 := ⟨N - 1, by omega⟩
    rw [f_Mo_takesLaw_2, if_pos (by rw [nI_le' (by omega) (by omega)]; omega)]
    obtain ⟨h', g1, g2, g3, g4, g5⟩ := tk_code (x1 := nI m) hu u FU h 0 s h27 h28 (by omega) (by rw [FU_eq]; omega)
    refine ⟨h', g1, g2.up (by decide), g3, fun j hj => g4 j (by omega) hj, fun j h1 h2 => by omega, fun j hj => ⟨?_, ?_, ?_, ?_⟩⟩ <;> exact g2.I (by simp [inL])
  | succ d ih =>
    intro N h i s h27 h28 hi hN
    obtain ⟨M, rfl⟩ : ∃ M, N = M + 1 := ⟨N - 1, by omega⟩
    have K : gK h (b + 131) = (0, 9) := s.K 131 (by decide) rfl
    obtain ⟨a1, e1⟩ : ∃ x, x = sI h (b + 143) i (gI h (b + 143) (32 + i)) := ⟨_, rfl⟩
    obtain ⟨a2, e2⟩ : ∃ x, x = sI a1 (b + 144) i (gI h (b + 144) (32 + i)) := ⟨_, rfl⟩
    obtain ⟨a3, e3⟩ : ∃ x, x = sI a2 (b + 145) i (gI h (b + 145) (32 + i)) := ⟨_, rfl⟩
    obtain ⟨a4, e4⟩ : ∃ x, x = sI a3 (b + 146) i (gI h (b + 146) (32 + i)) := ⟨_, rfl⟩
    have t1 : Sn LTL b h a1 := by rw [e1]; exact Sn.rf.put 143 _ _ (inL_in (lo := 0) (hi := 16) (by decide) (by omega) (by omega))
    have t2 : Sn LTL b h a2 := by rw [e2]; exact t1.put 144 _ _ (inL_in (lo := 0) (hi := 16) (by decide) (by omega) (by omega))
    have t3 : Sn LTL b h a3 := by rw [e3]; exact t2.put 145 _ _ (inL_in (lo := 0) (hi := 16) (by decide) (by omega) (by omega))
    have t4 : Sn LTL b h a4 := by rw [e4]; exact t3.put 146 _ _ (inL_in (lo := 0) (hi := 16) (by decide) (by omega) (by omega))
    have x4 : gI a1 (b + 144) (32 + i) = gI h (b + 144) (32 + i) := by rw [e1]; simp (disch := omega) only [gI_q, gI_n1, gI_n2]
    have x5 : gI a2 (b + 145) (32 + i) = gI h (b + 145) (32 + i) := by rw [e2, e1]; simp (disch := omega) only [gI_q, gI_n1, gI_n2]
    have x6 : gI a3 (b + 146) (32 + i) = gI h (b + 146) (32 + i) := by rw [e3, e2, e1]; simp (disch := omega) only [gI_q, gI_n1, gI_n2]
    have s1 := s.sn t1
    have s2 := s.sn t2
    have s3 := s.sn t3
    have kk : ∀ {hx : PH}, Shp hx b → gK hx (b + 131) = (0, 9) := fun s => s.K 131 (by decide) rfl
    rw [f_Mo_takesLaw_2, if_neg (by rw [nI_le' (by omega) (by omega)]; omega), ldR_y K (s.R 131 21 rfl), bind_some', ldI_y K, bind_some', bind_some', h27, show (32 : Int32) + nI i = nI (32 + i) from L_addn _, n16z, rd_at (s.K 143 (by decide) rfl) (by omega) (by omega) rfl, bind_some', wr_at (s.K 143 (by decide) rfl) (by omega) (by omega), bind_some', ← e1]
    rw [ldR_y (kk s1) (s1.R 131 22 rfl), bind_some', ldI_y (kk s1), bind_some', bind_some', t1.I (o := 131) (by decide), h27, n16z, rd_at (s1.K 144 (by decide) rfl) (by omega) (by omega) x4, bind_some', wr_at (s1.K 144 (by decide) rfl) (by omega) (by omega), bind_some', ← e2]
    rw [ldR_y (kk s2) (s2.R 131 23 rfl), bind_some', ldI_y (kk s2), bind_some', bind_some', t2.I (o := 131) (by decide), h27, n16z, rd_at (s2.K 145 (by decide) rfl) (by omega) (by omega) x5, bind_some', wr_at (s2.K 145 (by decide) rfl) (by omega) (by omega), bind_some', ← e3]
    rw [ldR_y (kk s3) (s3.R 131 24 rfl), bind_some', ldI_y (kk s3), bind_some', bind_some', t3.I (o := 131) (by decide), h27, n16z, rd_at (s3.K 146 (by decide) rfl) (by omega) (by omega) x6, bind_some', wr_at (s3.K 146 (by decide) rfl) (by omega) (by omega), bind_some', ← e4, nI_s]
    obtain ⟨h', g1, g2, g3, g4, g5, g6⟩ := ih M a4 (i + 1) (s.sn t4) (by rw [t4.I (by decide)]; exact h27) (by rw [t4.I (by decide)]; exact h28) (by omega) (by omega)
    have q3 : ∀ j, gI a4 (b + 143) j = if j = i then gI h (b + 143) (32 + i) else gI h (b + 143) j := fun j => by
      rw [e4, e3, e2, e1]
      by_cases e : j = i
      · rw [if_pos e]; simp (disch := omega) only [gI_q, gI_n1, gI_n2]
      · rw [if_neg e]; simp (disch := omega) only [gI_q, gI_n1, gI_n2]
    have q4 : ∀ j, gI a4 (b + 144) j = if j = i then gI h (b + 144) (32 + i) else gI h (b + 144) j := fun j => by
      rw [e4, e3, e2]
      by_cases e : j = i
      · rw [if_pos e]; simp (disch := omega) only [gI_q, gI_n1, gI_n2]
      · rw [if_neg e, e1]; simp (disch := omega) only [gI_q, gI_n1, gI_n2]
    have q5 : ∀ j, gI a4 (b + 145) j = if j = i then gI h (b + 145) (32 + i) else gI h (b + 145) j := fun j => by
      rw [e4, e3]
      by_cases e : j = i
      · rw [if_pos e]; simp (disch := omega) only [gI_q, gI_n1, gI_n2]
      · rw [if_neg e, e2, e1]; simp (disch := omega) only [gI_q, gI_n1, gI_n2]
    have q6 : ∀ j, gI a4 (b + 146) j = if j = i then gI h (b + 146) (32 + i) else gI h (b + 146) j := fun j => by
      rw [e4]
      by_cases e : j = i
      · rw [if_pos e]; simp (disch := omega) only [gI_q, gI_n1, gI_n2]
      · rw [if_neg e, e3, e2, e1]; simp (disch := omega) only [gI_q, gI_n1, gI_n2]
    refine ⟨h', g1, t4.tr g2, g3, fun j hj => ?_, fun j h1 h2 => ?_, fun j hj => ?_⟩
    · rw [(g4 j hj).1, (g4 j hj).2, e4, e3, e2, e1]
      constructor <;> simp (disch := omega) only [gI_q, gI_n1, gI_n2]
    · by_cases e : j = i
      · obtain ⟨y1, y2, y3, y4⟩ := g6 j (by omega)
        refine ⟨?_, ?_, ?_, ?_⟩
        · rw [y1, q3, if_pos e, e]
        · rw [y2, q4, if_pos e, e]
        · rw [y3, q5, if_pos e, e]
        · rw [y4, q6, if_pos e, e]
      · obtain ⟨y1, y2, y3, y4⟩ := g5 j (by omega) h2
        refine ⟨?_, ?_, ?_, ?_⟩
        · rw [y1, q3, if_neg (by omega)]
        · rw [y2, q4, if_neg (by omega)]
        · rw [y3, q5, if_neg (by omega)]
        · rw [y4, q6, if_neg (by omega)]
    · obtain ⟨y1, y2, y3, y4⟩ := g6 j (by omega)
      refine ⟨?_, ?_, ?_, ?_⟩
      · rw [y1, q3, if_neg (by omega)]
      · rw [y2, q4, if_neg (by omega)]
      · rw [y3, q5, if_neg (by omega)]
      · rw [y4, q6, if_neg (by omega)]
end TAKES
