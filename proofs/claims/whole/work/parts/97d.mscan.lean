/-! ===== texts: the reference's tokens ===== -/
def XRM (h : PH) (b n : Nat) (B : Nat → Nat) : Prop := Shp h b ∧ n ≤ 400 ∧ gI h (b + 131) 14 = nI n ∧ (∀ j, j < 400 → B j ≤ 255 ∧ gI h (b + 140) j = nI (B j)) ∧ ∀ j, j < 144 → gI h (b + 141) j = mwords.getD j 0
theorem XRM.sn {L : SL} {h h2 : PH} {b n : Nat} {B : Nat → Nat} (c : XRM h b n B) (t : Sn L b h h2) (hd : disj L [(131, 14, 15), (140, 0, 400), (141, 0, 144)] = true) : XRM h2 b n B := by
  obtain ⟨s, c1, c2, c3, c4⟩ := c
  refine ⟨s.sn t, c1, ?_, fun j hj => ⟨(c3 j hj).1, ?_⟩, fun j hj => ?_⟩
  · rw [t.I (disj_ok hd (inL_in (o := 131) (lo := 14) (hi := 15) (by decide) (by omega) (by omega)))]; exact c2
  · rw [t.I (disj_ok hd (inL_in (o := 140) (lo := 0) (hi := 400) (by decide) (by omega) hj))]; exact (c3 j hj).2
  · rw [t.I (disj_ok hd (inL_in (o := 141) (lo := 0) (hi := 144) (by decide) (by omega) hj))]; exact c4 j hj
theorem ldI_y {h : PH} {ci a k : Nat} (K : gK h a = (0, ci)) : ldI h ci a k = some (gI h a k) := if_pos K
theorem stI_y {h : PH} {ci a k : Nat} {v : Int32} (K : gK h a = (0, ci)) : stI h ci a k v = some (sI h a k v) := if_pos K
theorem ldR_y {h : PH} {ci a k c : Nat} (K : gK h a = (0, ci)) (R : gR h a k = some c) : ldR h ci a k = some c := by unfold ldR; rw [if_pos K, R]
theorem mo_in {x lo hi : Nat} (hx : x < 100000) (hl : lo < 100000) (hh : hi < 100000) (a : Nat) (h : PH) : f_Mo_isIn a (nI x) (nI lo) (nI hi) h = some (bI (decide (lo ≤ x) && decide (x ≤ hi)), h) := by
  unfold f_Mo_isIn
  by_cases c1 : x < lo
  · rw [if_pos (by rw [nI_lt' (by omega) (by omega)]; exact c1), rtZ_0, show decide (lo ≤ x) = false by simp; omega]; rfl
  · rw [if_neg (by rw [nI_lt' (by omega) (by omega)]; exact c1), show decide (lo ≤ x) = true by simp; omega]
    by_cases c2 : hi < x
    · rw [if_pos (by rw [nI_lt' (by omega) (by omega)]; exact c2), rtZ_0, show decide (x ≤ hi) = false by simp; omega]; rfl
    · rw [if_neg (by rw [nI_lt' (by omega) (by omega)]; exact c2), rtZ_1, show decide (x ≤ hi) = true by simp; omega]; rfl
theorem mo_in_m {lo hi : Nat} (hl : lo < 100000) (a : Nat) (h : PH) : f_Mo_isIn a (-1) (nI lo) (nI hi) h = some (0, h) := by
  unfold f_Mo_isIn
  rw [if_pos (by rw [fa_lt, nI_toInt (by omega)]; show (-1 : Int) < _; omega), rtZ_0]
theorem mo_isL {a x : Nat} {h : PH} (K : gK h a = (0, 9)) (hx : x ≤ 255) : f_Mo_isLetter a (nI x) h = some (bI (txL x), h) := by
  have e1 : f_Mo_isIn a (nI x) 97 122 h = _ := mo_in (x := x) (lo := 97) (hi := 122) (by omega) (by omega) (by omega) a h
  have e2 : f_Mo_isIn a (nI x) 65 90 h = _ := mo_in (x := x) (lo := 65) (hi := 90) (by omega) (by omega) (by omega) a h
  unfold f_Mo_isLetter f_Mo_isLetter_24
  rw [isO_y K, bind_some', e1, bind_some']
  dsimp only
  unfold txL
  cases q : (decide (97 ≤ x) && decide (x ≤ 122)) with
  | true =>
    rw [if_neg (by decide), rtZ_1]; rfl
  | false =>
    rw [if_pos (by decide), isO_y K, bind_some', e2, bind_some']
    dsimp only
    cases q2 : (decide (65 ≤ x) && decide (x ≤ 90)) with
    | true => rw [if_neg (by decide), rtZ_1]; rfl
    | false => rw [if_pos (by decide), rtZ_0]; rfl
theorem mo_isL_m {a : Nat} {h : PH} (K : gK h a = (0, 9)) : f_Mo_isLetter a (-1) h = some (0, h) := by
  have e1 : f_Mo_isIn a (-1) 97 122 h = _ := mo_in_m (lo := 97) (hi := 122) (by omega) a h
  have e2 : f_Mo_isIn a (-1) 65 90 h = _ := mo_in_m (lo := 65) (hi := 90) (by omega) a h
  unfold f_Mo_isLetter
  rw [isO_y K, bind_some', e1, bind_some']
  dsimp only
  rw [if_pos (by decide), isO_y K, bind_some', e2, bind_some']
  dsimp only
  rw [if_pos (by decide), rtZ_0]
theorem mo_isD {a x : Nat} {h : PH} (K : gK h a = (0, 9)) (hx : x ≤ 255) : f_Mo_isDigit a (nI x) h = some (bI (txD x), h) := by
  have e1 : f_Mo_isIn a (nI x) 48 57 h = _ := mo_in (x := x) (lo := 48) (hi := 57) (by omega) (by omega) (by omega) a h
  unfold f_Mo_isDigit
  rw [isO_y K, bind_some', e1, bind_some']
  dsimp only
  unfold txD
  cases (decide (48 ≤ x) && decide (x ≤ 57)) with
  | true => exact rtZ_1
  | false => exact rtZ_0
theorem mo_isD_m {a : Nat} {h : PH} (K : gK h a = (0, 9)) : f_Mo_isDigit a (-1) h = some (0, h) := by
  have e1 : f_Mo_isIn a (-1) 48 57 h = _ := mo_in_m (lo := 48) (hi := 57) (by omega) a h
  unfold f_Mo_isDigit
  rw [isO_y K, bind_some', e1, bind_some']
  exact rtZ_0
theorem mo_isM {a x : Nat} {h : PH} (hx : x ≤ 255) : f_Mo_isMarkSign a (nI x) h = some (bI (txM x), h) := by
  have e : ∀ m : Nat, m ≤ 255 → (nI x = nI m ↔ x = m) := fun m hm => nI_eq' (by omega) (by omega)
  have e1 : nI x = 59 ↔ x = 59 := e 59 (by omega)
  have e2 : nI x = 43 ↔ x = 43 := e 43 (by omega)
  have e3 : nI x = 45 ↔ x = 45 := e 45 (by omega)
  have e4 : nI x = 42 ↔ x = 42 := e 42 (by omega)
  have e5 : nI x = 47 ↔ x = 47 := e 47 (by omega)
  have e6 : nI x = 40 ↔ x = 40 := e 40 (by omega)
  have e7 : nI x = 41 ↔ x = 41 := e 41 (by omega)
  have e8 : nI x = 60 ↔ x = 60 := e 60 (by omega)
  have e9 : nI x = 61 ↔ x = 61 := e 61 (by omega)
  have e10 : nI x = 62 ↔ x = 62 := e 62 (by omega)
  unfold f_Mo_isMarkSign f_Mo_isMarkSign_60 txM
  simp only [e1, e2, e3, e4, e5, e6, e7, e8, e9, e10, rtZ_0, rtZ_1]
  by_cases c1 : x = 59
  · simp [c1, bI]
  by_cases c2 : x = 43
  · simp [c2, bI]
  by_cases c3 : x = 45
  · simp [c3, bI]
  by_cases c4 : x = 42
  · simp [c4, bI]
  by_cases c5 : x = 47
  · simp [c5, bI]
  by_cases c6 : x = 40
  · simp [c6, bI]
  by_cases c7 : x = 41
  · simp [c7, bI]
  by_cases c8 : x = 60
  · simp [c8, bI]
  by_cases c9 : x = 61
  · simp [c9, bI]
  by_cases c10 : x = 62
  · simp [c10, bI]
  simp [c1, c2, c3, c4, c5, c6, c7, c8, c9, c10, bI]
section MSCAN
variable {h : PH} {b n : Nat} {B : Nat → Nat}
theorem XRM.K (C : XRM h b n B) : gK h (b + 131) = (0, 9) := by
  obtain ⟨s, -⟩ := C
  exact s.K 131 (by decide) rfl
theorem XRM.rd (C : XRM h b n B) {j : Nat} (hj : j < 400) : rdA h (b + 140) (nI j) = some (nI (B j)) := by
  obtain ⟨s, -, -, c, -⟩ := C
  have K140 : gK h (b + 140) = (1, 400) := s.K 140 (by decide) rfl
  exact rd_at K140 hj (by omega) (c j hj).2
theorem XRM.wd (C : XRM h b n B) {j : Nat} (hj : j < 144) : rdA h (b + 141) (nI j) = some (mwords.getD j 0) := by
  obtain ⟨s, -, -, -, c⟩ := C
  have K141 : gK h (b + 141) = (1, 144) := s.K 141 (by decide) rfl
  exact rd_at K141 hj (by omega) (c j hj)
theorem XRM.R (C : XRM h b n B) : ldR h 9 (b + 131) 13 = some (b + 140) ∧ ldR h 9 (b + 131) 19 = some (b + 141) := by
  have K := C.K
  obtain ⟨s, -⟩ := C
  have R131_13 : gR h (b + 131) 13 = some (b + 140) := s.R 131 13 rfl
  have R131_19 : gR h (b + 131) 19 = some (b + 141) := s.R 131 19 rfl
  exact ⟨ldR_y K R131_13, ldR_y K R131_19⟩
theorem mo_raw (C : XRM h b n B) {i : Nat} (hi : i < 100000) : f_Mo_raw (b + 131) (nI i) h = some ((if n ≤ i then -1 else nI (B i)), h) := by
  have K := C.K
  have hn := C.2.1
  unfold f_Mo_raw
  rw [ldI_y K, C.2.2.1, bind_some']
  by_cases c : n ≤ i
  · rw [if_pos (by rw [nI_le' (by omega) (by omega)]; exact c), if_pos c]
  · rw [if_neg (by rw [nI_le' (by omega) (by omega)]; exact c), if_neg c, C.R.1, bind_some', C.rd (by omega), bind_some']
theorem wa_94 (C : XRM h b n B) {k5 : Nat → Int32 → Int32 → Int32 → Int32 → PH → Option (Int32 × PH)} {x1 x2 x3 : Int32} {M : Nat} : ∀ (r tl : List Int32) (q : Nat), mwords.drop q = r ++ 32 :: tl → (∀ c ∈ r, c ≠ 32) → f_Mo_wordAt_94 k5 (M + (r.length + 1)) (b + 131) x1 x2 x3 (nI q) h = k5 (b + 131) x1 x2 x3 (nI (q + r.length)) h := by
  intro r
  induction r with
  | nil =>
    intro tl q hd hr
    obtain ⟨q1, q2, q3⟩ := drop_c (0 : Int32) (show mwords.drop q = 32 :: tl from hd)
    show f_Mo_wordAt_94 k5 (M + 1) (b + 131) x1 x2 x3 (nI q) h = _
    rw [f_Mo_wordAt_94, C.R.2, bind_some', C.wd q1, bind_some', if_pos q2]; rfl
  | cons c r ih =>
    intro tl q hd hr
    obtain ⟨q1, q2, q3⟩ := drop_c (0 : Int32) (show mwords.drop q = c :: (r ++ 32 :: tl) from hd)
    show f_Mo_wordAt_94 k5 (M + (r.length + 1) + 1) (b + 131) x1 x2 x3 (nI q) h = _
    rw [f_Mo_wordAt_94, C.R.2, bind_some', C.wd q1, bind_some', if_neg (by rw [q2]; exact hr c List.mem_cons_self), nI_s, ih tl (q + 1) q3 (fun c hc => hr c (List.mem_cons_of_mem _ hc)), List.length_cons, show q + 1 + r.length = q + (r.length + 1) by omega]
theorem wa_20 (C : XRM h b n B) {k5 : Nat → Int32 → Int32 → Int32 → Int32 → PH → Option (Int32 × PH)} {p e k : Nat} {x3 : Int32} {M : Nat} (he : e ≤ 400) (hL : ∀ j, p ≤ j → j < e → txL (B j) = true) : ∀ (r tl : List Int32) (i : Nat), mwords.drop (k + 1 + i) = r ++ 32 :: tl → (∀ c ∈ r, c ≠ 32) → p + i ≤ e → f_Mo_wordAt_20 k5 (M + (r.length + 1)) (b + 131) (nI p) (nI e) x3 (nI k) (nI i) h = if sgI B (e - (p + i)) (p + i) = r then some (x3, h) else f_Mo_wordAt_88 k5 (b + 131) (nI p) (nI e) x3 (nI k) h := by
  intro r
  induction r with
  | nil =>
    intro tl i hd hr hi
    obtain ⟨q1, q2, q3⟩ := drop_c (0 : Int32) (show mwords.drop (k + 1 + i) = 32 :: tl from hd)
    have q1 : k + 1 + i < 144 := q1
    show f_Mo_wordAt_20 k5 (M + 1) (b + 131) (nI p) (nI e) x3 (nI k) (nI i) h = _
    rw [f_Mo_wordAt_20, nI_add, nI_s, nI_add]
    by_cases c : e ≤ p + i
    · rw [if_pos (by rw [nI_le' (by omega) (by omega)]; exact c), show e - (p + i) = 0 by omega, if_pos (show sgI B 0 (p + i) = [] from rfl)]
      unfold f_Mo_wordAt_61
      rw [nI_add, if_pos (by rw [nI_eq' (by omega) (by omega)]; omega), nI_s, nI_add, C.R.2, bind_some', C.wd q1, bind_some', if_pos q2]
    · rw [if_neg (by rw [nI_le' (by omega) (by omega)]; exact c), C.R.2, bind_some', C.wd q1, bind_some', C.R.1, bind_some', C.rd (by omega), bind_some', q2]
      have hl := hL (p + i) (by omega) (by omega)
      have hb := (C.2.2.2.1 (p + i) (by omega)).1
      rw [if_neg (by
        have z : (32 : Int32) = nI (B (p + i)) ↔ 32 = B (p + i) := nI_eq' (m := 32) (by omega) (by omega)
        rw [z]
        unfold txL at hl
        simp at hl
        omega)]
      unfold f_Mo_wordAt_61
      rw [nI_add, if_neg (by rw [nI_eq' (by omega) (by omega)]; omega), if_neg]
      rw [show e - (p + i) = (e - (p + i) - 1) + 1 by omega, sgI]
      intro z; cases z
  | cons c r ih =>
    intro tl i hd hr hi
    obtain ⟨q1, q2, q3⟩ := drop_c (0 : Int32) (show mwords.drop (k + 1 + i) = c :: (r ++ 32 :: tl) from hd)
    have q1 : k + 1 + i < 144 := q1
    have hc : c ≠ 32 := hr c List.mem_cons_self
    show f_Mo_wordAt_20 k5 (M + (r.length + 1) + 1) (b + 131) (nI p) (nI e) x3 (nI k) (nI i) h = _
    rw [f_Mo_wordAt_20, nI_add, nI_s, nI_add]
    by_cases c1 : e ≤ p + i
    · rw [if_pos (by rw [nI_le' (by omega) (by omega)]; exact c1), show e - (p + i) = 0 by omega, if_neg (fun z => by cases z)]
      unfold f_Mo_wordAt_61
      rw [nI_add, if_pos (by rw [nI_eq' (by omega) (by omega)]; omega), nI_s, nI_add, C.R.2, bind_some', C.wd q1, bind_some', if_neg (by rw [q2]; exact hc)]
    · rw [if_neg (by rw [nI_le' (by omega) (by omega)]; exact c1), C.R.2, bind_some', C.wd q1, bind_some', C.R.1, bind_some', C.rd (by omega), bind_some', q2]
      rw [show e - (p + i) = (e - (p + i + 1)) + 1 by omega, sgI]
      by_cases c4 : c = nI (B (p + i))
      · rw [if_pos c4, nI_s, ih tl (i + 1) (by rw [← q3]; rfl) (fun c hc => hr c (List.mem_cons_of_mem _ hc)) (by omega), ← c4]
        rw [show p + (i + 1) = p + i + 1 by omega]
        by_cases z : sgI B (e - (p + i + 1)) (p + i + 1) = r
        · rw [if_pos z, if_pos (by rw [z])]
        · rw [if_neg z, if_neg (fun y => z (by injection y))]
      · rw [if_neg c4]
        unfold f_Mo_wordAt_61
        rw [nI_add, if_neg (by rw [nI_eq' (by omega) (by omega)]; omega), if_neg]
        intro z
        injection z with z1 z2
        exact c4 z1.symm
theorem wa_5 (C : XRM h b n B) {p e : Nat} (he : e ≤ 400) (hp : p ≤ e) (hL : ∀ j, p ≤ j → j < e → txL (B j) = true) : ∀ (ws : List (List Int32)) (M j k : Nat) (x3 : Int32), mwords.drop k = 32 :: fla ws → x3 + 1 = nI j → (∀ w ∈ ws, ∀ c ∈ w, c ≠ 32) → f_Mo_wordAt_5 (M + 1 + ws.length) (b + 131) (nI p) (nI e) x3 (nI k) h = some ((match fix (sgI B (e - p) p) ws j with | some w => nI w | none => -1), h)
  | [], M, j, k, x3, hd, hx, hw => by
    have hd : mwords.drop k = [32] := hd
    have hl : (mwords.drop k).length = 1 := by rw [hd]; rfl
    rw [List.length_drop, show mwords.length = 144 from rfl] at hl
    show f_Mo_wordAt_5 (M + 1) (b + 131) (nI p) (nI e) x3 (nI k) h = some (-1, h)
    rw [f_Mo_wordAt_5, if_pos (by
      have z : (143 : Int32) ≤ nI k ↔ 143 ≤ k := L_len (n := 143) (by omega) (by decide)
      rw [z]; omega)]
  | w :: ws, M, j, k, x3, hd, hx, hw => by
    have hd : mwords.drop k = 32 :: (w ++ 32 :: fla ws) := hd
    have hl : (mwords.drop k).length = (32 :: (w ++ 32 :: fla ws)).length := by rw [hd]
    rw [List.length_drop, show mwords.length = 144 from rfl, List.length_cons, List.length_append, List.length_cons] at hl
    obtain ⟨q1, q2, q3⟩ := drop_c (0 : Int32) hd
    show f_Mo_wordAt_5 (M + 1 + ws.length + 1) (b + 131) (nI p) (nI e) x3 (nI k) h = _
    rw [f_Mo_wordAt_5, if_neg (by
      have z : (143 : Int32) ≤ nI k ↔ 143 ≤ k := L_len (n := 143) (by omega) (by decide)
      rw [z]; omega), hx]
    have h1 : f_Mo_wordAt_20 (fun a0 x1 x2 x3 x4 h => f_Mo_wordAt_5 (M + 1 + ws.length) a0 x1 x2 x3 x4 h) (69999 - w.length + (w.length + 1)) (b + 131) (nI p) (nI e) (nI j) (nI k) 0 h = if sgI B (e - p) p = w then some (nI j, h) else f_Mo_wordAt_88 (fun a0 x1 x2 x3 x4 h => f_Mo_wordAt_5 (M + 1 + ws.length) a0 x1 x2 x3 x4 h) (b + 131) (nI p) (nI e) (nI j) (nI k) h := wa_20 C he hL w (fla ws) 0 q3 (hw w List.mem_cons_self) hp
    rw [show FU = 69999 - w.length + (w.length + 1) by rw [FU_eq]; omega, h1]
    unfold fix
    by_cases z : sgI B (e - p) p = w
    · rw [if_pos z, if_pos z]
    · rw [if_neg z, if_neg z]
      unfold f_Mo_wordAt_88
      rw [nI_s, show FU = 69999 - w.length + (w.length + 1) by rw [FU_eq]; omega, wa_94 C w (fla ws) (k + 1) q3 (hw w List.mem_cons_self)]
      have hd2 : mwords.drop (k + 1 + w.length) = 32 :: fla ws := by
        have h2 : (mwords.drop (k + 1)).drop w.length = 32 :: fla ws := by
          rw [q3]
          exact List.drop_left' rfl
        rw [List.drop_drop] at h2
        exact h2
      exact wa_5 C he hp hL ws M (j + 1) (k + 1 + w.length) (nI j) hd2 (nI_s j) (fun v hv => hw v (List.mem_cons_of_mem _ hv))
end MSCAN
set_option maxRecDepth 10000 in
theorem mwd_ns : ∀ w ∈ mwd, ∀ c ∈ w, c ≠ 32 := by decide
theorem mo_wordAt {h : PH} {b n : Nat} {B : Nat → Nat} (C : XRM h b n B) {p e : Nat} (he : e ≤ 400) (hp : p ≤ e) (hL : ∀ j, p ≤ j → j < e → txL (B j) = true) : f_Mo_wordAt (b + 131) (nI p) (nI e) h = some ((match fix (sgI B (e - p) p) mwd 0 with | some w => nI w | none => -1), h) := by
  have h1 := wa_5 C he hp hL mwd 69970 0 0 (-1) (by rw [fla_m]; rfl) (by decide) mwd_ns
  unfold f_Mo_wordAt
  rw [show FU = 69970 + 1 + mwd.length from rfl]
  exact h1
