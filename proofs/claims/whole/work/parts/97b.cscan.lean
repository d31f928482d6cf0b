/-! ===== texts: the class's tokens ===== -/
def XRC (h : PH) (b n : Nat) (B : Nat → Nat) : Prop := Shp h b ∧ n ≤ 400 ∧ gI h (b + 102) 1 = nI n ∧ ∀ j, j < 400 → B j ≤ 255 ∧ gI h (b + 103) j = nI (B j)
theorem XRC.sn {L : SL} {h h2 : PH} {b n : Nat} {B : Nat → Nat} (c : XRC h b n B) (t : Sn L b h h2) (hd : disj L [(102, 1, 2), (103, 0, 400)] = true) : XRC h2 b n B := by
  obtain ⟨s, c1, c2, c3⟩ := c
  refine ⟨s.sn t, c1, ?_, fun j hj => ⟨(c3 j hj).1, ?_⟩⟩
  · rw [t.I (disj_ok hd (inL_in (o := 102) (lo := 1) (hi := 2) (by decide) (by omega) (by omega)))]; exact c2
  · rw [t.I (disj_ok hd (inL_in (o := 103) (lo := 0) (hi := 400) (by decide) (by omega) hj))]; exact (c3 j hj).2
theorem drop_c {α : Type} {l r : List α} {q : Nat} {c : α} (d : α) (h : l.drop q = c :: r) : q < l.length ∧ l.getD q d = c ∧ l.drop (q + 1) = r := by
  have h1 : q < l.length := by
    rcases Nat.lt_or_ge q l.length with z | z
    · exact z
    · rw [List.drop_eq_nil_of_le z] at h; cases h
  rw [List.drop_eq_getElem_cons h1] at h
  injection h with h2 h3
  exact ⟨h1, by rw [List.getD_eq_getElem?_getD, List.getElem?_eq_getElem h1]; exact h2, h3⟩
theorem isX_y (h : PH) : isX h (gX h).1 = some () := if_pos rfl
theorem jshr_w : jshr (nI wlen) 0 = nI 143 := by decide
theorem str_len (h : PH) : f_Str_length (gX h).1 h = some (nI 143, h) := by
  have e : rtB 0 h = some (0, h) := if_pos (by decide)
  have e1 : gvX h (gX h).1 = some (gX h).2.1 := if_pos rfl
  have e2 : lnX h (gX h).2.1 = some (nI wlen) := if_pos rfl
  have e3 : gcX h (gX h).1 = some 0 := if_pos rfl
  have e4 : f_Str_coder (gX h).1 h = some (0, h) := by
    unfold f_Str_coder
    rw [if_neg (by decide), e3, bind_some', e]
  unfold f_Str_length
  rw [e1, bind_some', e2, bind_some', isX_y, bind_some', e4, bind_some', jshr_w]
set_option maxRecDepth 10000 in
theorem wch : ∀ j : Fin 143, ((wbyt.getD j.val 0 &&& 255).toUInt32 % 65536).toInt32 = wbyt.getD j.val 0 ∧ ((wbyt.getD j.val 0).toUInt32 % 65536).toInt32 = wbyt.getD j.val 0 := by decide
theorem str_char {j : Nat} (hj : j < 143) (h : PH) : f_Str_charAt (gX h).1 (nI j) h = some (wbyt.getD j 0, h) := by
  obtain ⟨w1, w2⟩ := wch ⟨j, hj⟩
  have w1 : ((wbyt.getD j 0 &&& 255).toUInt32 % 65536).toInt32 = wbyt.getD j 0 := w1
  have w2 : ((wbyt.getD j 0).toUInt32 % 65536).toInt32 = wbyt.getD j 0 := w2
  have e0 : f_Str_isLatin1 (gX h).1 h = some (1, h) := by
    unfold f_Str_isLatin1
    rw [if_neg (by decide), show gcX h (gX h).1 = some 0 from if_pos rfl, bind_some', if_pos rfl, rtZ_1]
  have e1 : gvX h (gX h).1 = some (gX h).2.1 := if_pos rfl
  have e2 : lnX h (gX h).2.1 = some (nI wlen) := if_pos rfl
  have e3 : f_Str_checkIndex (nI j) (nI wlen) h = some h := by
    unfold f_Str_checkIndex
    rw [if_neg (nI_pos (by omega)), if_pos (by rw [nI_lt' (by omega) (by decide)]; exact hj)]
  have e4 : rdX h (gX h).2.1 (nI j) = some (wbyt.getD j 0) := by
    unfold rdX
    rw [if_pos ⟨rfl, inb_nI hj (by decide)⟩, tn_nI (by omega)]
  have e5 : rtC (wbyt.getD j 0) h = some (wbyt.getD j 0, h) := if_pos w2
  have e6 : f_Lat_charAt (gX h).2.1 (nI j) h = some (wbyt.getD j 0, h) := by
    unfold f_Lat_charAt
    rw [e2, bind_some', e3, bind_some', e4, bind_some', w1, e5]
  unfold f_Str_charAt
  rw [isX_y, bind_some', e0, bind_some']
  rw [if_neg (show ¬ ((1 : Int32), h).1 = 0 by show ¬ (1 : Int32) = 0; decide)]
  show ((gvX h (gX h).1).bind fun v4 => (f_Lat_charAt v4 (nI j) h).bind fun p5 => rtC p5.1 p5.2) = _
  rw [e1, bind_some', e6, bind_some', e5]
theorem nI_s (m : Nat) : nI m + 1 = nI (m + 1) := nI_addL m
section CSCAN
variable {h : PH} {b n : Nat} {B : Nat → Nat}
theorem XRC.rd (C : XRC h b n B) {j : Nat} (hj : j < 400) : rdA h (b + 103) (nI j) = some (nI (B j)) := by
  obtain ⟨s, -, -, c⟩ := C
  have K103 : gK h (b + 103) = (1, 400) := s.K 103 (by decide) rfl
  exact rd_at K103 hj (by omega) (c j hj).2
theorem XRC.len (C : XRC h b n B) : ldI h 4 (b + 102) 1 = some (nI n) ∧ ldR h 4 (b + 102) 0 = some (b + 103) ∧ lnA h (b + 103) = some (nI 400) := by
  obtain ⟨s, -, c, -⟩ := C
  have K102 : gK h (b + 102) = (0, 4) := s.K 102 (by decide) rfl
  have K103 : gK h (b + 103) = (1, 400) := s.K 103 (by decide) rfl
  have R102_0 : gR h (b + 102) 0 = some (b + 103) := s.R 102 0 rfl
  exact ⟨by unfold ldI; rw [if_pos K102, c], by unfold ldR; rw [if_pos K102, R102_0], by unfold lnA; rw [K103]; rfl⟩
theorem wo_one (C : XRC h b n B) {M p e m q : Nat} {x3 f : Int32} (hq : q < 143) (hm : m < 100000) (he : e ≤ 400) : f_Reader_wordOf_11 (M + 1) (b + 102) (nI p) (nI e) x3 (nI m) f (nI q) h =
    if wbyt.getD q 0 = 32 then (if f = 0 then f_Reader_wordOf_11 M (b + 102) (nI p) (nI e) (x3 + 1) (nI p) 1 (nI (q + 1)) h else if m = e then some (20000 + x3, h) else f_Reader_wordOf_11 M (b + 102) (nI p) (nI e) (x3 + 1) (nI p) 1 (nI (q + 1)) h)
    else if f = 0 then f_Reader_wordOf_11 M (b + 102) (nI p) (nI e) x3 (nI (m + 1)) 0 (nI (q + 1)) h else if e ≤ m then f_Reader_wordOf_11 M (b + 102) (nI p) (nI e) x3 (nI (m + 1)) 0 (nI (q + 1)) h
    else if nI (B m) = wbyt.getD q 0 then f_Reader_wordOf_11 M (b + 102) (nI p) (nI e) x3 (nI (m + 1)) 1 (nI (q + 1)) h else f_Reader_wordOf_11 M (b + 102) (nI p) (nI e) x3 (nI (m + 1)) 0 (nI (q + 1)) h := by
  obtain ⟨l1, l2, l3⟩ := C.len
  have e1 : ¬ nI 143 ≤ nI q := by rw [nI_le' (by omega) (by omega)]; omega
  have e2 : nI m = nI e ↔ m = e := nI_eq' (by omega) (by omega)
  have e3 : nI e ≤ nI m ↔ e ≤ m := nI_le' (by omega) (by omega)
  rw [f_Reader_wordOf_11]
  rw [isX_y, bind_some', str_len, bind_some']
  rw [if_neg e1]
  show ((isX h (gX h).1).bind fun _ => (f_Str_charAt (gX h).1 (nI q) h).bind fun p3 => _) = _
  rw [isX_y, bind_some', str_char hq, bind_some']
  by_cases c1 : wbyt.getD q 0 = 32
  · rw [if_pos c1, if_pos c1]
    by_cases c2 : f = 0
    · rw [if_pos c2, if_pos c2]
      unfold f_Reader_wordOf_100
      rw [nI_s]
    · rw [if_neg c2, if_neg c2]
      by_cases c3 : m = e
      · rw [if_pos (e2.mpr c3), if_pos c3]
      · rw [if_neg (fun z => c3 (e2.mp z)), if_neg c3]
        unfold f_Reader_wordOf_100
        rw [nI_s]
  · rw [if_neg c1, if_neg c1]
    by_cases c2 : f = 0
    · rw [if_pos c2, if_pos c2]
      unfold f_Reader_wordOf_74 f_Reader_wordOf_75
      rw [nI_s, nI_s]
    · rw [if_neg c2, if_neg c2]
      by_cases c3 : e ≤ m
      · rw [if_pos (e3.mpr c3), if_pos c3]
        unfold f_Reader_wordOf_74 f_Reader_wordOf_75
        rw [nI_s, nI_s]
      · rw [if_neg (fun z => c3 (e3.mp z)), if_neg c3]
        show ((ldR h 4 (b + 102) 0).bind fun v5 => (lnA h v5).bind fun v6 => _) = _
        rw [l2, bind_some', l3, bind_some', if_neg (by rw [nI_le' (by omega) (by omega)]; omega)]
        rw [bind_some']
        dsimp only
        rw [C.rd (show m < 400 by omega), bind_some']
        by_cases c4 : nI (B m) = wbyt.getD q 0
        · rw [if_pos c4, if_pos c4]
          unfold f_Reader_wordOf_75
          rw [nI_s, nI_s]
        · rw [if_neg c4, if_neg c4]
          unfold f_Reader_wordOf_74 f_Reader_wordOf_75
          rw [nI_s, nI_s]
theorem wo_chars (C : XRC h b n B) {M p e k : Nat} (he : e ≤ 400) (hp : p ≤ e) : ∀ (r tl : List Int32) (q j : Nat) (f : Int32), wbyt.drop q = r ++ 32 :: tl → (∀ c ∈ r, c ≠ 32) → (f = 0 ∨ (f = 1 ∧ p + j ≤ e)) → j ≤ q →
    f_Reader_wordOf_11 (M + (r.length + 1)) (b + 102) (nI p) (nI e) (nI k) (nI (p + j)) f (nI q) h = if f = 1 ∧ sgI B (e - (p + j)) (p + j) = r then some (nI (20000 + k), h) else f_Reader_wordOf_11 M (b + 102) (nI p) (nI e) (nI (k + 1)) (nI p) 1 (nI (q + r.length + 1)) h := by
  intro r
  induction r with
  | nil =>
    intro tl q j f hd hr hf hj
    obtain ⟨q1, q2, q3⟩ := drop_c (0 : Int32) (show wbyt.drop q = 32 :: tl from hd)
    have q1 : q < 143 := q1
    refine (wo_one C q1 (by omega) he).trans ?_
    rw [if_pos q2]
    rcases hf with rfl | ⟨rfl, hpe⟩
    · rw [if_pos rfl, if_neg (fun z => absurd z.1 (by decide)), nI_s]; rfl
    · rw [if_neg (by decide)]
      by_cases c : p + j = e
      · rw [if_pos c, if_pos ⟨rfl, by rw [show e - (p + j) = 0 by omega]; rfl⟩]
        rw [show (20000 : Int32) + nI k = nI (20000 + k) from L_addn k]
      · rw [if_neg c, if_neg, nI_s]
        · rfl
        · rintro ⟨-, z⟩
          rw [show e - (p + j) = (e - (p + j) - 1) + 1 by omega, sgI] at z
          cases z
  | cons c r ih =>
    intro tl q j f hd hr hf hj
    obtain ⟨q1, q2, q3⟩ := drop_c (0 : Int32) (show wbyt.drop q = c :: (r ++ 32 :: tl) from hd)
    have q1 : q < 143 := q1
    have hc : c ≠ 32 := hr c List.mem_cons_self
    have hr' : ∀ c ∈ r, c ≠ 32 := fun c hc => hr c (List.mem_cons_of_mem _ hc)
    refine (wo_one C (M := M + (r.length + 1)) q1 (by omega) he).trans ?_
    rw [q2, if_neg hc]
    have tail0 : f_Reader_wordOf_11 (M + (r.length + 1)) (b + 102) (nI p) (nI e) (nI k) (nI (p + j + 1)) 0 (nI (q + 1)) h = f_Reader_wordOf_11 M (b + 102) (nI p) (nI e) (nI (k + 1)) (nI p) 1 (nI (q + (c :: r).length + 1)) h := by
      have := ih tl (q + 1) (j + 1) 0 q3 hr' (Or.inl rfl) (by omega)
      rw [if_neg (fun z => absurd z.1 (by decide))] at this
      rw [show p + j + 1 = p + (j + 1) by omega, this, List.length_cons, show q + 1 + r.length + 1 = q + (r.length + 1) + 1 by omega]
    rcases hf with rfl | ⟨rfl, hpe⟩
    · rw [if_pos rfl, if_neg (fun z => absurd z.1 (by decide)), tail0]
    · rw [if_neg (by decide)]
      by_cases c3 : e ≤ p + j
      · rw [if_pos c3, tail0, if_neg]
        rintro ⟨-, z⟩
        rw [show e - (p + j) = 0 by omega] at z
        cases z
      · rw [if_neg c3, show e - (p + j) = (e - (p + j + 1)) + 1 by omega, sgI]
        by_cases c4 : nI (B (p + j)) = c
        · rw [if_pos c4]
          have := ih tl (q + 1) (j + 1) 1 q3 hr' (Or.inr ⟨rfl, by omega⟩) (by omega)
          rw [show p + j + 1 = p + (j + 1) by omega, this, c4, List.length_cons, show q + 1 + r.length + 1 = q + (r.length + 1) + 1 by omega]
          by_cases z : sgI B (e - (p + (j + 1))) (p + (j + 1)) = r
          · rw [if_pos ⟨rfl, z⟩, if_pos ⟨rfl, by rw [z]⟩]
          · rw [if_neg (fun y => z y.2), if_neg (fun y => z (by have := y.2; injection this))]
        · rw [if_neg c4, tail0, if_neg]
          rintro ⟨-, z⟩
          injection z with z1 z2
          exact c4 z1
theorem wo_words (C : XRC h b n B) {p e : Nat} (he : e ≤ 400) (hp : p ≤ e) : ∀ (ws : List (List Int32)) (M k q : Nat), wbyt.drop q = fla ws → q ≤ 143 → (∀ w ∈ ws, ∀ c ∈ w, c ≠ 32) → f_Reader_wordOf_11 (M + 1 + (fla ws).length) (b + 102) (nI p) (nI e) (nI k) (nI p) 1 (nI q) h = some ((match fix (sgI B (e - p) p) ws k with | some w => nI (20000 + w) | none => -2), h)
  | [], M, k, q, hd, hb, hw => by
    have hq : wbyt.length ≤ q := by
      rcases Nat.lt_or_ge q wbyt.length with z | z
      · have hd : wbyt.drop q = [] := hd
        rw [List.drop_eq_getElem_cons z] at hd
        cases hd
      · exact z
    have hq : 143 ≤ q := hq
    show f_Reader_wordOf_11 (M + 1) (b + 102) (nI p) (nI e) (nI k) (nI p) 1 (nI q) h = some (-2, h)
    rw [f_Reader_wordOf_11, isX_y, bind_some', str_len, bind_some', if_pos (by rw [nI_le' (by omega) (by omega)]; exact hq)]
  | w :: ws, M, k, q, hd, hb, hw => by
    have h1 : f_Reader_wordOf_11 (M + 1 + (fla ws).length + (w.length + 1)) (b + 102) (nI p) (nI e) (nI k) (nI p) 1 (nI q) h = if (1 : Int32) = 1 ∧ sgI B (e - p) p = w then some (nI (20000 + k), h) else f_Reader_wordOf_11 (M + 1 + (fla ws).length) (b + 102) (nI p) (nI e) (nI (k + 1)) (nI p) 1 (nI (q + w.length + 1)) h := wo_chars C (M := M + 1 + (fla ws).length) (k := k) he hp w (fla ws) q 0 1 hd (hw w List.mem_cons_self) (Or.inr ⟨rfl, hp⟩) (by omega)
    have hd : wbyt.drop q = w ++ 32 :: fla ws := hd
    have hl : (wbyt.drop q).length = (w ++ 32 :: fla ws).length := by rw [hd]
    rw [List.length_drop, List.length_append, List.length_cons, show wbyt.length = 143 from rfl] at hl
    rw [show M + 1 + (fla (w :: ws)).length = M + 1 + (fla ws).length + (w.length + 1) by
      show M + 1 + (w ++ 32 :: fla ws).length = _
      rw [List.length_append, List.length_cons]; omega]
    rw [h1]
    unfold fix
    by_cases z : sgI B (e - p) p = w
    · rw [if_pos ⟨rfl, z⟩, if_pos z]
    · rw [if_neg (fun y => z y.2), if_neg z]
      have hd2 : wbyt.drop (q + w.length + 1) = fla ws := by
        have h2 : (wbyt.drop q).drop (w.length + 1) = fla ws := by
          rw [hd, show w ++ 32 :: fla ws = (w ++ [32]) ++ fla ws by simp]
          exact List.drop_left' (by simp)
        rw [List.drop_drop] at h2
        rw [show q + w.length + 1 = q + (w.length + 1) by omega]
        exact h2
      exact wo_words C he hp ws M (k + 1) (q + w.length + 1) hd2 (by omega) (fun v hv => hw v (List.mem_cons_of_mem _ hv))
end CSCAN
set_option maxRecDepth 10000 in
theorem cwd_ns : ∀ w ∈ cwd, ∀ c ∈ w, c ≠ 32 := by decide
theorem cl_wordOf {h : PH} {b n : Nat} {B : Nat → Nat} (C : XRC h b n B) {p e : Nat} (he : e ≤ 400) (hp : p ≤ e) : f_Reader_wordOf (b + 102) (nI p) (nI e) h = some ((match fix (sgI B (e - p) p) cwd 0 with | some w => nI (20000 + w) | none => -2), h) := by
  have h1 := wo_words C he hp cwd 69856 0 0 (by rw [fla_c]; rfl) (by omega) cwd_ns
  rw [show (fla cwd).length = 143 by rw [fla_c]; rfl] at h1
  unfold f_Reader_wordOf
  rw [show FU = 69856 + 1 + 143 from rfl]
  exact h1
def bI (x : Bool) : Int32 := if x = true then 1 else 0
theorem bI_0 {x : Bool} : bI x = 0 ↔ x = false := by cases x <;> decide
theorem cl_isL {x : Nat} (hx : x ≤ 255) (h : PH) : f_Reader_isLetter (nI x) h = some (bI (txL x), h) := by
  have e1 : nI x < 97 ↔ x < 97 := nI_ltL (n := 97) (by omega) (by decide)
  have e2 : nI x ≤ 122 ↔ x ≤ 122 := nI_leL (n := 122) (by omega) (by decide)
  have e3 : nI x < 65 ↔ x < 65 := nI_ltL (n := 65) (by omega) (by decide)
  have e4 : 90 < nI x ↔ 90 < x := L_ltn (n := 90) (by omega) (by decide)
  unfold f_Reader_isLetter f_Reader_isLetter_12 f_Reader_isLetter_24
  simp only [e1, e2, e3, e4, rtZ_0, rtZ_1]
  by_cases c1 : x < 97
  · rw [if_pos c1]
    by_cases c2 : x < 65
    · rw [if_pos c2, show txL x = false by unfold txL; simp; omega]; rfl
    · rw [if_neg c2]
      by_cases c3 : 90 < x
      · rw [if_pos c3, show txL x = false by unfold txL; simp; omega]; rfl
      · rw [if_neg c3, show txL x = true by unfold txL; simp; omega]; rfl
  · rw [if_neg c1]
    by_cases c2 : x ≤ 122
    · rw [if_pos c2, show txL x = true by unfold txL; simp; omega]; rfl
    · rw [if_neg c2, if_neg (by omega), if_pos (by omega), show txL x = false by unfold txL; simp; omega]; rfl
theorem cl_isD {x : Nat} (hx : x ≤ 255) (h : PH) : f_Reader_isDigit (nI x) h = some (bI (txD x), h) := by
  have e3 : nI x < 48 ↔ x < 48 := nI_ltL (n := 48) (by omega) (by decide)
  have e4 : 57 < nI x ↔ 57 < x := L_ltn (n := 57) (by omega) (by decide)
  unfold f_Reader_isDigit
  simp only [e3, e4, rtZ_0, rtZ_1]
  by_cases c2 : x < 48
  · rw [if_pos c2, show txD x = false by unfold txD; simp; omega]; rfl
  · rw [if_neg c2]
    by_cases c3 : 57 < x
    · rw [if_pos c3, show txD x = false by unfold txD; simp; omega]; rfl
    · rw [if_neg c3, show txD x = true by unfold txD; simp; omega]; rfl
theorem txLD {x : Nat} (h : txL x = true) : txD x = false := by
  unfold txL at h
  unfold txD
  simp at h ⊢
  omega
theorem nmv_s {B : Nat → Nat} {p k : Nat} : nmv B p (k + 1) = nmv B p k * 10 + (B (p + k) - 48) := rfl
theorem nm_15 {h : PH} {b n : Nat} {B : Nat → Nat} (C : XRC h b n B) {p e : Nat} (he : e ≤ 400) (e4 : e - p ≤ 4) (hD : ∀ j, p ≤ j → j < e → txD (B j) = true) : ∀ d N k, p + k + d = e → d < N → f_Reader_numberOf_15 N (b + 102) (nI e) (nI (nmv B p k)) (nI (p + k)) h = some (nI (nmv B p (e - p)), h) := by
  intro d
  induction d with
  | zero =>
    intro N k hk hN
    obtain ⟨M, rfl⟩ : ∃ M, N = M + 1 := ⟨N - 1, by omega⟩
    rw [f_Reader_numberOf_15, if_pos (by rw [nI_le' (by omega) (by omega)]; omega), show e - p = k by omega]
  | succ d ih =>
    intro N k hk hN
    obtain ⟨M, rfl⟩ : ∃ M, N = M + 1 := ⟨N - 1, by omega⟩
    obtain ⟨l1, l2, l3⟩ := C.len
    rw [f_Reader_numberOf_15, if_neg (by rw [nI_le' (by omega) (by omega)]; omega), l2, bind_some', l3, bind_some', if_neg (by rw [nI_le' (by omega) (by omega)]; omega), bind_some', C.rd (show p + k < 400 by omega), bind_some', nI_s]
    have h1 := hD (p + k) (by omega) (by omega)
    unfold txD at h1
    simp only [Bool.and_eq_true, decide_eq_true_eq] at h1
    have h2 : nmv B p k < 10 ^ k := nmv_lt k (fun j a c => hD j a (by omega))
    have h3 : (10 : Nat) ^ k ≤ 10000 := pow10_4 k (by omega)
    rw [show nI (nmv B p k) * 10 + nI (B (p + k)) - 48 = nI (nmv B p (k + 1)) by
      rw [show nI (nmv B p k) * 10 = nI (nmv B p k * 10) from nI_mulL (nmv B p k), nI_add, show nI (nmv B p k * 10 + B (p + k)) - 48 = nI (nmv B p k * 10 + B (p + k) - 48) from nI_subL _ (by show 48 ≤ _; omega)]
      rw [nmv_s]
      congr 1
      omega]
    exact ih M (k + 1) (by omega) (by omega)
theorem cl_numberOf {h : PH} {b n : Nat} {B : Nat → Nat} (C : XRC h b n B) {p e : Nat} (he : e ≤ 400) (hp : p ≤ e) (hD : ∀ j, p ≤ j → j < e → txD (B j) = true) : f_Reader_numberOf (b + 102) (nI p) (nI e) h = some ((if e - p ≤ 4 then nI (nmv B p (e - p)) else -2), h) := by
  unfold f_Reader_numberOf
  rw [show nI e - nI p = nI (e - p) from pk_sub hp]
  have e1 : nI (e - p) ≤ 4 ↔ e - p ≤ 4 := nI_leL (n := 4) (by omega) (by decide)
  by_cases c : e - p ≤ 4
  · rw [if_pos (e1.mpr c), if_pos c]
    exact nm_15 C he c hD (e - p) FU 0 (by omega) (by rw [FU_eq]; omega)
  · rw [if_neg (fun z => c (e1.mp z)), if_neg c]
