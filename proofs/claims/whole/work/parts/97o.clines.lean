section CLINES2
variable {b n c : Nat} {B : Nat → Nat}
theorem lwT {t : Int32} (k : TkK t) : ((t = 20000 ∨ t = 20001 ∨ t = 20002) ∧ ¬ t - 20000 < 0 ∧ t - 20000 ≤ 2 ∧ ∃ w, w ≤ 2 ∧ t - 20000 = nI w ∧ t.toNatClampNeg - 20000 = w) ∨ (¬ (t = 20000 ∨ t = 20001 ∨ t = 20002) ∧ (t - 20000 < 0 ∨ (¬ t - 20000 < 0 ∧ ¬ t - 20000 ≤ 2))) := by
  have low : ∀ x : Nat, x < 20000 → ¬ (nI x = 20000 ∨ nI x = 20001 ∨ nI x = 20002) ∧ (nI x - 20000 < 0 ∨ (¬ nI x - 20000 < 0 ∧ ¬ nI x - 20000 ≤ 2)) := by
    intro x hx
    refine ⟨?_, Or.inl (nI_neg (m := 20000) hx (by omega))⟩
    have z0 : nI x = 20000 ↔ x = 20000 := nI_eqL (n := 20000) (by omega) (by decide)
    have z1 : nI x = 20001 ↔ x = 20001 := nI_eqL (n := 20001) (by omega) (by decide)
    have z2 : nI x = 20002 ↔ x = 20002 := nI_eqL (n := 20002) (by omega) (by decide)
    rw [z0, z1, z2]; omega
  rcases k with e | e | ⟨x, x1, e⟩ | ⟨x, x1, e⟩ | ⟨x, x1, e⟩
  · rw [e]; exact Or.inr (by decide)
  · rw [e]; exact Or.inr (by decide)
  · rw [e]; exact Or.inr (low x (by omega))
  · rw [e]; exact Or.inr (low _ (by omega))
  · rw [e]
    have es : nI (20000 + x) - 20000 = nI x := by rw [show nI (20000 + x) - 20000 = nI (20000 + x - 20000) from nI_subL _ (by show 20000 ≤ _; omega), show 20000 + x - 20000 = x by omega]
    have z0 : nI (20000 + x) = 20000 ↔ 20000 + x = 20000 := nI_eqL (n := 20000) (by omega) (by decide)
    have z1 : nI (20000 + x) = 20001 ↔ 20000 + x = 20001 := nI_eqL (n := 20001) (by omega) (by decide)
    have z2 : nI (20000 + x) = 20002 ↔ 20000 + x = 20002 := nI_eqL (n := 20002) (by omega) (by decide)
    have zl : nI x ≤ 2 ↔ x ≤ 2 := nI_leL (n := 2) (by omega) (by decide)
    rw [es, z0, z1, z2, zl, tn_nI (by omega)]
    by_cases q : x ≤ 2
    · exact Or.inl ⟨by omega, nI_pos (by omega), q, x, q, rfl, by omega⟩
    · exact Or.inr ⟨by omega, Or.inr ⟨nI_pos (by omega), q⟩⟩
theorem XCR.row {h : PH} {a i : Nat} {cs : XCS} {ls : XLS} (C : XCR h b n B c i cs) (hl : cs.length ≤ 400) (ha : a = 105 ∨ a = 110) (r : RwL h b a ls) (hs : ls.length < 16) (x1 x2 x3 x4 : Nat) : ∃ h' z, f_Row_put (b + a) (nI x1) (nI x2) (nI x3) (nI x4) h = some (z, h') ∧ Sn LCT b h h' ∧ XCR h' b n B c i cs ∧ RwL h' b a (ls ++ [(x1, x2, x3, x4)]) := by
  obtain ⟨h', z, a1, a2, a3⟩ := r.put (L := [(105, 2, 3), (106, 0, 64), (110, 2, 3), (111, 0, 64)]) C.1.1 ha hs x1 x2 x3 x4 (by rcases ha with rfl | rfl <;> decide) (by rcases ha with rfl | rfl <;> decide)
  exact ⟨h', z, a1, a2.up (by decide), C.sn a2 (by decide) hl, a3⟩
theorem RwL.cp {h h2 : PH} {a : Nat} {ls : XLS} (ha : a = 105 ∨ a = 110) (r : RwL h b a ls) (t : Sn LCP b h h2) : RwL h2 b a ls := by
  rcases ha with rfl | rfl
  · exact r.sn t (by decide)
  · exact r.sn t (by decide)
theorem cl_lawLine {h : PH} {i K : Nat} {cs : XCS} {ls : XLS} (CT : XCT h b n B c 105 i cs ls) (hK : c < K) : XLO h b n B c 105 (lwS (tkA B n) K i cs ls) (f_Reader_lawLine (b + 102) h) := by
  obtain ⟨C, rw0, hl⟩ := CT
  have hn := C.hn
  have cE := C.cE
  have s := C.1.1
  obtain ⟨K1, K2, -, -, -⟩ := C.K
  have hs16 := rw0.2.2.1
  have bad : ∃ h', f_Reader_lawLine_18 (b + 102) h = some (0, h') ∧ Sn LCT b h h' ∧ gI h' (b + 102) 2 = nI 1 ∧ gI h' (b + 102) 3 = nI (psN B n i) := by
    unfold f_Reader_lawLine_18
    rw [isO_y K1, bind_some']
    obtain ⟨h', z1, z2, z3⟩ := C.err (k := 1) (x := 1) rfl
    exact ⟨h', z1, lcp_lct z2, z3⟩
  unfold f_Reader_lawLine lwS
  rw [C.t9, bind_some']
  rcases lwT (C.tk i) with ⟨q, q1, q2, w, w2, ew, ew2⟩ | ⟨q, q1⟩
  · have ne : tkA B n i ≠ -1 := by rcases q with z | z | z <;> rw [z] <;> decide
    rw [if_pos q, if_neg q1, if_pos q2, bind_some', ldR_y K1 (s.R 102 4 rfl), bind_some', ldR_y K2 (s.R 104 0 rfl), bind_some', ldI_y (s.K 105 (by decide) rfl), bind_some', rw0.2.1, isO_y K1, bind_some', ew, ew2]
    have bg := cl_begin C (t := tkA B n i) ne (m := ls.length) hs16
    rw [if_pos rfl] at bg
    by_cases q16 : ls.length = 16
    · rw [if_pos q16] at bg ⊢
      obtain ⟨h1, a1, a2, a3⟩ := bg
      rw [a1, bind_some']
      exact ⟨h1, by rw [if_pos rfl, rtZ_0], lcp_lct a2, a3⟩
    rw [if_neg q16] at bg ⊢
    obtain ⟨h1, a1, a2, a3⟩ := bg
    have a3 : XCR h1 b n B c (i + 1) cs := a3
    have hn1 := a3.hn
    have s1 := a3.1.1
    rw [a1, bind_some']
    dsimp only
    rw [if_neg n10, ldR_y a3.K.1 (s1.R 102 4 rfl), bind_some', ldI_y a3.K.2.1, bind_some', a3.2.2.2.2.2.1, isO_y a3.K.1, bind_some']
    have u := cl_sum a3 (by omega) hK
    have g := sum_gd cE (K := K) (i := i + 1) (cs := cs) hn1.2.2
    cases e : suS (tkA B n) K (i + 1) cs with
    | error er =>
      rw [e] at u
      obtain ⟨h2, u1, u2, u3⟩ := u
      rw [u1, bind_some']
      exact ⟨h2, by rw [if_pos rfl, rtZ_0], lcp_lct (a2.tr u2), u3⟩
    | ok r =>
      rw [e] at u g
      obtain ⟨h2, u1, u2, u3⟩ := u
      obtain ⟨g1, g2, v, g3, g4, -⟩ := g
      have hlr : r.2.length ≤ r.1 := by rw [g3, List.length_append]; omega
      have s2 := u3.1.1
      rw [u1, bind_some']
      dsimp only
      rw [if_neg n10, ldR_y u3.K.1 (s2.R 102 4 rfl), bind_some', ldI_y u3.K.2.1, bind_some', u3.2.2.2.2.2.1, u3.t9, bind_some']
      have rwl := (rw0.cp (Or.inl rfl) a2).cp (Or.inl rfl) u2
      have fin : ∀ (h3 : PH) (q : Nat × XCS), Sn LCT b h h3 → XCR h3 b n B c q.1 q.2 → RwL h3 b 105 ls → q.2.length ≤ q.1 → XLO h b n B c 105 (if tkA B n q.1 = 10059 then .ok (q.1 + 1, q.2, ls ++ [(w, cs.length, r.2.length, q.2.length)]) else .error (1, q.1)) (f_Reader_lawLine_96 (b + 102) (nI w) (nI cs.length) (nI r.2.length) h3) := by
        intro h3 q t3 C3 rw3 hq
        have hn3 := C3.hn
        have s3 := C3.1.1
        unfold f_Reader_lawLine_96
        obtain ⟨h4, z, p1, p2, p3, p4⟩ := C3.row (by omega) (Or.inl rfl) rw3 (by omega) w cs.length r.2.length q.2.length
        rw [ldR_y C3.K.1 (s3.R 102 4 rfl), bind_some', ldR_y C3.K.2.1 (s3.R 104 0 rfl), bind_some', bind_some', ldI_y C3.K.2.1, bind_some', C3.2.2.2.2.2.1, isO_y (s3.K 105 (by decide) rfl), bind_some', p1, bind_some']
        dsimp only
        rw [isO_y p3.K.1, bind_some']
        have ps := cl_pass p3 (t := 10059) (by decide)
        by_cases c9 : tkA B n q.1 = 10059
        · rw [if_pos c9] at ps ⊢
          obtain ⟨h5, z1, z2, z3⟩ := ps
          rw [z1, bind_some']
          exact ⟨h5, rtZ_1, (t3.tr p2).tr (lcp_lct z2), z3, p4.cp (Or.inl rfl) z2, by show q.2.length ≤ q.1 + 1; omega⟩
        · rw [if_neg c9] at ps ⊢
          obtain ⟨h5, z1, z2, z3⟩ := ps
          rw [z1, bind_some']
          exact ⟨h5, rtZ_0, (t3.tr p2).tr (lcp_lct z2), z3⟩
      by_cases c7 : tkA B n r.1 = 20019
      · rw [if_pos c7, isO_y u3.K.1, bind_some']
        obtain ⟨h3, y1, y2, y3⟩ := cl_adv u3 (u3.lt (by rw [c7]; decide))
        have hn3 := y3.hn
        rw [y1, bind_some', isO_y y3.K.1, bind_some']
        have u' := cl_cho y3 (by omega) hK
        have g' := cho_gd cE (K := K) (i := r.1 + 1) (cs := r.2) hn3.2.2
        rw [if_pos c7]
        cases e2 : chS (tkA B n) K 8 (r.1 + 1) r.2 with
        | error er =>
          rw [e2] at u'
          obtain ⟨h4, z1, z2, z3⟩ := u'
          rw [z1, bind_some']
          exact ⟨h4, by rw [if_pos rfl, rtZ_0], lcp_lct (((a2.tr u2).tr y2).tr z2), z3⟩
        | ok q =>
          rw [e2] at u' g'
          obtain ⟨h4, z1, z2, z3⟩ := u'
          obtain ⟨k1, k2, v', k3, k4, -⟩ := g'
          rw [z1, bind_some']
          dsimp only
          rw [if_neg n10]
          exact fin h4 q (lcp_lct (((a2.tr u2).tr y2).tr z2)) z3 ((rwl.cp (Or.inl rfl) y2).cp (Or.inl rfl) z2) (by rw [k3, List.length_append]; omega)
      · rw [if_neg c7]
        dsimp only
        rw [if_neg c7]
        exact fin h2 r (lcp_lct (a2.tr u2)) u3 rwl hlr
  · rw [if_neg q]
    rcases q1 with q1 | ⟨q1, q2⟩
    · rw [if_pos q1]; exact bad
    · rw [if_neg q1, if_neg q2]; exact bad
theorem cl_kinLine {h : PH} {i nt : Nat} {cs : XCS} {ls : XLS} (CT : XCT h b n B c 110 i cs ls) (hnt : nt ≤ 12) : XLO h b n B c 110 (knS (tkA B n) nt i cs ls) (f_Reader_kinLine (b + 102) (nI nt) h) := by
  obtain ⟨C, rw0, hl⟩ := CT
  have hn := C.hn
  have s := C.1.1
  have hs16 := rw0.2.2.1
  have hl4 : cs.length ≤ 400 := by omega
  unfold f_Reader_kinLine knS
  rw [ldR_y C.K.1 (s.R 102 5 rfl), bind_some', ldI_y (s.K 110 (by decide) rfl), bind_some', rw0.2.1, isO_y C.K.1, bind_some']
  have bg := cl_begin C (t := 20023) (by decide) (m := ls.length) hs16
  by_cases q : tkA B n i = 20023
  · rw [if_pos q] at bg ⊢
    by_cases q16 : ls.length = 16
    · rw [if_pos q16] at bg ⊢
      obtain ⟨h1, a1, a2, a3⟩ := bg
      rw [a1, bind_some']
      exact ⟨h1, by rw [if_pos rfl, rtZ_0], lcp_lct a2, a3⟩
    rw [if_neg q16] at bg ⊢
    obtain ⟨h1, a1, a2, a3⟩ := bg
    have a3 : XCR h1 b n B c (i + 1) cs := a3
    rw [a1, bind_some']
    dsimp only
    rw [if_neg n10, isO_y a3.K.1, bind_some']
    have u := cl_passN a3 hl4 (below := nt) (by omega) (o := none) (fun x hx => by cases hx)
    rw [show oI none = -1 from rfl] at u
    cases e : nmS (tkA B n) nt none (i + 1) with
    | error er =>
      rw [e] at u
      obtain ⟨h2, u1, u2, u3⟩ := u
      rw [u1, bind_some']
      exact ⟨h2, by rw [if_pos rfl, rtZ_0], lcp_lct (a2.tr u2), u3⟩
    | ok x =>
      rw [e] at u
      obtain ⟨h2, u1, u2, u3, u4, u5⟩ := u
      have u3 : XCR h2 b n B c (i + 2) cs := u3
      rw [u1, bind_some']
      dsimp only
      rw [if_neg n10, ldI_y u3.K.1, bind_some', u4, isO_y u3.K.1, bind_some']
      have ps := cl_pass u3 (t := 20024) (by decide)
      by_cases c4 : tkA B n (i + 2) = 20024
      · rw [if_pos c4] at ps ⊢
        obtain ⟨h3, y1, y2, y3⟩ := ps
        have y3 : XCR h3 b n B c (i + 3) cs := y3
        rw [y1, bind_some']
        dsimp only
        rw [if_neg n10, isO_y y3.K.1, bind_some']
        have u' := cl_passN y3 hl4 (below := nt) (by omega) (o := some x) (fun z hz => by injection hz with hz; omega)
        rw [show oI (some x) = nI x from rfl] at u'
        cases e2 : nmS (tkA B n) nt (some x) (i + 3) with
        | error er =>
          rw [e2] at u'
          obtain ⟨h4, z1, z2, z3⟩ := u'
          rw [z1, bind_some']
          exact ⟨h4, by rw [if_pos rfl, rtZ_0], lcp_lct (((a2.tr u2).tr y2).tr z2), z3⟩
        | ok y =>
          rw [e2] at u'
          obtain ⟨h4, z1, z2, z3, z4, z5⟩ := u'
          have z3 : XCR h4 b n B c (i + 4) cs := z3
          have s4 := z3.1.1
          rw [z1, bind_some']
          dsimp only
          have tt := ((a2.tr u2).tr y2).tr z2
          obtain ⟨h5, zz, p1, p2, p3, p4⟩ := z3.row hl4 (Or.inr rfl) (rw0.cp (Or.inr rfl) tt) (by omega) x y 0 0
          have p1 : f_Row_put (b + 110) (nI x) (nI y) 0 0 h4 = some (zz, h5) := p1
          rw [if_neg n10, ldR_y z3.K.1 (s4.R 102 5 rfl), bind_some', ldI_y z3.K.1, bind_some', z4, isO_y (s4.K 110 (by decide) rfl), bind_some', p1, bind_some']
          dsimp only
          rw [isO_y p3.K.1, bind_some']
          have ps := cl_pass p3 (t := 10059) (by decide)
          by_cases c9 : tkA B n (i + 4) = 10059
          · rw [if_pos c9] at ps ⊢
            obtain ⟨h6, x1, x2, x3⟩ := ps
            rw [x1, bind_some']
            exact ⟨h6, rtZ_1, ((lcp_lct tt).tr p2).tr (lcp_lct x2), x3, p4.cp (Or.inr rfl) x2, by show cs.length ≤ i + 5; omega⟩
          · rw [if_neg c9] at ps ⊢
            obtain ⟨h6, x1, x2, x3⟩ := ps
            rw [x1, bind_some']
            exact ⟨h6, rtZ_0, ((lcp_lct tt).tr p2).tr (lcp_lct x2), x3⟩
      · rw [if_neg c4] at ps ⊢
        obtain ⟨h3, y1, y2, y3⟩ := ps
        rw [y1, bind_some']
        exact ⟨h3, by rw [if_pos rfl, rtZ_0], lcp_lct ((a2.tr u2).tr y2), y3⟩
  · rw [if_neg q] at bg ⊢
    obtain ⟨h1, a1, a2, a3⟩ := bg
    rw [a1, bind_some']
    exact ⟨h1, by rw [if_pos rfl, rtZ_0], lcp_lct a2, a3⟩
end CLINES2
