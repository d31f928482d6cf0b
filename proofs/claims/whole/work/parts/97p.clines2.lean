section CLINES3
variable {b n c : Nat} {B : Nat → Nat}
/-- the end of a line: it is put down, and its sign passed -/
theorem cl_end {h h0 : PH} {i : Nat} {cs : XCS} {ls : XLS} (C : XCR h b n B c i cs) (t0 : Sn LCP b h0 h) (rw0 : RwL h0 b 110 ls) (hl : cs.length ≤ i) (hs : ls.length < 16) (x1 x2 x3 x4 : Nat) : XLO h0 b n B c 110 (if tkA B n i = 10059 then .ok (i + 1, cs, ls ++ [(x1, x2, x3, x4)]) else .error (1, i)) ((f_Row_put (b + 110) (nI x1) (nI x2) (nI x3) (nI x4) h).bind fun p3 => (isO p3.2 4 (b + 102)).bind fun _ => (f_Reader_pass (b + 102) 10059 p3.2).bind fun p5 => rtZ p5.1 p5.2) := by
  have hn := C.hn
  obtain ⟨h5, zz, p1, p2, p3, p4⟩ := C.row (by omega) (Or.inr rfl) (rw0.cp (Or.inr rfl) t0) hs x1 x2 x3 x4
  rw [p1, bind_some']
  dsimp only
  rw [isO_y p3.K.1, bind_some']
  have ps := cl_pass p3 (t := 10059) (by decide)
  by_cases c9 : tkA B n i = 10059
  · rw [if_pos c9] at ps ⊢
    obtain ⟨h6, z1, z2, z3⟩ := ps
    rw [z1, bind_some']
    exact ⟨h6, rtZ_1, ((lcp_lct t0).tr p2).tr (lcp_lct z2), z3, p4.cp (Or.inr rfl) z2, by show cs.length ≤ i + 1; omega⟩
  · rw [if_neg c9] at ps ⊢
    obtain ⟨h6, z1, z2, z3⟩ := ps
    rw [z1, bind_some']
    exact ⟨h6, rtZ_0, ((lcp_lct t0).tr p2).tr (lcp_lct z2), z3⟩
theorem deT {t : Int32} (k : TkK t) : (∃ w, w ≤ 5 ∧ t = nI (20013 + w)) ∧ ¬ t < 20013 ∧ t ≤ 20018 ∧ (20013 ≤ t.toNatClampNeg ∧ t.toNatClampNeg ≤ 20018) ∨ (t < 20013 ∨ (¬ t < 20013 ∧ ¬ t ≤ 20018)) ∧ ¬ (20013 ≤ t.toNatClampNeg ∧ t.toNatClampNeg ≤ 20018) := by
  have gen : ∀ x : Nat, x < 100000 → (∃ w, w ≤ 5 ∧ nI x = nI (20013 + w)) ∧ ¬ nI x < 20013 ∧ nI x ≤ 20018 ∧ (20013 ≤ (nI x).toNatClampNeg ∧ (nI x).toNatClampNeg ≤ 20018) ∨ (nI x < 20013 ∨ (¬ nI x < 20013 ∧ ¬ nI x ≤ 20018)) ∧ ¬ (20013 ≤ (nI x).toNatClampNeg ∧ (nI x).toNatClampNeg ≤ 20018) := by
    intro x hx
    have z1 : nI x < 20013 ↔ x < 20013 := nI_ltL (n := 20013) (by omega) (by decide)
    have z2 : nI x ≤ 20018 ↔ x ≤ 20018 := nI_leL (n := 20018) (by omega) (by decide)
    rw [z1, z2, tn_nI (by omega)]
    by_cases q : 20013 ≤ x ∧ x ≤ 20018
    · exact Or.inl ⟨⟨x - 20013, by omega, by rw [show 20013 + (x - 20013) = x by omega]⟩, by omega, q.2, q⟩
    · exact Or.inr ⟨by omega, q⟩
  rcases k with e | e | ⟨x, x1, e⟩ | ⟨x, x1, e⟩ | ⟨x, x1, e⟩
  · rw [e]; exact Or.inr (by decide)
  · rw [e]; exact Or.inr (by decide)
  · rw [e]; exact gen x (by omega)
  · rw [e]; exact gen _ (by omega)
  · rw [e]; exact gen _ (by omega)
theorem cl_shiftLine {h : PH} {i nt no : Nat} {cs : XCS} {ls : XLS} (CT : XCT h b n B c 110 i cs ls) (hnt : nt ≤ 12) (hno : no ≤ 6) : XLO h b n B c 110 (sfS (tkA B n) nt no i cs ls) (f_Reader_shiftLine (b + 102) (nI nt) (nI no) h) := by
  obtain ⟨C, rw0, hl⟩ := CT
  have hn := C.hn
  have s := C.1.1
  have hs16 := rw0.2.2.1
  have hl4 : cs.length ≤ 400 := by omega
  unfold f_Reader_shiftLine sfS
  rw [ldR_y C.K.1 (s.R 102 5 rfl), bind_some', ldI_y (s.K 110 (by decide) rfl), bind_some', rw0.2.1, isO_y C.K.1, bind_some']
  have bg := cl_begin C (t := 20025) (by decide) (m := ls.length) hs16
  by_cases q : tkA B n i = 20025
  rotate_left
  · rw [if_neg q] at bg ⊢
    obtain ⟨h1, a1, a2, a3⟩ := bg
    rw [a1, bind_some']
    exact ⟨h1, by rw [if_pos rfl, rtZ_0], lcp_lct a2, a3⟩
  rw [if_pos q] at bg ⊢
  by_cases q16 : ls.length = 16
  · rw [if_pos q16] at bg ⊢
    obtain ⟨h1, a1, a2, a3⟩ := bg
    rw [a1, bind_some']
    exact ⟨h1, by rw [if_pos rfl, rtZ_0], lcp_lct a2, a3⟩
  rw [if_neg q16] at bg ⊢
  obtain ⟨h1, a1, a2, a3⟩ := bg
  have a3 : XCR h1 b n B c (i + 1) cs := a3
  rw [a1, bind_some']
  dsimp only
  rw [if_neg n10, isO_y a3.K.1, bind_some']
  have u := cl_passN a3 hl4 (below := 1000) (by omega) (o := none) (fun x hx => by cases hx)
  rw [show oI none = -1 from rfl, show nI 1000 = 1000 from rfl] at u
  cases e : nmS (tkA B n) 1000 none (i + 1) with
  | error er =>
    rw [e] at u
    obtain ⟨h2, u1, u2, u3⟩ := u
    rw [u1, bind_some']
    exact ⟨h2, by rw [if_pos rfl, rtZ_0], lcp_lct (a2.tr u2), u3⟩
  | ok hr =>
    rw [e] at u
    obtain ⟨h2, u1, u2, u3, u4, u5⟩ := u
    have u3 : XCR h2 b n B c (i + 2) cs := u3
    rw [u1, bind_some']
    dsimp only
    rw [if_neg n10, ldI_y u3.K.1, bind_some', u4, u3.t9, bind_some', bind_some', bind_some']
    have bad : ∃ h', f_Reader_shiftLine_55 (b + 102) h2 = some (0, h') ∧ Sn LCT b h h' ∧ gI h' (b + 102) 2 = nI 1 ∧ gI h' (b + 102) 3 = nI (psN B n (i + 2)) := by
      unfold f_Reader_shiftLine_55
      rw [isO_y u3.K.1, bind_some']
      obtain ⟨h', z1, z2, z3⟩ := u3.err (k := 1) (x := 1) rfl
      exact ⟨h', z1, lcp_lct ((a2.tr u2).tr z2), z3⟩
    rcases deT (u3.tk (i + 2)) with ⟨⟨w, w5, ew⟩, d1, d2, d3⟩ | ⟨d1, d3⟩
    rotate_left
    · rw [if_neg d3]
      rcases d1 with d1 | ⟨d1, d2⟩
      · rw [if_pos d1]; exact bad
      · rw [if_neg d1, if_neg d2]; exact bad
    rw [if_neg d1, if_pos d2, if_pos d3]
    have ne : tkA B n (i + 2) ≠ -1 := by rw [ew]; exact nI_ne_m1 (by omega)
    obtain ⟨h3, y1, y2, y3⟩ := cl_adv u3 (u3.lt ne)
    have y3 : XCR h3 b n B c (i + 3) cs := y3
    have wE : (tkA B n (i + 2)).toNatClampNeg - 20013 = w := by rw [ew, tn_nI (by omega)]; omega
    have wI' : tkA B n (i + 2) - 20013 = nI w := by rw [ew, show nI (20013 + w) - 20013 = nI (20013 + w - 20013) from nI_subL _ (Nat.le_add_right _ _), Nat.add_sub_cancel_left]
    have w3 : nI w = 3 ↔ w = 3 := nI_eqL (n := 3) (by omega) (by decide)
    have w4 : nI w = 4 ↔ w = 4 := nI_eqL (n := 4) (by omega) (by decide)
    have w5' : nI w = 5 ↔ w = 5 := nI_eqL (n := 5) (by omega) (by decide)
    have w0 : nI w = 0 ↔ w = 0 := nI_eqL (n := 0) (by omega) (by decide)
    rw [isO_y u3.K.1, bind_some', y1, bind_some', wI', wE]
    have t3 := (a2.tr u2).tr y2
    have go : XLO h b n B c 110 (match nmS (tkA B n) (dbl nt no w) none (i + 3) with
      | .error e => .error e
      | .ok who => if w = 0 ∨ w = 3 then (if tkA B n (i + 4) = 20026 then (match nmS (tkA B n) 4 none (i + 5) with
          | .error e => .error e
          | .ok v => if tkA B n (i + 6) = 10059 then .ok (i + 7, cs, ls ++ [(hr, w, who, v)]) else .error (1, i + 6)) else .error (1, i + 4))
        else if tkA B n (i + 4) = 10059 then .ok (i + 5, cs, ls ++ [(hr, w, who, who)]) else .error (1, i + 4)) (f_Reader_shiftLine_102 (b + 102) (nI hr) (nI w) (nI (dbl nt no w)) h3) := by
      have hdb : dbl nt no w ≤ 10000 := by unfold dbl; split; omega; split; omega; omega
      unfold f_Reader_shiftLine_102
      rw [isO_y y3.K.1, bind_some']
      have u := cl_passN y3 hl4 (below := dbl nt no w) hdb (o := none) (fun x hx => by cases hx)
      rw [show oI none = -1 from rfl] at u
      cases e2 : nmS (tkA B n) (dbl nt no w) none (i + 3) with
      | error er =>
        rw [e2] at u
        obtain ⟨h4, z1, z2, z3⟩ := u
        rw [z1, bind_some']
        exact ⟨h4, by rw [if_pos rfl, rtZ_0], lcp_lct (t3.tr z2), z3⟩
      | ok who =>
        rw [e2] at u
        obtain ⟨h4, z1, z2, z3, z4, z5⟩ := u
        have z3 : XCR h4 b n B c (i + 4) cs := z3
        have s4 := z3.1.1
        have t4 := t3.tr z2
        rw [z1, bind_some']
        dsimp only
        rw [if_neg n10, ldI_y z3.K.1, bind_some', z4]
        have gate : (w = 0 ∨ w = 3) → XLO h b n B c 110 (if tkA B n (i + 4) = 20026 then (match nmS (tkA B n) 4 none (i + 5) with
          | .error e => .error e
          | .ok v => if tkA B n (i + 6) = 10059 then .ok (i + 7, cs, ls ++ [(hr, w, who, v)]) else .error (1, i + 6)) else .error (1, i + 4)) (f_Reader_shiftLine_133 (b + 102) (nI hr) (nI w) (nI who) h4) := by
          intro _
          unfold f_Reader_shiftLine_133
          rw [isO_y z3.K.1, bind_some']
          have ps := cl_pass z3 (t := 20026) (by decide)
          by_cases c4 : tkA B n (i + 4) = 20026
          · rw [if_pos c4] at ps ⊢
            obtain ⟨h5, v1, v2, v3⟩ := ps
            have v3 : XCR h5 b n B c (i + 5) cs := v3
            rw [v1, bind_some']
            dsimp only
            rw [if_neg n10, isO_y v3.K.1, bind_some']
            have u := cl_passN v3 hl4 (below := 4) (by omega) (o := none) (fun x hx => by cases hx)
            rw [show oI none = -1 from rfl, show nI 4 = 4 from rfl] at u
            cases e3 : nmS (tkA B n) 4 none (i + 5) with
            | error er =>
              rw [e3] at u
              obtain ⟨h6, k1, k2, k3⟩ := u
              rw [k1, bind_some']
              exact ⟨h6, by rw [if_pos rfl, rtZ_0], lcp_lct ((t4.tr v2).tr k2), k3⟩
            | ok v =>
              rw [e3] at u
              obtain ⟨h6, k1, k2, k3, k4, k5⟩ := u
              have k3 : XCR h6 b n B c (i + 6) cs := k3
              have s6 := k3.1.1
              rw [k1, bind_some']
              dsimp only
              rw [if_neg n10]
              unfold f_Reader_shiftLine_154
              rw [ldR_y k3.K.1 (s6.R 102 5 rfl), bind_some', ldI_y k3.K.1, bind_some', k4, isO_y (s6.K 110 (by decide) rfl), bind_some']
              exact cl_end k3 ((t4.tr v2).tr k2) rw0 (by omega) (by omega) hr w who v
          · rw [if_neg c4] at ps ⊢
            obtain ⟨h5, v1, v2, v3⟩ := ps
            rw [v1, bind_some']
            exact ⟨h5, by rw [if_pos rfl, rtZ_0], lcp_lct (t4.tr v2), v3⟩
        by_cases c0 : w = 0
        · rw [if_pos (w0.mpr c0), if_pos (Or.inl c0)]; exact gate (Or.inl c0)
        rw [if_neg (fun z => c0 (w0.mp z))]
        by_cases c3 : w = 3
        · rw [if_pos (w3.mpr c3), if_pos (Or.inr c3)]; exact gate (Or.inr c3)
        rw [if_neg (fun z => c3 (w3.mp z)), if_neg (by rintro (z | z); exact c0 z; exact c3 z)]
        unfold f_Reader_shiftLine_154
        rw [ldR_y z3.K.1 (s4.R 102 5 rfl), bind_some', ldI_y z3.K.1, bind_some', z4, isO_y (s4.K 110 (by decide) rfl), bind_some']
        exact cl_end z3 t4 rw0 (by omega) (by omega) hr w who who
    by_cases c3 : w = 3
    · rw [if_pos (w3.mpr c3)]
      rw [show dbl nt no w = no by unfold dbl; rw [if_pos c3]] at go ⊢
      exact go
    rw [if_neg (fun z => c3 (w3.mp z))]
    by_cases c4 : w = 4
    · rw [if_pos (w4.mpr c4)]
      rw [show dbl nt no w = 4 by unfold dbl; rw [if_neg c3, if_pos (Or.inl c4)]] at go ⊢
      exact go
    rw [if_neg (fun z => c4 (w4.mp z))]
    by_cases c5 : w = 5
    · rw [if_pos (w5'.mpr c5)]
      rw [show dbl nt no w = 4 by unfold dbl; rw [if_neg c3, if_pos (Or.inr c5)]] at go ⊢
      exact go
    rw [if_neg (fun z => c5 (w5'.mp z))]
    rw [show dbl nt no w = nt by unfold dbl; rw [if_neg c3, if_neg (by omega)]] at go ⊢
    exact go
theorem cl_roadLine {h : PH} {i : Nat} {cs : XCS} {ls : XLS} (CT : XCT h b n B c 110 i cs ls) : XLO h b n B c 110 (roS (tkA B n) i cs ls) (f_Reader_roadLine (b + 102) h) := by
  obtain ⟨C, rw0, hl⟩ := CT
  have hn := C.hn
  have s := C.1.1
  have hs16 := rw0.2.2.1
  have hl4 : cs.length ≤ 400 := by omega
  unfold f_Reader_roadLine roS
  rw [ldR_y C.K.1 (s.R 102 5 rfl), bind_some', ldI_y (s.K 110 (by decide) rfl), bind_some', rw0.2.1, isO_y C.K.1, bind_some']
  have bg := cl_begin C (t := 20027) (by decide) (m := ls.length) hs16
  by_cases q : tkA B n i = 20027
  rotate_left
  · rw [if_neg q] at bg ⊢
    obtain ⟨h1, a1, a2, a3⟩ := bg
    rw [a1, bind_some']
    exact ⟨h1, by rw [if_pos rfl, rtZ_0], lcp_lct a2, a3⟩
  rw [if_pos q] at bg ⊢
  by_cases q16 : ls.length = 16
  · rw [if_pos q16] at bg ⊢
    obtain ⟨h1, a1, a2, a3⟩ := bg
    rw [a1, bind_some']
    exact ⟨h1, by rw [if_pos rfl, rtZ_0], lcp_lct a2, a3⟩
  rw [if_neg q16] at bg ⊢
  obtain ⟨h1, a1, a2, a3⟩ := bg
  have a3 : XCR h1 b n B c (i + 1) cs := a3
  rw [a1, bind_some']
  dsimp only
  rw [if_neg n10, isO_y a3.K.1, bind_some']
  have u := cl_passN a3 hl4 (below := 10) (by omega) (o := none) (fun x hx => by cases hx)
  rw [show oI none = -1 from rfl, show nI 10 = 10 from rfl] at u
  cases e : nmS (tkA B n) 10 none (i + 1) with
  | error er =>
    rw [e] at u
    obtain ⟨h2, u1, u2, u3⟩ := u
    rw [u1, bind_some']
    exact ⟨h2, by rw [if_pos rfl, rtZ_0], lcp_lct (a2.tr u2), u3⟩
  | ok x =>
    rw [e] at u
    obtain ⟨h2, u1, u2, u3, u4, u5⟩ := u
    have u3 : XCR h2 b n B c (i + 2) cs := u3
    rw [u1, bind_some']
    dsimp only
    rw [if_neg n10, ldI_y u3.K.1, bind_some', u4, isO_y u3.K.1, bind_some']
    have u' := cl_passN u3 hl4 (below := 10) (by omega) (o := some x) (fun z hz => by injection hz with hz; omega)
    rw [show oI (some x) = nI x from rfl, show nI 10 = 10 from rfl] at u'
    cases e2 : nmS (tkA B n) 10 (some x) (i + 2) with
    | error er =>
      rw [e2] at u'
      obtain ⟨h3, z1, z2, z3⟩ := u'
      rw [z1, bind_some']
      exact ⟨h3, by rw [if_pos rfl, rtZ_0], lcp_lct ((a2.tr u2).tr z2), z3⟩
    | ok y =>
      rw [e2] at u'
      obtain ⟨h3, z1, z2, z3, z4, z5⟩ := u'
      have z3 : XCR h3 b n B c (i + 3) cs := z3
      rw [z1, bind_some']
      dsimp only
      rw [if_neg n10, ldI_y z3.K.1, bind_some', z4, isO_y z3.K.1, bind_some']
      have t3 := (a2.tr u2).tr z2
      have ps := cl_pass z3 (t := 20028) (by decide)
      by_cases c3 : tkA B n (i + 3) = 20028
      rotate_left
      · rw [if_neg c3] at ps ⊢
        obtain ⟨h5, v1, v2, v3⟩ := ps
        rw [v1, bind_some']
        exact ⟨h5, by rw [if_pos rfl, rtZ_0], lcp_lct (t3.tr v2), v3⟩
      rw [if_pos c3] at ps ⊢
      obtain ⟨h4, v1, v2, v3⟩ := ps
      have v3 : XCR h4 b n B c (i + 4) cs := v3
      rw [v1, bind_some']
      dsimp only
      rw [if_neg n10, isO_y v3.K.1, bind_some']
      have u := cl_passN v3 hl4 (below := 100) (by omega) (o := none) (fun x hx => by cases hx)
      rw [show oI none = -1 from rfl, show nI 100 = 100 from rfl] at u
      have t4 := t3.tr v2
      cases e3 : nmS (tkA B n) 100 none (i + 4) with
      | error er =>
        rw [e3] at u
        obtain ⟨h5, k1, k2, k3⟩ := u
        rw [k1, bind_some']
        exact ⟨h5, by rw [if_pos rfl, rtZ_0], lcp_lct (t4.tr k2), k3⟩
      | ok d =>
        rw [e3] at u
        obtain ⟨h5, k1, k2, k3, k4, k5⟩ := u
        have k3 : XCR h5 b n B c (i + 5) cs := k3
        have t5 := t4.tr k2
        rw [k1, bind_some']
        dsimp only
        rw [if_neg n10, ldI_y k3.K.1, bind_some', k4, isO_y k3.K.1, bind_some']
        have ps := cl_pass k3 (t := 20005) (by decide)
        by_cases c5 : tkA B n (i + 5) = 20005
        rotate_left
        · rw [if_neg c5] at ps ⊢
          obtain ⟨h6, l1, l2, l3⟩ := ps
          rw [l1, bind_some']
          exact ⟨h6, by rw [if_pos rfl, rtZ_0], lcp_lct (t5.tr l2), l3⟩
        rw [if_pos c5] at ps ⊢
        obtain ⟨h6, l1, l2, l3⟩ := ps
        have l3 : XCR h6 b n B c (i + 6) cs := l3
        have t6 := t5.tr l2
        rw [l1, bind_some']
        dsimp only
        rw [if_neg n10, isO_y l3.K.1, bind_some']
        have u := cl_passN l3 hl4 (below := 100) (by omega) (o := none) (fun x hx => by cases hx)
        rw [show oI none = -1 from rfl, show nI 100 = 100 from rfl] at u
        cases e4 : nmS (tkA B n) 100 none (i + 6) with
        | error er =>
          rw [e4] at u
          obtain ⟨h7, m1, m2, m3⟩ := u
          rw [m1, bind_some']
          exact ⟨h7, by rw [if_pos rfl, rtZ_0], lcp_lct (t6.tr m2), m3⟩
        | ok f =>
          rw [e4] at u
          obtain ⟨h7, m1, m2, m3, m4, m5⟩ := u
          have m3 : XCR h7 b n B c (i + 7) cs := m3
          have s7 := m3.1.1
          rw [m1, bind_some']
          dsimp only
          rw [if_neg n10, ldR_y m3.K.1 (s7.R 102 5 rfl), bind_some', ldI_y m3.K.1, bind_some', m4, isO_y (s7.K 110 (by decide) rfl), bind_some']
          exact cl_end m3 (t6.tr m2) rw0 (by omega) (by omega) x y d f
end CLINES3
