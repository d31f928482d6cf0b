/-! ===== texts: the reference reads roads ===== -/
theorem wrb {h : PH} {a p : Nat} (K : gK h a = (1, 128)) (hp : p < 128) (v : Int32) : wrA h a (nI p) v = some (sI h a p v) ∧ rdA (sI h a p v) a (nI p) = some v :=
  ⟨wr_at K hp (by omega), rd_at (h := sI h a p v) K hp (by omega) (gI_q rfl rfl)⟩
def LMD : SL := [(131, 15, 19), (131, 28, 29), (131, 32, 34), (147, 800, 1200), (148, 800, 1200), (152, 64, 128)]
theorem lmp_lmd {b : Nat} {h h2 : PH} (t : Sn LMP b h h2) : Sn LMD b h h2 := t.up (by decide)
/-- what stands in the row of roads -/
def P52 (h : PH) (b : Nat) (f : Nat → Int32) : Prop := ∀ j, gI h (b + 152) j = f j
theorem P52.lmp {h h2 : PH} {b : Nat} {f : Nat → Int32} (p : P52 h b f) (t : Sn LMP b h h2) : P52 h2 b f := fun j => by rw [t.I (by simp [inL, LMP])]; exact p j
theorem P52.put {h : PH} {b k : Nat} {f : Nat → Int32} {v : Int32} (p : P52 h b f) : P52 (sI h (b + 152) k v) b (upr f k v) := fun j => by
  unfold upr
  by_cases e : j = k
  · rw [if_pos e, gI_q rfl e]
  · rw [if_neg e, gI_n2 e]; exact p j
def XMD (h : PH) (b n : Nat) (B : Nat → Nat) (c i : Nat) (cs : XCS) (ls : XLS) : Prop := XMR h b n B c i cs ∧ ls.length ≤ 16 ∧ cs.length ≤ 400 ∧ ∀ l, l < ls.length → gI h (b + 152) (64 + 4 * l) = nI (ls.getD l nL).1 ∧ gI h (b + 152) (64 + 4 * l + 1) = nI (ls.getD l nL).2.1 ∧ gI h (b + 152) (64 + 4 * l + 2) = nI (ls.getD l nL).2.2.1 ∧ gI h (b + 152) (64 + 4 * l + 3) = nI (ls.getD l nL).2.2.2
section MROAD
variable {b n c : Nat} {B : Nat → Nat}
theorem put52 {h : PH} {i : Nat} {cs : XCS} (C : XMR h b n B c i cs) (hl : cs.length ≤ 400) {p : Nat} (h1 : 64 ≤ p) (h2 : p < 128) (v : Int32) : Sn [(152, 64, 128)] b h (sI h (b + 152) p v) ∧ XMR (sI h (b + 152) p v) b n B c i cs := by
  have t : Sn [(152, 64, 128)] b h (sI h (b + 152) p v) := Sn.rf.put 152 _ _ (inL_in (lo := 64) (hi := 128) (by decide) h1 h2)
  exact ⟨t, C.sn t (by decide) hl⟩
theorem mo_road {h : PH} {i : Nat} {cs : XCS} {ls : XLS} (CL : XMD h b n B c i cs ls) (q16 : ¬ ls.length = 16) (hT : tkA B n i = 20027) : match roS (tkA B n) i cs ls with
    | .ok r => ∃ h', f_Mo_readRoad (b + 131) (nI (64 + 4 * ls.length)) h = some (0, h') ∧ Sn LMD b h h' ∧ XMD h' b n B c r.1 r.2.1 r.2.2
    | .error e => ∃ h', f_Mo_readRoad (b + 131) (nI (64 + 4 * ls.length)) h = some (-1, h') ∧ Sn LMD b h h' ∧ XMF h' b n B e := by
  obtain ⟨C, l16, c4, dl⟩ := CL
  have K1 := C.K
  have s := C.1.1
  obtain ⟨p, hp⟩ : ∃ p, p = 64 + 4 * ls.length := ⟨_, rfl⟩
  rw [← hp]
  have f0 : P52 h b (gI h (b + 152)) := fun j => rfl
  unfold f_Mo_readRoad roS
  rw [if_pos hT, if_neg q16, ldR_y K1 (s.R 131 41 rfl), bind_some', isO_y K1, bind_some']
  have u := mo_told C (HB_l (m := 9) (hi := 9) rfl (by omega)) 27 (by omega) (x := 27) (t := 20027) rfl rfl
  rw [if_pos hT] at u
  cases e : nmS (tkA B n) 10 none (i + 1) with
  | error er =>
    rw [show (9 : Nat) + 1 = 10 from rfl, e] at u
    obtain ⟨h2, u1, u2, u3⟩ := u
    have k2 : gK h2 (b + 131) = (0, 9) := by rw [u2.1]; exact K1
    have k52 : gK h2 (b + 152) = (1, 128) := by rw [u2.1]; exact s.K 152 (by decide) rfl
    obtain ⟨w1, w2⟩ := wrb k52 (show p < 128 by omega) (-1)
    rw [u1, bind_some']
    dsimp only
    rw [w1, bind_some', ldR_y (by rw [gK_sI]; exact k2) (by rw [gR_sI, u2.2.1]; exact s.R 131 41 rfl), bind_some', w2, bind_some', if_pos rfl]
    refine ⟨_, rfl, (lmp_lmd u2).put 152 _ _ (inL_in (lo := 64) (hi := 128) (by decide) (by omega) (by omega)), ?_, ?_⟩
    · simp (disch := omega) only [gI_q, gI_n1, gI_n2]; exact u3.1
    · simp (disch := omega) only [gI_q, gI_n1, gI_n2]; exact u3.2
  | ok x =>
    rw [show (9 : Nat) + 1 = 10 from rfl, e] at u
    obtain ⟨h2, u1, u2, u3, u4⟩ := u
    have s2 := u3.1.1
    obtain ⟨w1, w2⟩ := wrb (s2.K 152 (by decide) rfl) (show p < 128 by omega) (nI x)
    obtain ⟨t3, C3⟩ := put52 u3 c4 (p := p) (by omega) (by omega) (nI x)
    have f3 := (f0.lmp u2).put (k := p) (v := nI x)
    rw [u1, bind_some']
    dsimp only
    rw [w1, bind_some']
    have r3 : ldR (sI h2 (b + 152) p (nI x)) 9 (b + 131) 41 = some (b + 152) := ldR_y C3.K (C3.1.1.R 131 41 rfl)
    rw [r3, bind_some', w2, bind_some', if_neg (nI_ne_m1 (by omega)), ldI_y C3.K, bind_some']
    generalize sI h2 (b + 152) p (nI x) = h3 at *
    have K3 := C3.K
    have T3 : Sn LMD b h h3 := (lmp_lmd u2).tr (t3.up (by decide))
    have second : ¬ (isNm (tkA B n (i + 2)) = true ∧ tkA B n (i + 2) = nI x) → match (match nmS (tkA B n) 10 (some x) (i + 2) with
        | .error e => (.error e : XLR)
        | .ok y => if tkA B n (i + 3) = 20028 then (match nmS (tkA B n) 100 none (i + 4) with
          | .error e => .error e
          | .ok u => if tkA B n (i + 5) = 20005 then (match nmS (tkA B n) 100 none (i + 6) with
            | .error e => .error e
            | .ok w => if tkA B n (i + 7) = 10059 then .ok (i + 8, cs, ls ++ [(x, y, u, w)]) else .error (1, i + 7)) else .error (1, i + 5)) else .error (1, i + 3)) with
        | .ok r => ∃ h', f_Mo_readRoad_54 (b + 131) (nI p) h3 = some (0, h') ∧ Sn LMD b h h' ∧ XMD h' b n B c r.1 r.2.1 r.2.2
        | .error e => ∃ h', f_Mo_readRoad_54 (b + 131) (nI p) h3 = some (-1, h') ∧ Sn LMD b h h' ∧ XMF h' b n B e := by
      intro hne
      have es : nmS (tkA B n) 10 (some x) (i + 2) = nmS (tkA B n) 10 none (i + 2) := by
        unfold nmS
        by_cases qn : isNm (tkA B n (i + 2)) = true
        · rw [if_pos qn, if_pos qn]
          obtain ⟨z, z1, z2⟩ := isNm_g qn
          have tn : (tkA B n (i + 2)).toNatClampNeg = z := by rw [z2]; exact tn_nI (by omega)
          rw [tn]
          have zx : z ≠ x := fun y => hne ⟨qn, by rw [z2, y]⟩
          by_cases b1 : 10 ≤ z
          · rw [if_pos (Or.inl b1), if_pos (Or.inl b1)]
          · rw [if_neg (by rintro (y | y); exact b1 y; injection y with y; exact zx y.symm), if_neg (by rintro (y | y); exact b1 y; cases y)]
        · rw [if_neg qn, if_neg qn]
      rw [es]
      have s3 := C3.1.1
      unfold f_Mo_readRoad_54
      rw [ldR_y K3 (s3.R 131 41 rfl), bind_some', isO_y K3, bind_some', nI_s, show nI p + 2 = nI (p + 2) from nI_addL p, show nI p + 3 = nI (p + 3) from nI_addL p]
      have dn : ∀ (hx : PH) (q : Nat) (er : Nat × Nat), 64 ≤ q → q < 128 → Sn LMD b h hx → XMF hx b n B er → ∀ (G : Int32 → PH → Option (Int32 × PH)), ∃ h', ((wrA hx (b + 152) (nI q) (-1)).bind fun h4 => (ldR h4 9 (b + 131) 41).bind fun v5 => (rdA h4 v5 (nI q)).bind fun v6 => if v6 = (-1) then some ((-1), h4) else G v6 h4) = some (-1, h') ∧ Sn LMD b h h' ∧ XMF h' b n B er := by
        intro hx q er q1 q2 tx fx G
        have k2 : gK hx (b + 131) = (0, 9) := by rw [tx.1]; exact K1
        have k52 : gK hx (b + 152) = (1, 128) := by rw [tx.1]; exact s.K 152 (by decide) rfl
        have r2 : ldR (sI hx (b + 152) q (-1)) 9 (b + 131) 41 = some (b + 152) := ldR_y (h := sI hx (b + 152) q (-1)) k2 (by rw [gR_sI, tx.2.1]; exact s.R 131 41 rfl)
        obtain ⟨w1, w2⟩ := wrb k52 q2 (-1)
        rw [w1, bind_some', r2, bind_some', w2, bind_some', if_pos rfl]
        exact ⟨_, rfl, tx.put 152 _ _ (inL_in (lo := 64) (hi := 128) (by decide) q1 q2), by simp (disch := omega) only [gI_q, gI_n1, gI_n2]; exact fx.1, by simp (disch := omega) only [gI_q, gI_n1, gI_n2]; exact fx.2⟩
      have u := mo_num C3 (HB_l (m := 9) (hi := 9) rfl (by omega))
      rw [show (9 : Nat) + 1 = 10 from rfl] at u
      cases e2 : nmS (tkA B n) 10 none (i + 2) with
      | error er =>
        rw [e2] at u
        obtain ⟨h4, v1, v2, v3⟩ := u
        rw [v1, bind_some']
        exact dn h4 (p + 1) er (by omega) (by omega) (T3.tr (lmp_lmd v2)) v3 _
      | ok y =>
        rw [e2] at u
        obtain ⟨h4, v1, v2, v3, v4⟩ := u
        have v3 : XMR h4 b n B c (i + 3) cs := v3
        obtain ⟨w1, w2⟩ := wrb (v3.1.1.K 152 (by decide) rfl) (show p + 1 < 128 by omega) (nI y)
        obtain ⟨t5, C5⟩ := put52 v3 c4 (p := p + 1) (by omega) (by omega) (nI y)
        have f5 := (f3.lmp v2).put (k := p + 1) (v := nI y)
        have r5 : ldR (sI h4 (b + 152) (p + 1) (nI y)) 9 (b + 131) 41 = some (b + 152) := ldR_y C5.K (C5.1.1.R 131 41 rfl)
        rw [v1, bind_some']
        dsimp only
        rw [w1, bind_some', r5, bind_some', w2, bind_some', if_neg (nI_ne_m1 (by omega)), bind_some']
        generalize sI h4 (b + 152) (p + 1) (nI y) = h5 at *
        have T5 : Sn LMD b h h5 := (T3.tr (lmp_lmd v2)).tr (t5.up (by decide))
        rw [isO_y C5.K, bind_some']
        have u := mo_told C5 (HB_l (m := 99) (hi := 99) rfl (by omega)) 28 (by omega) (x := 28) (t := 20028) rfl rfl
        rw [show (99 : Nat) + 1 = 100 from rfl] at u
        by_cases q3 : tkA B n (i + 3) = 20028
        rotate_left
        · rw [if_neg q3] at u ⊢
          obtain ⟨h6, v1, v2, v3⟩ := u
          rw [v1, bind_some']
          exact dn h6 (p + 2) _ (by omega) (by omega) (T5.tr (lmp_lmd v2)) v3 _
        rw [if_pos q3] at u ⊢
        cases e3 : nmS (tkA B n) 100 none (i + 4) with
        | error er =>
          rw [e3] at u
          obtain ⟨h6, v1, v2, v3⟩ := u
          rw [v1, bind_some']
          exact dn h6 (p + 2) _ (by omega) (by omega) (T5.tr (lmp_lmd v2)) v3 _
        | ok d =>
          rw [e3] at u
          obtain ⟨h6, v1, v2, v3, v4⟩ := u
          have v3 : XMR h6 b n B c (i + 5) cs := v3
          obtain ⟨w1, w2⟩ := wrb (v3.1.1.K 152 (by decide) rfl) (show p + 2 < 128 by omega) (nI d)
          obtain ⟨t7, C7⟩ := put52 v3 c4 (p := p + 2) (by omega) (by omega) (nI d)
          have f7 := (f5.lmp v2).put (k := p + 2) (v := nI d)
          have r7 : ldR (sI h6 (b + 152) (p + 2) (nI d)) 9 (b + 131) 41 = some (b + 152) := ldR_y C7.K (C7.1.1.R 131 41 rfl)
          rw [v1, bind_some']
          dsimp only
          rw [w1, bind_some', r7, bind_some', w2, bind_some', if_neg (nI_ne_m1 (by omega)), bind_some']
          generalize sI h6 (b + 152) (p + 2) (nI d) = h7 at *
          have T7 : Sn LMD b h h7 := (T5.tr (lmp_lmd v2)).tr (t7.up (by decide))
          rw [isO_y C7.K, bind_some']
          have u := mo_told C7 (HB_l (m := 99) (hi := 99) rfl (by omega)) 5 (by omega) (x := 9) (t := 20005) rfl rfl
          rw [show (99 : Nat) + 1 = 100 from rfl] at u
          by_cases q5 : tkA B n (i + 5) = 20005
          rotate_left
          · rw [if_neg q5] at u ⊢
            obtain ⟨h8, v1, v2, v3⟩ := u
            rw [v1, bind_some']
            exact dn h8 (p + 3) _ (by omega) (by omega) (T7.tr (lmp_lmd v2)) v3 _
          rw [if_pos q5] at u ⊢
          cases e4 : nmS (tkA B n) 100 none (i + 6) with
          | error er =>
            rw [e4] at u
            obtain ⟨h8, v1, v2, v3⟩ := u
            rw [v1, bind_some']
            exact dn h8 (p + 3) _ (by omega) (by omega) (T7.tr (lmp_lmd v2)) v3 _
          | ok f =>
            rw [e4] at u
            obtain ⟨h8, v1, v2, v3, v4⟩ := u
            have v3 : XMR h8 b n B c (i + 7) cs := v3
            obtain ⟨w1, w2⟩ := wrb (v3.1.1.K 152 (by decide) rfl) (show p + 3 < 128 by omega) (nI f)
            obtain ⟨t9, C9⟩ := put52 v3 c4 (p := p + 3) (by omega) (by omega) (nI f)
            have f9 := (f7.lmp v2).put (k := p + 3) (v := nI f)
            have r9 : ldR (sI h8 (b + 152) (p + 3) (nI f)) 9 (b + 131) 41 = some (b + 152) := ldR_y C9.K (C9.1.1.R 131 41 rfl)
            rw [v1, bind_some']
            dsimp only
            rw [w1, bind_some', r9, bind_some', w2, bind_some', if_neg (nI_ne_m1 (by omega))]
            generalize sI h8 (b + 152) (p + 3) (nI f) = h9 at *
            have T9 : Sn LMD b h h9 := (T7.tr (lmp_lmd v2)).tr (t9.up (by decide))
            rw [isO_y C9.K, bind_some']
            have mk := mo_mark C9
            by_cases c9 : tkA B n (i + 7) = 10059
            · rw [if_pos c9] at mk ⊢
              obtain ⟨hA, m1, m2, m3⟩ := mk
              have fA := f9.lmp m2
              rw [m1, bind_some']
              refine ⟨hA, rfl, T9.tr (lmp_lmd m2), m3, ?_, c4, fun l hl => ?_⟩
              · show (ls ++ [_]).length ≤ 16; rw [List.length_append]; show ls.length + 1 ≤ 16; omega
              · have hl : l < (ls ++ [(x, y, d, f)]).length := hl
                rw [List.length_append] at hl
                have hl : l < ls.length + 1 := hl
                show gI hA (b + 152) (64 + 4 * l) = nI ((ls ++ [(x, y, d, f)]).getD l nL).1 ∧ gI hA (b + 152) (64 + 4 * l + 1) = nI ((ls ++ [(x, y, d, f)]).getD l nL).2.1 ∧ gI hA (b + 152) (64 + 4 * l + 2) = nI ((ls ++ [(x, y, d, f)]).getD l nL).2.2.1 ∧ gI hA (b + 152) (64 + 4 * l + 3) = nI ((ls ++ [(x, y, d, f)]).getD l nL).2.2.2
                rw [fA, fA, fA, fA, getD_ap]
                by_cases z : l = ls.length
                · rw [if_pos z, z, ← hp]
                  refine ⟨?_, ?_, ?_, ?_⟩
                  · rw [upr_n (by omega), upr_n (by omega), upr_n (by omega), upr_q]
                  · rw [upr_n (by omega), upr_n (by omega), upr_q]
                  · rw [upr_n (by omega), upr_q]
                  · rw [upr_q]
                · rw [if_neg z]
                  obtain ⟨z1, z2, z3, z4⟩ := dl l (by omega)
                  refine ⟨?_, ?_, ?_, ?_⟩
                  · rw [upr_n (by omega), upr_n (by omega), upr_n (by omega), upr_n (by omega)]; exact z1
                  · rw [upr_n (by omega), upr_n (by omega), upr_n (by omega), upr_n (by omega)]; exact z2
                  · rw [upr_n (by omega), upr_n (by omega), upr_n (by omega), upr_n (by omega)]; exact z3
                  · rw [upr_n (by omega), upr_n (by omega), upr_n (by omega), upr_n (by omega)]; exact z4
            · rw [if_neg c9] at mk ⊢
              obtain ⟨hA, m1, m2, m3⟩ := mk
              rw [m1, bind_some']
              exact ⟨hA, rfl, T9.tr (lmp_lmd m2), m3⟩
    by_cases qn : isNm (tkA B n (i + 2)) = true
    · rw [if_pos (C3.num.1.mpr qn), ldI_y K3, bind_some', bind_some', w2, bind_some', C3.num.2 qn]
      by_cases qx : tkA B n (i + 2) = nI x
      · rw [if_pos qx, isO_y K3, bind_some']
        have er : nmS (tkA B n) 10 (some x) (i + 2) = .error (2, i + 2) := by
          unfold nmS
          have tn : (tkA B n (i + 2)).toNatClampNeg = x := by rw [qx]; exact tn_nI (by omega)
          rw [if_pos qn, tn, if_pos (Or.inr rfl)]
        rw [er]
        obtain ⟨h4, v1, v2, v3⟩ := C3.err (k := 2) (x := 2) rfl
        exact ⟨h4, v1, T3.tr (lmp_lmd v2), v3⟩
      · rw [if_neg qx]
        exact second (fun z => qx z.2)
    · rw [if_neg (fun z => qn (C3.num.1.mp z))]
      exact second (fun z => qn z.1)
theorem mo_roads2 : ∀ (k N : Nat) (h : PH) (i : Nat) (cs : XCS) (ls : XLS), XMD h b n B c i cs ls → 16 < ls.length + k → 16 < ls.length + N → MTO h b n B LMD (XMD · b n B c) (tlL (tkA B n) (roS (tkA B n)) k i cs ls) (f_Mo_readRoads_2 N (b + 131) (nI ls.length) h) := by
  intro k
  induction k with
  | zero => intro N h i cs ls C h1 _; have := C.2.1; omega
  | succ k ih =>
    intro N h i cs ls CL hk hN
    have C := CL.1
    have l16 := CL.2.1
    have K1 := C.K
    obtain ⟨M, rfl⟩ : ∃ M, N = M + 1 := ⟨N - 1, by omega⟩
    rw [f_Mo_readRoads_2, isO_y K1, bind_some', mo_isW C 27 (by omega) (x := 27) (t := 20027) rfl rfl, bind_some']
    dsimp only
    unfold tlL
    by_cases q : tkA B n i = -1
    · rw [if_pos q, if_pos (bI_f (by rw [q]; decide)), ldI_y K1, bind_some', if_pos (C.end0.mpr q)]
      exact ⟨h, i, rfl, Sn.rf, CL⟩
    rw [if_neg q]
    by_cases q2 : tkA B n i = 20027
    rotate_left
    · unfold roS
      rw [if_pos (bI_f q2), ldI_y K1, bind_some', if_neg (fun z => q (C.end0.mp z)), if_neg q2, isO_y K1, bind_some']
      obtain ⟨h2, u1, u2, u3⟩ := C.err (k := 1) (x := 1) rfl
      exact ⟨h2, u1, lmp_lmd u2, u3⟩
    rw [if_neg (bI_t q2)]
    have z16 : nI ls.length = 16 ↔ ls.length = 16 := nI_eqL (n := 16) (by omega) (by decide)
    by_cases q16 : ls.length = 16
    · unfold roS
      rw [if_pos (z16.mpr q16), if_pos q2, if_pos q16, isO_y K1, bind_some']
      obtain ⟨h2, u1, u2, u3⟩ := C.err (k := 3) (x := 3) rfl
      exact ⟨h2, u1, lmp_lmd u2, u3⟩
    rw [if_neg (fun z => q16 (z16.mp z)), isO_y K1, bind_some', show (4 : Int32) * nI ls.length = nI (4 * ls.length) from L_muln _, show (64 : Int32) + nI (4 * ls.length) = nI (64 + 4 * ls.length) from L_addn _]
    have u := mo_road CL q16 q2
    cases e : roS (tkA B n) i cs ls with
    | error er =>
      rw [e] at u
      obtain ⟨h2, u1, u2, u3⟩ := u
      rw [u1, bind_some']
      exact ⟨h2, by rw [if_pos rfl], u2, u3⟩
    | ok r =>
      rw [e] at u
      obtain ⟨h2, u1, u2, u3⟩ := u
      have hl2 := roS_len e
      rw [u1, bind_some']
      dsimp only
      rw [if_neg n0m, nI_s, ← hl2]
      exact MTO.tr u2 (ih M h2 r.1 r.2.1 r.2.2 u3 (by omega) (by omega))
end MROAD
