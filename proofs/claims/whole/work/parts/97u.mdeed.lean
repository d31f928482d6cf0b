/-! ===== texts: the reference reads shifts ===== -/
def LMS : SL := [(131, 15, 19), (131, 28, 29), (131, 32, 34), (147, 800, 1200), (148, 800, 1200), (151, 64, 128)]
theorem lmp_lms {b : Nat} {h h2 : PH} (t : Sn LMP b h h2) : Sn LMS b h h2 := t.up (by decide)
def P51 (h : PH) (b : Nat) (f : Nat → Int32) : Prop := ∀ j, gI h (b + 151) j = f j
theorem P51.lmp {h h2 : PH} {b : Nat} {f : Nat → Int32} (p : P51 h b f) (t : Sn LMP b h h2) : P51 h2 b f := fun j => by rw [t.I (by simp [inL, LMP])]; exact p j
theorem P51.put {h : PH} {b k : Nat} {f : Nat → Int32} {v : Int32} (p : P51 h b f) : P51 (sI h (b + 151) k v) b (upr f k v) := fun j => by
  unfold upr
  by_cases e : j = k
  · rw [if_pos e, gI_q rfl e]
  · rw [if_neg e, gI_n2 e]; exact p j
def XMS (nt no : Nat) (h : PH) (b n : Nat) (B : Nat → Nat) (c i : Nat) (cs : XCS) (ls : XLS) : Prop := XMR h b n B c i cs ∧ ls.length ≤ 16 ∧ cs.length ≤ 400 ∧ gI h (b + 131) 6 = nI nt ∧ gI h (b + 131) 7 = nI no ∧ ∀ l, l < ls.length → gI h (b + 151) (64 + 4 * l) = nI (ls.getD l nL).1 ∧ gI h (b + 151) (64 + 4 * l + 1) = nI (dcode (ls.getD l nL).2.1) ∧ gI h (b + 151) (64 + 4 * l + 2) = nI (ls.getD l nL).2.2.1 ∧ (((ls.getD l nL).2.1 = 0 ∨ (ls.getD l nL).2.1 = 3) → gI h (b + 151) (64 + 4 * l + 3) = nI (ls.getD l nL).2.2.2)
theorem dc_bad : ∀ v : Fin 29, ¬ (13 ≤ v.val ∧ v.val ≤ 18) → (nI (prm v.val) - 20 < 2 ∨ 6 < nI (prm v.val) - 20) ∧ ¬ nI (prm v.val) - 20 = 0 := by decide
theorem dc_good : ∀ w : Fin 6, nI (prm (13 + w.val)) - 20 = nI (dcode w.val) ∧ (nI (dcode w.val) = 0 ∨ (¬ nI (dcode w.val) < 2 ∧ ¬ 6 < nI (dcode w.val))) := by decide
theorem dc_0 : ∀ w : Fin 6, (nI (dcode w.val) = 0 ↔ w.val = 0) ∧ (nI (dcode w.val) = 4 ↔ w.val = 3) ∧ (nI (dcode w.val) = 2 ↔ w.val = 4) ∧ (nI (dcode w.val) = 3 ↔ w.val = 5) := by decide
section MDEED
variable {b n c nt no : Nat} {B : Nat → Nat}
theorem put51 {h : PH} {i : Nat} {cs : XCS} (C : XMR h b n B c i cs) (hl : cs.length ≤ 400) {p : Nat} (h1 : 64 ≤ p) (h2 : p < 128) (v : Int32) : Sn [(151, 64, 128)] b h (sI h (b + 151) p v) ∧ XMR (sI h (b + 151) p v) b n B c i cs := by
  have t : Sn [(151, 64, 128)] b h (sI h (b + 151) p v) := Sn.rf.put 151 _ _ (inL_in (lo := 64) (hi := 128) (by decide) h1 h2)
  exact ⟨t, C.sn t (by decide) hl⟩
theorem mo_most {h : PH} {i w : Nat} {cs : XCS} (C : XMR h b n B c i cs) (h6 : gI h (b + 131) 6 = nI nt) (h7 : gI h (b + 131) 7 = nI no) (hnt : nt ≤ 12) (hno : no ≤ 6) (hw : w ≤ 5) : ∃ hi, f_Mo_mostFor (b + 131) (nI (dcode w)) h = some (hi, h) ∧ HB hi (dbl nt no w) := by
  obtain ⟨-, d4, d2, d3⟩ := dc_0 ⟨w, by omega⟩
  have d4 : nI (dcode w) = 4 ↔ w = 3 := d4
  have d2 : nI (dcode w) = 2 ↔ w = 4 := d2
  have d3 : nI (dcode w) = 3 ↔ w = 5 := d3
  unfold f_Mo_mostFor dbl
  by_cases c4 : w = 4
  · rw [if_pos (d2.mpr c4), if_neg (by omega), if_pos (Or.inl c4)]
    exact ⟨3, rfl, HB_l (m := 3) rfl (by omega)⟩
  rw [if_neg (fun z => c4 (d2.mp z))]
  by_cases c5 : w = 5
  · rw [if_pos (d3.mpr c5), if_neg (by omega), if_pos (Or.inr c5)]
    exact ⟨3, rfl, HB_l (m := 3) rfl (by omega)⟩
  rw [if_neg (fun z => c5 (d3.mp z))]
  by_cases c3 : w = 3
  · rw [if_pos (d4.mpr c3), if_pos c3, ldI_y C.K, bind_some', h7]
    exact ⟨_, rfl, HB_n (by omega)⟩
  · rw [if_neg (fun z => c3 (d4.mp z)), if_neg c3, if_neg (by omega), ldI_y C.K, bind_some', h6]
    exact ⟨_, rfl, HB_n (by omega)⟩
theorem mo_deed (hnt : nt ≤ 12) (hno : no ≤ 6) {h : PH} {i : Nat} {cs : XCS} {ls : XLS} (CL : XMS nt no h b n B c i cs ls) (q16 : ¬ ls.length = 16) (hT : tkA B n i = 20025) : match sfS (tkA B n) nt no i cs ls with
    | .ok r => ∃ h', f_Mo_readDeed (b + 131) (nI (64 + 4 * ls.length)) h = some (0, h') ∧ Sn LMS b h h' ∧ XMS nt no h' b n B c r.1 r.2.1 r.2.2
    | .error e => ∃ h', f_Mo_readDeed (b + 131) (nI (64 + 4 * ls.length)) h = some (-1, h') ∧ Sn LMS b h h' ∧ XMF h' b n B e := by
  obtain ⟨C, l16, c4, h6, h7, dl⟩ := CL
  have K1 := C.K
  have s := C.1.1
  obtain ⟨p, hp⟩ : ∃ p, p = 64 + 4 * ls.length := ⟨_, rfl⟩
  rw [← hp]
  have f0 : P51 h b (gI h (b + 151)) := fun j => rfl
  have dn : ∀ (hx : PH) (q : Nat) (er : Nat × Nat), 64 ≤ q → q < 128 → Sn LMS b h hx → XMF hx b n B er → ∀ (G : Int32 → PH → Option (Int32 × PH)), ∃ h', ((wrA hx (b + 151) (nI q) (-1)).bind fun h4 => (ldR h4 9 (b + 131) 39).bind fun v5 => (rdA h4 v5 (nI q)).bind fun v6 => if v6 = (-1) then some ((-1), h4) else G v6 h4) = some (-1, h') ∧ Sn LMS b h h' ∧ XMF h' b n B er := by
    intro hx q er q1 q2 tx fx G
    have k2 : gK hx (b + 131) = (0, 9) := by rw [tx.1]; exact K1
    have k52 : gK hx (b + 151) = (1, 128) := by rw [tx.1]; exact s.K 151 (by decide) rfl
    have r2 : ldR (sI hx (b + 151) q (-1)) 9 (b + 131) 39 = some (b + 151) := ldR_y (h := sI hx (b + 151) q (-1)) k2 (by rw [gR_sI, tx.2.1]; exact s.R 131 39 rfl)
    obtain ⟨w1, w2⟩ := wrb k52 q2 (-1)
    rw [w1, bind_some', r2, bind_some', w2, bind_some', if_pos rfl]
    exact ⟨_, rfl, tx.put 151 _ _ (inL_in (lo := 64) (hi := 128) (by decide) q1 q2), by simp (disch := omega) only [gI_q, gI_n1, gI_n2]; exact fx.1, by simp (disch := omega) only [gI_q, gI_n1, gI_n2]; exact fx.2⟩
  unfold f_Mo_readDeed sfS
  rw [if_pos hT, if_neg q16, ldR_y K1 (s.R 131 39 rfl), bind_some', isO_y K1, bind_some']
  have u := mo_told C (HB_l (m := 999) (hi := 999) rfl (by omega)) 25 (by omega) (x := 19) (t := 20025) rfl rfl
  rw [if_pos hT, show (999 : Nat) + 1 = 1000 from rfl] at u
  cases e : nmS (tkA B n) 1000 none (i + 1) with
  | error er =>
    rw [e] at u
    obtain ⟨h2, u1, u2, u3⟩ := u
    rw [u1, bind_some']
    exact dn h2 p er (by omega) (by omega) (lmp_lms u2) u3 (fun _ h4 => (ldI h4 9 (b + 131) 17).bind fun v7 => if v7 = 2 then (ldI h4 9 (b + 131) 18).bind fun v8 => f_Mo_readDeed_47 (b + 131) (nI p) (v8 - 20) h4 else f_Mo_readDeed_47 (b + 131) (nI p) (-1) h4)
  | ok hr =>
    rw [e] at u
    obtain ⟨h2, u1, u2, u3, u4⟩ := u
    have s2 := u3.1.1
    obtain ⟨w1, w2⟩ := wrb (s2.K 151 (by decide) rfl) (show p < 128 by omega) (nI hr)
    obtain ⟨t3, C3⟩ := put51 u3 c4 (p := p) (by omega) (by omega) (nI hr)
    have f3 := (f0.lmp u2).put (k := p) (v := nI hr)
    have r3 : ldR (sI h2 (b + 151) p (nI hr)) 9 (b + 131) 39 = some (b + 151) := ldR_y C3.K (C3.1.1.R 131 39 rfl)
    rw [u1, bind_some']
    dsimp only
    rw [w1, bind_some', r3, bind_some', w2, bind_some', if_neg (nI_ne_m1 (by omega)), ldI_y C3.K, bind_some']
    generalize sI h2 (b + 151) p (nI hr) = h3 at *
    have C3 : XMR h3 b n B c (i + 2) cs := C3
    have K3 := C3.K
    have T3 : Sn LMS b h h3 := (lmp_lms u2).tr (t3.up (by decide))
    have bad : ∀ s0 : Int32, ¬ s0 = 0 → (s0 < 2 ∨ 6 < s0) → ∃ h', f_Mo_readDeed_47 (b + 131) (nI p) s0 h3 = some (-1, h') ∧ Sn LMS b h h' ∧ XMF h' b n B (1, i + 2) := by
      intro s0 h0 h26
      unfold f_Mo_readDeed_47
      have ii : f_Mo_isIn (b + 131) s0 2 6 h3 = some (0, h3) := by
        unfold f_Mo_isIn
        by_cases z : s0 < 2
        · rw [if_pos z, rtZ_0]
        · rw [if_neg z, if_pos (h26.resolve_left z), rtZ_0]
      rw [if_neg h0, isO_y K3, bind_some', ii, bind_some']
      dsimp only
      rw [if_pos rfl, isO_y K3, bind_some']
      obtain ⟨h4, v1, v2, v3⟩ := C3.err (k := 1) (x := 1) rfl
      exact ⟨h4, v1, T3.tr (lmp_lms v2), v3⟩
    have kk := C3.tk.k
    rcases deT kk with ⟨⟨w, w5, ew⟩, d1, d2, d3⟩ | ⟨d1, d3⟩
    rotate_left
    · rw [if_neg d3]
      dsimp only
      rcases C3.tk with ⟨z, y⟩ | ⟨z, y⟩ | ⟨x, x1, z, y, v⟩ | ⟨x, x1, z, y⟩ | ⟨x, x1, z, y, v⟩
      · rw [if_neg (by rw [y]; decide)]; exact bad (-1) (by decide) (Or.inl (by decide))
      · rw [if_neg (by rw [y]; decide)]; exact bad (-1) (by decide) (Or.inl (by decide))
      · rw [if_neg (by rw [y]; decide)]; exact bad (-1) (by decide) (Or.inl (by decide))
      · rw [if_neg (by rcases y with ⟨-, y, -⟩ | ⟨-, y⟩ <;> rw [y] <;> decide)]; exact bad (-1) (by decide) (Or.inl (by decide))
      · rw [if_pos y, ldI_y K3, bind_some', v]
        obtain ⟨z1, z2⟩ := dc_bad ⟨x, x1⟩ (by
          intro q
          have q : 13 ≤ x ∧ x ≤ 18 := q
          rw [z, tn_nI (by omega)] at d3
          exact d3 (by omega))
        exact bad _ z2 z1
    have wE : (tkA B n (i + 2)).toNatClampNeg - 20013 = w := by rw [ew, tn_nI (by omega)]; omega
    rw [if_pos d3, wE]
    obtain ⟨dz0, dz4, -, -⟩ := dc_0 ⟨w, by omega⟩
    have dz0 : nI (dcode w) = 0 ↔ w = 0 := dz0
    have dz4 : nI (dcode w) = 4 ↔ w = 3 := dz4
    have vv : gI h3 (b + 131) 17 = 2 ∧ gI h3 (b + 131) 18 - 20 = nI (dcode w) := by
      rcases C3.tk with ⟨z, y⟩ | ⟨z, y⟩ | ⟨x, x1, z, y, v⟩ | ⟨x, x1, z, y⟩ | ⟨x, x1, z, y, v⟩
      · rw [z] at ew; exact absurd ew.symm (nI_ne_m1 (by omega))
      · rw [z] at ew
        have := nI_pos (n := 20013 + w) (by omega)
        rw [← ew] at this
        exact absurd (by decide) this
      · rw [z, nI_eq' (by omega) (by omega)] at ew; omega
      · rw [z, nI_eq' (by omega) (by omega)] at ew; omega
      · rw [z, nI_eq' (by omega) (by omega)] at ew
        have ex : x = 13 + w := by omega
        rw [v, ex]
        exact ⟨y, (dc_good ⟨w, by omega⟩).1⟩
    rw [if_pos vv.1, ldI_y K3, bind_some', vv.2]
    have e47 : f_Mo_readDeed_47 (b + 131) (nI p) (nI (dcode w)) h3 = f_Mo_readDeed_69 (b + 131) (nI p) (nI (dcode w)) h3 := by
      unfold f_Mo_readDeed_47
      rcases (dc_good ⟨w, by omega⟩).2 with g | ⟨g1, g2⟩
      · rw [if_pos g]
      · by_cases z : nI (dcode w) = 0
        · rw [if_pos z]
        · have ii : f_Mo_isIn (b + 131) (nI (dcode w)) 2 6 h3 = some (1, h3) := by unfold f_Mo_isIn; rw [if_neg g1, if_neg g2, rtZ_1]
          rw [if_neg z, isO_y K3, bind_some', ii, bind_some']
          dsimp only
          rw [if_neg n10]
    rw [e47]
    unfold f_Mo_readDeed_69
    obtain ⟨h4, a1, a2, a3⟩ := mo_adv C3 (C3.lt (by rw [ew]; exact nI_ne_m1 (by omega)))
    have a3 : XMR h4 b n B c (i + 3) cs := a3
    obtain ⟨w1, w2⟩ := wrb (a3.1.1.K 151 (by decide) rfl) (show p + 1 < 128 by omega) (nI (dcode w))
    obtain ⟨t5, C5⟩ := put51 a3 c4 (p := p + 1) (by omega) (by omega) (nI (dcode w))
    have f5 := (f3.lmp a2).put (k := p + 1) (v := nI (dcode w))
    have r5 : ldR (sI h4 (b + 151) (p + 1) (nI (dcode w))) 9 (b + 131) 39 = some (b + 151) := ldR_y C5.K (C5.1.1.R 131 39 rfl)
    rw [isO_y K3, bind_some', a1, bind_some', ldR_y a3.K (a3.1.1.R 131 39 rfl), bind_some', nI_s, show nI p + 2 = nI (p + 2) from nI_addL p, show nI p + 3 = nI (p + 3) from nI_addL p, w1, bind_some', r5, bind_some']
    generalize sI h4 (b + 151) (p + 1) (nI (dcode w)) = h5 at *
    have T5 : Sn LMS b h h5 := (T3.tr (lmp_lms a2)).tr (t5.up (by decide))
    have o6 : gI h5 (b + 131) 6 = nI nt := by rw [T5.I (by decide)]; exact h6
    have o7 : gI h5 (b + 131) 7 = nI no := by rw [T5.I (by decide)]; exact h7
    obtain ⟨hi, m1, m2⟩ := mo_most C5 o6 o7 hnt hno w5
    rw [isO_y C5.K, bind_some', m1, bind_some']
    dsimp only
    rw [isO_y C5.K, bind_some']
    have u := mo_num C5 m2
    cases e2 : nmS (tkA B n) (dbl nt no w) none (i + 3) with
    | error er =>
      rw [e2] at u
      obtain ⟨h6', v1, v2, v3⟩ := u
      rw [v1, bind_some']
      exact dn h6' (p + 2) er (by omega) (by omega) (T5.tr (lmp_lms v2)) v3 (fun _ h10 => (ldR h10 9 (b + 131) 39).bind fun v13 => if nI (dcode w) = 0 then f_Mo_readDeed_130 (b + 131) (nI p) (nI (p + 3)) v13 h10 else if nI (dcode w) = 4 then f_Mo_readDeed_130 (b + 131) (nI p) (nI (p + 3)) v13 h10 else f_Mo_readDeed_142 (b + 131) (nI p) 0 (nI (p + 3)) v13 h10)
    | ok who =>
      rw [e2] at u
      obtain ⟨h6', v1, v2, v3, v4⟩ := u
      have v3 : XMR h6' b n B c (i + 4) cs := v3
      obtain ⟨w1, w2⟩ := wrb (v3.1.1.K 151 (by decide) rfl) (show p + 2 < 128 by omega) (nI who)
      obtain ⟨t7, C7⟩ := put51 v3 c4 (p := p + 2) (by omega) (by omega) (nI who)
      have f7 := (f5.lmp v2).put (k := p + 2) (v := nI who)
      have r7 : ldR (sI h6' (b + 151) (p + 2) (nI who)) 9 (b + 131) 39 = some (b + 151) := ldR_y C7.K (C7.1.1.R 131 39 rfl)
      rw [v1, bind_some']
      dsimp only
      rw [w1, bind_some', r7, bind_some', w2, bind_some', if_neg (nI_ne_m1 (by omega)), bind_some']
      generalize sI h6' (b + 151) (p + 2) (nI who) = h7' at *
      have T7 : Sn LMS b h h7' := (T5.tr (lmp_lms v2)).tr (t7.up (by decide))
      have fin : ∀ (h8 : PH) (j : Nat) (vm : Int32) (v : Nat), Sn LMP b h7' h8 → XMR h8 b n B c j cs → vm ≠ -1 → ((w = 0 ∨ w = 3) → vm = nI v) → match (if tkA B n j = 10059 then (.ok (j + 1, cs, ls ++ [(hr, w, who, v)]) : XLR) else .error (1, j)) with
          | .ok r => ∃ h', f_Mo_readDeed_142 (b + 131) (nI p) vm (nI (p + 3)) (b + 151) h8 = some (0, h') ∧ Sn LMS b h h' ∧ XMS nt no h' b n B c r.1 r.2.1 r.2.2
          | .error e => ∃ h', f_Mo_readDeed_142 (b + 131) (nI p) vm (nI (p + 3)) (b + 151) h8 = some (-1, h') ∧ Sn LMS b h h' ∧ XMF h' b n B e := by
        intro h8 j vm v t8 C8 hv hv2
        obtain ⟨w1, w2⟩ := wrb (C8.1.1.K 151 (by decide) rfl) (show p + 3 < 128 by omega) vm
        obtain ⟨t9, C9⟩ := put51 C8 c4 (p := p + 3) (by omega) (by omega) vm
        have f9 := (f7.lmp t8).put (k := p + 3) (v := vm)
        have r9 : ldR (sI h8 (b + 151) (p + 3) vm) 9 (b + 131) 39 = some (b + 151) := ldR_y C9.K (C9.1.1.R 131 39 rfl)
        unfold f_Mo_readDeed_142
        rw [w1, bind_some', r9, bind_some', show nI p + 3 = nI (p + 3) from nI_addL p, w2, bind_some', if_neg hv]
        generalize sI h8 (b + 151) (p + 3) vm = h9 at *
        have T9 : Sn LMS b h h9 := (T7.tr (lmp_lms t8)).tr (t9.up (by decide))
        rw [isO_y C9.K, bind_some']
        have mk := mo_mark C9
        by_cases c9 : tkA B n j = 10059
        · rw [if_pos c9] at mk ⊢
          obtain ⟨hA, m1, m2, m3⟩ := mk
          have fA := f9.lmp m2
          have TA : Sn LMS b h hA := T9.tr (lmp_lms m2)
          rw [m1, bind_some']
          refine ⟨hA, rfl, TA, m3, ?_, c4, by rw [TA.I (by decide)]; exact h6, by rw [TA.I (by decide)]; exact h7, fun l hl => ?_⟩
          · show (ls ++ [_]).length ≤ 16; rw [List.length_append]; show ls.length + 1 ≤ 16; omega
          · have hl : l < (ls ++ [(hr, w, who, v)]).length := hl
            rw [List.length_append] at hl
            have hl : l < ls.length + 1 := hl
            show gI hA (b + 151) (64 + 4 * l) = nI ((ls ++ [(hr, w, who, v)]).getD l nL).1 ∧ gI hA (b + 151) (64 + 4 * l + 1) = nI (dcode ((ls ++ [(hr, w, who, v)]).getD l nL).2.1) ∧ gI hA (b + 151) (64 + 4 * l + 2) = nI ((ls ++ [(hr, w, who, v)]).getD l nL).2.2.1 ∧ ((((ls ++ [(hr, w, who, v)]).getD l nL).2.1 = 0 ∨ ((ls ++ [(hr, w, who, v)]).getD l nL).2.1 = 3) → gI hA (b + 151) (64 + 4 * l + 3) = nI ((ls ++ [(hr, w, who, v)]).getD l nL).2.2.2)
            rw [fA, fA, fA, fA, getD_ap]
            by_cases z : l = ls.length
            · rw [if_pos z, z, ← hp]
              refine ⟨?_, ?_, ?_, fun y => ?_⟩
              · rw [upr_n (by omega), upr_n (by omega), upr_n (by omega), upr_q]
              · rw [upr_n (by omega), upr_n (by omega), upr_q]
              · rw [upr_n (by omega), upr_q]
              · rw [upr_q]; exact hv2 y
            · rw [if_neg z]
              obtain ⟨z1, z2, z3, z4⟩ := dl l (by omega)
              refine ⟨?_, ?_, ?_, fun y => ?_⟩
              · rw [upr_n (by omega), upr_n (by omega), upr_n (by omega), upr_n (by omega)]; exact z1
              · rw [upr_n (by omega), upr_n (by omega), upr_n (by omega), upr_n (by omega)]; exact z2
              · rw [upr_n (by omega), upr_n (by omega), upr_n (by omega), upr_n (by omega)]; exact z3
              · rw [upr_n (by omega), upr_n (by omega), upr_n (by omega), upr_n (by omega)]; exact z4 y
        · rw [if_neg c9] at mk ⊢
          obtain ⟨hA, m1, m2, m3⟩ := mk
          rw [m1, bind_some']
          exact ⟨hA, rfl, T9.tr (lmp_lms m2), m3⟩
      have gate : (w = 0 ∨ w = 3) → match (if tkA B n (i + 4) = 20026 then (match nmS (tkA B n) 4 none (i + 5) with
          | .error e => (.error e : XLR)
          | .ok v => if tkA B n (i + 6) = 10059 then .ok (i + 7, cs, ls ++ [(hr, w, who, v)]) else .error (1, i + 6)) else .error (1, i + 4)) with
          | .ok r => ∃ h', f_Mo_readDeed_130 (b + 131) (nI p) (nI (p + 3)) (b + 151) h7' = some (0, h') ∧ Sn LMS b h h' ∧ XMS nt no h' b n B c r.1 r.2.1 r.2.2
          | .error e => ∃ h', f_Mo_readDeed_130 (b + 131) (nI p) (nI (p + 3)) (b + 151) h7' = some (-1, h') ∧ Sn LMS b h h' ∧ XMF h' b n B e := by
        intro _
        unfold f_Mo_readDeed_130
        rw [isO_y C7.K, bind_some']
        have u := mo_told C7 (HB_l (m := 3) (hi := 3) rfl (by omega)) 26 (by omega) (x := 21) (t := 20026) rfl rfl
        rw [show (3 : Nat) + 1 = 4 from rfl] at u
        have bad : ∀ (h8 : PH) (er : Nat × Nat), Sn LMP b h7' h8 → XMF h8 b n B er → ∃ h', f_Mo_readDeed_142 (b + 131) (nI p) (-1) (nI (p + 3)) (b + 151) h8 = some (-1, h') ∧ Sn LMS b h h' ∧ XMF h' b n B er := by
          intro h8 er t8 f8
          unfold f_Mo_readDeed_142
          rw [show nI p + 3 = nI (p + 3) from nI_addL p]
          exact dn h8 (p + 3) er (by omega) (by omega) (T7.tr (lmp_lms t8)) f8 (fun _ h1 => (isO h1 9 (b + 131)).bind fun _ => (f_Mo_readMark (b + 131) 59 h1).bind fun p4 => some (p4.1, p4.2))
        by_cases q4 : tkA B n (i + 4) = 20026
        rotate_left
        · rw [if_neg q4] at u ⊢
          obtain ⟨h8, v1, v2, v3⟩ := u
          rw [v1, bind_some']
          exact bad h8 _ v2 v3
        rw [if_pos q4] at u ⊢
        cases e3 : nmS (tkA B n) 4 none (i + 5) with
        | error er =>
          rw [e3] at u
          obtain ⟨h8, v1, v2, v3⟩ := u
          rw [v1, bind_some']
          exact bad h8 _ v2 v3
        | ok v =>
          rw [e3] at u
          obtain ⟨h8, v1, v2, v3, v4⟩ := u
          rw [v1, bind_some']
          exact fin h8 (i + 6) (nI v) v v2 v3 (nI_ne_m1 (by omega)) (fun _ => rfl)
      by_cases c0 : w = 0
      · rw [if_pos (dz0.mpr c0)]
        rw [if_pos (Or.inl c0)]; exact gate (Or.inl c0)
      rw [if_neg (fun z => c0 (dz0.mp z))]
      by_cases c3 : w = 3
      · rw [if_pos (dz4.mpr c3)]
        rw [if_pos (Or.inr c3)]; exact gate (Or.inr c3)
      rw [if_neg (fun z => c3 (dz4.mp z))]
      rw [if_neg (show ¬ (w = 0 ∨ w = 3) by omega)]
      exact fin h7' (i + 4) 0 who Sn.rf C7 (by decide) (fun z => absurd z (by omega))
theorem mo_shifts2 (hnt : nt ≤ 12) (hno : no ≤ 6) : ∀ (k N : Nat) (h : PH) (i : Nat) (cs : XCS) (ls : XLS), XMS nt no h b n B c i cs ls → 16 < ls.length + k → 16 < ls.length + N → MTO h b n B LMS (XMS nt no · b n B c) (tlL (tkA B n) (sfS (tkA B n) nt no) k i cs ls) (f_Mo_readShifts_2 N (b + 131) (nI ls.length) h) := by
  intro k
  induction k with
  | zero => intro N h i cs ls C h1 _; have := C.2.1; omega
  | succ k ih =>
    intro N h i cs ls CL hk hN
    have C := CL.1
    have l16 := CL.2.1
    have K1 := C.K
    obtain ⟨M, rfl⟩ : ∃ M, N = M + 1 := ⟨N - 1, by omega⟩
    rw [f_Mo_readShifts_2, isO_y K1, bind_some', mo_isW C 25 (by omega) (x := 19) (t := 20025) rfl rfl, bind_some']
    dsimp only
    unfold tlL
    by_cases q : tkA B n i = -1
    · rw [if_pos q, if_pos (bI_f (by rw [q]; decide)), ldI_y K1, bind_some', if_pos (C.end0.mpr q)]
      exact ⟨h, i, rfl, Sn.rf, CL⟩
    rw [if_neg q]
    by_cases q2 : tkA B n i = 20025
    rotate_left
    · unfold sfS
      rw [if_pos (bI_f q2), ldI_y K1, bind_some', if_neg (fun z => q (C.end0.mp z)), if_neg q2, isO_y K1, bind_some']
      obtain ⟨h2, u1, u2, u3⟩ := C.err (k := 1) (x := 1) rfl
      exact ⟨h2, u1, lmp_lms u2, u3⟩
    rw [if_neg (bI_t q2)]
    have z16 : nI ls.length = 16 ↔ ls.length = 16 := nI_eqL (n := 16) (by omega) (by decide)
    by_cases q16 : ls.length = 16
    · unfold sfS
      rw [if_pos (z16.mpr q16), if_pos q2, if_pos q16, isO_y K1, bind_some']
      obtain ⟨h2, u1, u2, u3⟩ := C.err (k := 3) (x := 3) rfl
      exact ⟨h2, u1, lmp_lms u2, u3⟩
    rw [if_neg (fun z => q16 (z16.mp z)), isO_y K1, bind_some', show (4 : Int32) * nI ls.length = nI (4 * ls.length) from L_muln _, show (64 : Int32) + nI (4 * ls.length) = nI (64 + 4 * ls.length) from L_addn _]
    have u := mo_deed hnt hno CL q16 q2
    cases e : sfS (tkA B n) nt no i cs ls with
    | error er =>
      rw [e] at u
      obtain ⟨h2, u1, u2, u3⟩ := u
      rw [u1, bind_some']
      exact ⟨h2, by rw [if_pos rfl], u2, u3⟩
    | ok r =>
      rw [e] at u
      obtain ⟨h2, u1, u2, u3⟩ := u
      have hl2 := sfS_len e
      rw [u1, bind_some']
      dsimp only
      rw [if_neg n0m, nI_s, ← hl2]
      exact MTO.tr u2 (ih M h2 r.1 r.2.1 r.2.2 u3 (by omega) (by omega))
end MDEED
