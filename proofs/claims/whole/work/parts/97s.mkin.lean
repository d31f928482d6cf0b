/-! ===== texts: the reference reads kin ===== -/
def lsC (ls : XLS) (j : Nat) : Int32 := if j % 4 = 0 then nI (ls.getD (j / 4) nL).1 else if j % 4 = 1 then nI (ls.getD (j / 4) nL).2.1 else if j % 4 = 2 then nI (ls.getD (j / 4) nL).2.2.1 else nI (ls.getD (j / 4) nL).2.2.2
theorem lsC_0 {ls : XLS} {l : Nat} : lsC ls (4 * l) = nI (ls.getD l nL).1 := by
  unfold lsC; rw [if_pos (by omega), show 4 * l / 4 = l by omega]
theorem lsC_1 {ls : XLS} {l : Nat} : lsC ls (4 * l + 1) = nI (ls.getD l nL).2.1 := by
  unfold lsC; rw [if_neg (by omega), if_pos (by omega), show (4 * l + 1) / 4 = l by omega]
theorem kset_cg2 {C C' : Nat → Int32} {t : Nat} : ∀ {n : Nat}, (∀ l, l < n → C' (4 * l) = C (4 * l) ∧ C' (4 * l + 1) = C (4 * l + 1)) → kset C' t n = kset C t n
  | 0, _ => rfl
  | n + 1, e => by
    unfold kset
    rw [kset_cg2 (fun l hl => e l (by omega)), (e n (by omega)).1, (e n (by omega)).2]
theorem kset_ap {ls : XLS} {q : Nat × Nat × Nat × Nat} {t : Nat} : kset (lsC (ls ++ [q])) t (ls.length + 1) = if nI q.1 = nI t then kset (lsC ls) t ls.length ||| jshl 1 (nI q.2.1) else if nI q.2.1 = nI t then kset (lsC ls) t ls.length ||| jshl 1 (nI q.1) else kset (lsC ls) t ls.length := by
  have e : kset (lsC (ls ++ [q])) t ls.length = kset (lsC ls) t ls.length := kset_cg2 (fun l hl => by
    rw [lsC_0, lsC_0, lsC_1, lsC_1, getD_ap, if_neg (by omega)]
    exact ⟨rfl, rfl⟩)
  show (if lsC (ls ++ [q]) (4 * ls.length) = nI t then _ else _) = _
  rw [e, lsC_0, lsC_1, getD_ap, if_pos rfl]
def LMK : SL := [(131, 15, 19), (131, 28, 29), (131, 32, 34), (147, 800, 1200), (148, 800, 1200), (150, 12, 24)]
theorem lmp_lmk {b : Nat} {h h2 : PH} (t : Sn LMP b h h2) : Sn LMK b h h2 := t.up (by decide)
def XMK (nt : Nat) (h : PH) (b n : Nat) (B : Nat → Nat) (c i : Nat) (cs : XCS) (ls : XLS) : Prop := XMR h b n B c i cs ∧ ls.length ≤ 16 ∧ cs.length ≤ 400 ∧ gI h (b + 131) 6 = nI nt ∧ ∀ t, t < 12 → gI h (b + 150) (12 + t) = kset (lsC ls) t ls.length
theorem nmS_ok {T : Nat → Int32} {below : Nat} {o : Option Nat} {i x : Nat} (h : nmS T below o i = .ok x) : x < below ∧ o ≠ some x := by
  unfold nmS at h
  split at h
  · split at h
    · cases h
    · next q =>
      cases h
      exact ⟨by omega, fun z => q (Or.inr z)⟩
  · cases h
section MKIN
variable {b n c nt : Nat} {B : Nat → Nat}
theorem mo_kinLine (hnt : nt ≤ 12) {h : PH} {i : Nat} {cs : XCS} {ls : XLS} (CL : XMK nt h b n B c i cs ls) (q16 : ¬ ls.length = 16) (hT : tkA B n i = 20023) : match knS (tkA B n) nt i cs ls with
    | .ok r => ∃ h', f_Mo_readKinLine (b + 131) h = some (0, h') ∧ Sn LMK b h h' ∧ XMK nt h' b n B c r.1 r.2.1 r.2.2
    | .error e => ∃ h', f_Mo_readKinLine (b + 131) h = some (-1, h') ∧ Sn LMK b h h' ∧ XMF h' b n B e := by
  obtain ⟨C, l16, c4, h6, dl⟩ := CL
  have K1 := C.K
  unfold f_Mo_readKinLine knS
  rw [if_pos hT, if_neg q16, ldI_y K1, bind_some', h6, isO_y K1, bind_some']
  have u := mo_told C (HB_n (m := nt) (by omega)) 23 (by omega) (x := 17) (t := 20023) rfl rfl
  rw [if_pos hT] at u
  cases e : nmS (tkA B n) nt none (i + 1) with
  | error er =>
    rw [e] at u
    obtain ⟨h2, u1, u2, u3⟩ := u
    rw [u1, bind_some']
    exact ⟨h2, by rw [if_pos rfl], lmp_lmk u2, u3⟩
  | ok x =>
    rw [e] at u
    obtain ⟨h2, u1, u2, u3, u4⟩ := u
    have K2 := u3.K
    rw [u1, bind_some']
    dsimp only
    rw [if_neg (nI_ne_m1 (by omega)), isO_y K2, bind_some', mo_isW u3 24 (by omega) (x := 18) (t := 20024) rfl rfl, bind_some']
    dsimp only
    by_cases c4' : tkA B n (i + 2) = 20024
    rotate_left
    · rw [if_pos (bI_f c4'), if_neg c4', isO_y K2, bind_some']
      obtain ⟨h3, y1, y2, y3⟩ := u3.err (k := 1) (x := 1) rfl
      exact ⟨h3, y1, lmp_lmk (u2.tr y2), y3⟩
    rw [if_neg (bI_t c4'), if_pos c4', isO_y K2, bind_some']
    obtain ⟨h3, y1, y2, y3⟩ := mo_adv u3 (u3.lt (by rw [c4']; decide))
    have y3 : XMR h3 b n B c (i + 3) cs := y3
    have K3 := y3.K
    have T3 := u2.tr y2
    rw [y1, bind_some', ldI_y K3, bind_some']
    have o6 : gI h3 (b + 131) 6 = nI nt := by rw [T3.I (by decide)]; exact h6
    have second : ¬ (isNm (tkA B n (i + 3)) = true ∧ tkA B n (i + 3) = nI x) → match nmS (tkA B n) nt (some x) (i + 3) with
        | .error e => ∃ h', f_Mo_readKinLine_62 (b + 131) (nI x) h3 = some (-1, h') ∧ Sn LMK b h h' ∧ XMF h' b n B e
        | .ok y => match (if tkA B n (i + 4) = 10059 then (.ok (i + 5, cs, ls ++ [(x, y, 0, 0)]) : XLR) else .error (1, i + 4)) with
          | .ok r => ∃ h', f_Mo_readKinLine_62 (b + 131) (nI x) h3 = some (0, h') ∧ Sn LMK b h h' ∧ XMK nt h' b n B c r.1 r.2.1 r.2.2
          | .error e => ∃ h', f_Mo_readKinLine_62 (b + 131) (nI x) h3 = some (-1, h') ∧ Sn LMK b h h' ∧ XMF h' b n B e := by
      intro hne
      have es : nmS (tkA B n) nt (some x) (i + 3) = nmS (tkA B n) nt none (i + 3) := by
        unfold nmS
        by_cases qn : isNm (tkA B n (i + 3)) = true
        · rw [if_pos qn, if_pos qn]
          obtain ⟨z, z1, z2⟩ := isNm_g qn
          have tn : (tkA B n (i + 3)).toNatClampNeg = z := by rw [z2]; exact tn_nI (by omega)
          rw [tn]
          have zx : z ≠ x := fun y => hne ⟨qn, by rw [z2, y]⟩
          by_cases b1 : nt ≤ z
          · rw [if_pos (Or.inl b1), if_pos (Or.inl b1)]
          · rw [if_neg (by rintro (y | y); exact b1 y; injection y with y; exact zx y.symm), if_neg (by rintro (y | y); exact b1 y; cases y)]
        · rw [if_neg qn, if_neg qn]
      rw [es]
      unfold f_Mo_readKinLine_62
      rw [ldI_y K3, bind_some', o6, isO_y K3, bind_some']
      have u := mo_num y3 (HB_n (m := nt) (by omega))
      cases e2 : nmS (tkA B n) nt none (i + 3) with
      | error er =>
        rw [e2] at u
        obtain ⟨h4, v1, v2, v3⟩ := u
        rw [v1, bind_some']
        exact ⟨h4, by rw [if_pos rfl], lmp_lmk (T3.tr v2), v3⟩
      | ok y =>
        rw [e2] at u
        obtain ⟨h4, v1, v2, v3, v4⟩ := u
        have v3 : XMR h4 b n B c (i + 4) cs := v3
        have xb := (nmS_ok e).1
        have yb := (nmS_ok e2).1
        have xy : x ≠ y := by
          rw [e2] at es
          have := (nmS_ok es).2
          intro z
          exact this (by rw [z])
        have s4 := v3.1.1
        have K4 := v3.K
        have K150 : gK h4 (b + 150) = (1, 24) := s4.K 150 (by decide) rfl
        have d4 : ∀ t, t < 12 → gI h4 (b + 150) (12 + t) = kset (lsC ls) t ls.length := fun t ht => by
          rw [v2.I (by simp [inL, LMP]), T3.I (by simp [inL, LMP])]; exact dl t ht
        rw [v1, bind_some']
        dsimp only
        rw [if_neg (nI_ne_m1 (by omega)), ldR_y K4 (s4.R 131 37 rfl), bind_some', bind_some', show (12 : Int32) + nI x = nI (12 + x) from L_addn _, rd_at K150 (by omega) (by omega) (d4 x (by omega)), bind_some', wr_at K150 (by omega) (by omega), bind_some']
        obtain ⟨h5, e5⟩ : ∃ h5, h5 = sI h4 (b + 150) (12 + x) (kset (lsC ls) x ls.length ||| jshl 1 (nI y)) := ⟨_, rfl⟩
        rw [← e5]
        have k5 : gK h5 (b + 131) = (0, 9) := by rw [e5]; exact K4
        have k150 : gK h5 (b + 150) = (1, 24) := by rw [e5]; exact K150
        have r5 : gR h5 (b + 131) 37 = some (b + 150) := by rw [e5]; exact s4.R 131 37 rfl
        have y5 : gI h5 (b + 150) (12 + y) = kset (lsC ls) y ls.length := by rw [e5, gI_n2 (by omega)]; exact d4 y (by omega)
        rw [ldR_y k5 r5, bind_some', bind_some', show (12 : Int32) + nI y = nI (12 + y) from L_addn _, rd_at k150 (by omega) (by omega) y5, bind_some', wr_at k150 (by omega) (by omega), bind_some']
        obtain ⟨h6', e6⟩ : ∃ h6, h6 = sI h5 (b + 150) (12 + y) (kset (lsC ls) y ls.length ||| jshl 1 (nI x)) := ⟨_, rfl⟩
        rw [← e6]
        have t6 : Sn [(150, 12, 24)] b h4 h6' := by
          rw [e6, e5]
          exact (Sn.rf.put 150 _ _ (inL_in (lo := 12) (hi := 24) (by decide) (by omega) (by omega))).put 150 _ _ (inL_in (lo := 12) (hi := 24) (by decide) (by omega) (by omega))
        have C6 := v3.sn t6 (by decide) c4
        have T6 : Sn LMK b h h6' := (lmp_lmk (T3.tr v2)).tr (t6.up (by decide))
        rw [isO_y C6.K, bind_some']
        have mk := mo_mark C6
        have d6 : ∀ t, t < 12 → gI h6' (b + 150) (12 + t) = kset (lsC (ls ++ [(x, y, 0, 0)])) t (ls.length + 1) := by
          intro t ht
          rw [kset_ap]
          dsimp only
          have a1 : nI x = nI t ↔ x = t := nI_eq' (by omega) (by omega)
          have a2 : nI y = nI t ↔ y = t := nI_eq' (by omega) (by omega)
          by_cases z1 : x = t
          · rw [if_pos (a1.mpr z1), e6, gI_n2 (by omega), e5, gI_q rfl (by omega), z1]
          · rw [if_neg (fun z => z1 (a1.mp z))]
            by_cases z2 : y = t
            · rw [if_pos (a2.mpr z2), e6, gI_q rfl (by omega), z2]
            · rw [if_neg (fun z => z2 (a2.mp z)), e6, gI_n2 (by omega), e5, gI_n2 (by omega)]
              exact d4 t ht
        by_cases c9 : tkA B n (i + 4) = 10059
        · rw [if_pos c9] at mk ⊢
          obtain ⟨h7, m1, m2, m3⟩ := mk
          rw [m1, bind_some']
          refine ⟨h7, rfl, T6.tr (lmp_lmk m2), m3, by show (ls ++ [_]).length ≤ 16; rw [List.length_append]; show ls.length + 1 ≤ 16; omega, c4, ?_, fun t ht => ?_⟩
          · rw [m2.I (by decide), t6.I (by decide), v2.I (by decide)]; exact o6
          · rw [m2.I (by simp [inL, LMP]), d6 t ht]
            show _ = kset _ t (ls ++ [_]).length
            rw [List.length_append]; rfl
        · rw [if_neg c9] at mk ⊢
          obtain ⟨h7, m1, m2, m3⟩ := mk
          rw [m1, bind_some']
          exact ⟨h7, rfl, T6.tr (lmp_lmk m2), m3⟩
    by_cases qn : isNm (tkA B n (i + 3)) = true
    · rw [if_pos (y3.num.1.mpr qn), ldI_y K3, bind_some', y3.num.2 qn]
      by_cases qx : tkA B n (i + 3) = nI x
      · rw [if_pos qx, isO_y K3, bind_some']
        have er : nmS (tkA B n) nt (some x) (i + 3) = .error (2, i + 3) := by
          unfold nmS
          have tn : (tkA B n (i + 3)).toNatClampNeg = x := by rw [qx]; exact tn_nI (by omega)
          rw [if_pos qn, tn, if_pos (Or.inr rfl)]
        rw [er]
        obtain ⟨h4, v1, v2, v3⟩ := y3.err (k := 2) (x := 2) rfl
        exact ⟨h4, v1, lmp_lmk (T3.tr v2), v3⟩
      · rw [if_neg qx]
        have := second (fun z => qx z.2)
        cases e2 : nmS (tkA B n) nt (some x) (i + 3) with
        | error er => rw [e2] at this; exact this
        | ok y => rw [e2] at this; exact this
    · rw [if_neg (fun z => qn (y3.num.1.mp z))]
      have := second (fun z => qn z.1)
      cases e2 : nmS (tkA B n) nt (some x) (i + 3) with
      | error er => rw [e2] at this; exact this
      | ok y => rw [e2] at this; exact this
theorem mo_kin26 (hnt : nt ≤ 12) : ∀ (k N : Nat) (h : PH) (i : Nat) (cs : XCS) (ls : XLS), XMK nt h b n B c i cs ls → 16 < ls.length + k → 16 < ls.length + N → MTO h b n B LMK (XMK nt · b n B c) (tlL (tkA B n) (knS (tkA B n) nt) k i cs ls) (f_Mo_readKin_26 N (b + 131) (nI ls.length) h) := by
  intro k
  induction k with
  | zero => intro N h i cs ls C h1 _; have := C.2.1; omega
  | succ k ih =>
    intro N h i cs ls CL hk hN
    have C := CL.1
    have l16 := CL.2.1
    have K1 := C.K
    obtain ⟨M, rfl⟩ : ∃ M, N = M + 1 := ⟨N - 1, by omega⟩
    rw [f_Mo_readKin_26, isO_y K1, bind_some', mo_isW C 23 (by omega) (x := 17) (t := 20023) rfl rfl, bind_some']
    dsimp only
    unfold tlL
    by_cases q : tkA B n i = -1
    · rw [if_pos q, if_pos (bI_f (by rw [q]; decide)), ldI_y K1, bind_some', if_pos (C.end0.mpr q)]
      exact ⟨h, i, rfl, Sn.rf, CL⟩
    rw [if_neg q]
    by_cases q2 : tkA B n i = 20023
    rotate_left
    · unfold knS
      rw [if_pos (bI_f q2), ldI_y K1, bind_some', if_neg (fun z => q (C.end0.mp z)), if_neg q2, isO_y K1, bind_some']
      obtain ⟨h2, u1, u2, u3⟩ := C.err (k := 1) (x := 1) rfl
      exact ⟨h2, u1, lmp_lmk u2, u3⟩
    rw [if_neg (bI_t q2)]
    have z16 : nI ls.length = 16 ↔ ls.length = 16 := nI_eqL (n := 16) (by omega) (by decide)
    by_cases q16 : ls.length = 16
    · unfold knS
      rw [if_pos (z16.mpr q16), if_pos q2, if_pos q16, isO_y K1, bind_some']
      obtain ⟨h2, u1, u2, u3⟩ := C.err (k := 3) (x := 3) rfl
      exact ⟨h2, u1, lmp_lmk u2, u3⟩
    rw [if_neg (fun z => q16 (z16.mp z)), isO_y K1, bind_some']
    have u := mo_kinLine hnt CL q16 q2
    cases e : knS (tkA B n) nt i cs ls with
    | error er =>
      rw [e] at u
      obtain ⟨h2, u1, u2, u3⟩ := u
      rw [u1, bind_some']
      exact ⟨h2, by rw [if_pos rfl], u2, u3⟩
    | ok r =>
      rw [e] at u
      obtain ⟨h2, u1, u2, u3⟩ := u
      have hl2 := knS_len e
      rw [u1, bind_some']
      dsimp only
      rw [if_neg n0m, nI_s, ← hl2]
      exact MTO.tr u2 (ih M h2 r.1 r.2.1 r.2.2 u3 (by omega) (by omega))
end MKIN
