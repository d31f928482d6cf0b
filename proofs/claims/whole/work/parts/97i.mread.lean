/-! ===== texts: the reference reads a law ===== -/
def LMP : SL := [(131, 15, 19), (131, 28, 29), (131, 32, 34), (147, 800, 1200), (148, 800, 1200)]
def TkN (n : Nat) (B : Nat → Nat) (c : Nat) : Prop := c ≤ n ∧ psN B n c = n ∧ ∀ i, i < c → psN B n i < n
/-- the reference stands at token i, and has written cs -/
def XMR (h : PH) (b n : Nat) (B : Nat → Nat) (c i : Nat) (cs : XCS) : Prop := XRM h b n B ∧ TkN n B c ∧ MkR h b n B i ∧ i ≤ c ∧ gI h (b + 131) 28 = nI cs.length ∧ ∀ j, j < cs.length → gI h (b + 147) (800 + j) = (cs.getD j (0, 0)).1 ∧ gI h (b + 148) (800 + j) = (cs.getD j (0, 0)).2
def XMF (h : PH) (b n : Nat) (B : Nat → Nat) (e : Nat × Nat) : Prop := gI h (b + 131) 32 = nI e.1 ∧ gI h (b + 131) 33 = nI (psN B n e.2)
def XMO (h0 : PH) (b n : Nat) (B : Nat → Nat) (c : Nat) (r : XPR) (x : Option (Int32 × PH)) : Prop := match r with
  | .ok p => ∃ h', x = some (0, h') ∧ Sn LMP b h0 h' ∧ XMR h' b n B c p.1 p.2
  | .error e => ∃ h', x = some (-1, h') ∧ Sn LMP b h0 h' ∧ XMF h' b n B e
theorem XMO.tr {h0 h1 : PH} {b n c : Nat} {B : Nat → Nat} {r : XPR} {x : Option (Int32 × PH)} (t : Sn LMP b h0 h1) (o : XMO h1 b n B c r x) : XMO h0 b n B c r x := by
  cases r with
  | ok p => obtain ⟨h', a1, a2, a3⟩ := o; exact ⟨h', a1, t.tr a2, a3⟩
  | error p => obtain ⟨h', a1, a2, a3⟩ := o; exact ⟨h', a1, t.tr a2, a3⟩
theorem lrd_lmp {b : Nat} {h h2 : PH} (t : Sn LRD b h h2) : Sn LMP b h h2 := t.up (by decide)
theorem prm_lt : ∀ w : Fin 29, prm w.val < 29 := by decide
theorem prm_inj : ∀ w v : Fin 29, prm w.val = prm v.val → w = v := by decide
theorem prm_as : ∀ w : Fin 29, (7 ≤ prm w.val ∧ prm w.val ≤ 16) ↔ (3 ≤ w.val ∧ w.val ≤ 12) := by decide
theorem prm_a : ∀ w : Fin 29, 3 ≤ w.val → w.val ≤ 12 → prm w.val = w.val + 4 := by decide
section MREAD
variable {h : PH} {b n c i : Nat} {B : Nat → Nat} {cs : XCS}
theorem XMR.K (C : XMR h b n B c i cs) : gK h (b + 131) = (0, 9) := C.1.K
theorem XMR.hn (C : XMR h b n B c i cs) : n ≤ 400 ∧ c ≤ n ∧ i ≤ c := ⟨C.1.2.1, C.2.1.1, C.2.2.2.1⟩
theorem XMR.cE (C : XMR h b n B c i cs) : tkA B n c = -1 := by
  unfold tkA
  rw [C.2.1.2.1, if_neg (Nat.lt_irrefl _)]
theorem XMR.lt (C : XMR h b n B c i cs) (hi : tkA B n i ≠ -1) : i < c := ne_end C.cE rfl hi C.2.2.2.1
theorem XMR.tk (C : XMR h b n B c i cs) : TkR (gI h (b + 131) 17) (gI h (b + 131) 18) (tkA B n i) := C.2.2.1.2.2
theorem XMR.sn {L : SL} {h2 : PH} (C : XMR h b n B c i cs) (t : Sn L b h h2) (hd : disj L [(131, 14, 19), (140, 0, 400), (141, 0, 144), (131, 28, 29), (147, 800, 1200), (148, 800, 1200)] = true) (hl : cs.length ≤ 400) : XMR h2 b n B c i cs := by
  obtain ⟨⟨s, c1, c2, c3, c4⟩, p, ⟨m1, m2, m3⟩, c5, c6, c7⟩ := C
  have g : ∀ o lo hi j, (o, lo, hi) ∈ ([(131, 14, 19), (140, 0, 400), (141, 0, 144), (131, 28, 29), (147, 800, 1200), (148, 800, 1200)] : SL) → lo ≤ j → j < hi → gI h2 (b + o) j = gI h (b + o) j := fun o lo hi j hm h1 h2 => t.I (disj_ok hd (inL_in hm h1 h2))
  refine ⟨⟨s.sn t, c1, ?_, fun j hj => ⟨(c3 j hj).1, ?_⟩, fun j hj => ?_⟩, p, ⟨?_, ?_, ?_⟩, c5, ?_, fun j hj => ?_⟩
  · rw [g 131 14 19 14 (by decide) (by omega) (by omega)]; exact c2
  · rw [g 140 0 400 j (by decide) (by omega) hj]; exact (c3 j hj).2
  · rw [g 141 0 144 j (by decide) (by omega) hj]; exact c4 j hj
  · rw [g 131 14 19 16 (by decide) (by omega) (by omega)]; exact m1
  · rw [g 131 14 19 15 (by decide) (by omega) (by omega)]; exact m2
  · rw [g 131 14 19 17 (by decide) (by omega) (by omega), g 131 14 19 18 (by decide) (by omega) (by omega)]; exact m3
  · rw [g 131 28 29 28 (by decide) (by omega) (by omega)]; exact c6
  · rw [g 147 800 1200 _ (by decide) (by omega) (by omega), g 148 800 1200 _ (by decide) (by omega) (by omega)]; exact c7 j hj
theorem mo_adv (C : XMR h b n B c i cs) (hi : i < c) : ∃ h', f_Mo_reads (b + 131) h = some h' ∧ Sn LMP b h h' ∧ XMR h' b n B c (i + 1) cs := by
  obtain ⟨h', a1, a2, a3⟩ := mo_nxt C.1 C.2.2.1 (C.2.1.2.2 i hi)
  refine ⟨h', a1, lrd_lmp a2, C.1.sn a2 (by decide), C.2.1, a3, by omega, ?_, fun j hj => ?_⟩
  · rw [a2.I (by decide)]; exact C.2.2.2.2.1
  · rw [a2.I (by simp [inL, LRD]), a2.I (by simp [inL, LRD])]; exact C.2.2.2.2.2 j hj
theorem mo_err (C : XMR h b n B c i cs) {k : Nat} : ∃ h', f_Mo_errs (b + 131) (nI k) h = some (-1, h') ∧ Sn LMP b h h' ∧ XMF h' b n B (k, i) := by
  have K := C.K
  refine ⟨sI (sI h (b + 131) 32 (nI k)) (b + 131) 33 (nI (psN B n i)), ?_, (Sn.rf.put 131 32 _ (by decide)).put 131 33 _ (by decide), by simp (disch := omega) only [gI_q, gI_n1, gI_n2], by simp (disch := omega) only [gI_q, gI_n1, gI_n2]⟩
  unfold f_Mo_errs
  rw [stI_y K, bind_some', ldI_y (by rw [gK_sI]; exact K), bind_some', gI_n2 (by omega), C.2.2.1.1, stI_y (by rw [gK_sI]; exact K), bind_some']
theorem XMR.err (C : XMR h b n B c i cs) {k : Nat} {x : Int32} (hx : x = nI k) : XMO h b n B c (.error (k, i)) ((f_Mo_errs (b + 131) x h).bind fun p => some (p.1, p.2)) := by
  obtain ⟨h', a1, a2⟩ := mo_err C (k := k)
  rw [hx, a1, bind_some']
  exact ⟨h', rfl, a2⟩
theorem mo_emits (C : XMR h b n B c i cs) (o a : Int32) (hl : cs.length < 400) : ∃ h', f_Mo_emits (b + 131) o a h = some h' ∧ Sn LMP b h h' ∧ XMR h' b n B c i (cs ++ [(o, a)]) := by
  have hn := C.hn
  have K := C.K
  obtain ⟨c1, p, m, c5, c6, c7⟩ := C
  have s := c1.1
  have K147 : gK h (b + 147) = (1, 1200) := s.K 147 (by decide) rfl
  have K148 : gK h (b + 148) = (1, 1200) := s.K 148 (by decide) rfl
  obtain ⟨h1, e1⟩ : ∃ h1, h1 = sI (sI (sI h (b + 147) (800 + cs.length) o) (b + 148) (800 + cs.length) a) (b + 131) 28 (nI (cs.length + 1)) := ⟨_, rfl⟩
  have t2 : Sn [(131, 28, 29), (147, 800, 1200), (148, 800, 1200)] b h h1 := by rw [e1]; exact ((Sn.rf.put 147 _ _ (inL_in (lo := 800) (hi := 1200) (by decide) (by omega) (by omega))).put 148 _ _ (inL_in (lo := 800) (hi := 1200) (by decide) (by omega) (by omega))).put 131 28 _ (by decide)
  obtain ⟨m1, m2, m3⟩ := m
  refine ⟨h1, ?_, t2.up (by decide), c1.sn t2 (by decide), p, ⟨?_, ?_, ?_⟩, c5, ?_, fun j hj => ?_⟩
  · have k1 : ∀ x, gK (sI h (b + 147) (800 + cs.length) x) (b + 131) = (0, 9) := fun _ => K
    have k2 : ∀ x y, gK (sI (sI h (b + 147) (800 + cs.length) x) (b + 148) (800 + cs.length) y) (b + 131) = (0, 9) := fun _ _ => K
    have k8 : ∀ x, gK (sI h (b + 147) (800 + cs.length) x) (b + 148) = (1, 1200) := fun _ => K148
    unfold f_Mo_emits
    rw [ldR_y K (s.R 131 25 rfl), bind_some', ldI_y K, bind_some', c6, show (800 : Int32) + nI cs.length = nI (800 + cs.length) from L_addn _, wr_at K147 (by omega) (by omega), bind_some', ldR_y (k1 _) (s.R 131 26 rfl), bind_some', ldI_y (k1 _), bind_some', gI_n1 (by omega), c6, show (800 : Int32) + nI cs.length = nI (800 + cs.length) from L_addn _, wr_at (k8 _) (by omega) (by omega), bind_some', ldI_y (k2 _ _), bind_some', gI_n1 (by omega), gI_n1 (by omega), c6, nI_s, stI_y (k2 _ _), bind_some', e1]
  · rw [t2.I (by decide)]; exact m1
  · rw [t2.I (by decide)]; exact m2
  · rw [t2.I (by decide), t2.I (by decide)]; exact m3
  · rw [e1, List.length_append]; simp (disch := omega) only [gI_q, gI_n1, gI_n2]; rfl
  · rw [List.length_append] at hj
    have hj : j < cs.length + 1 := hj
    rw [e1]
    by_cases z : j = cs.length
    · rw [gI_n1 (by omega), gI_n1 (by omega), gI_q rfl (by omega), gI_n1 (by omega), gI_q rfl (by omega), z, List.getD_eq_getElem?_getD, List.getElem?_concat_length]
      exact ⟨rfl, rfl⟩
    · rw [gI_n1 (by omega), gI_n1 (by omega), gI_n2 (by omega), gI_n1 (by omega), gI_n2 (by omega), gI_n1 (by omega), List.getD_eq_getElem?_getD, List.getElem?_append_left (by omega), ← List.getD_eq_getElem?_getD]
      exact c7 j (by omega)
theorem mo_isW (C : XMR h b n B c i cs) (w : Nat) (hw : w < 29) {x t : Int32} (hx : x = nI (prm w)) (ht : t = nI (20000 + w)) : f_Mo_isWord (b + 131) x h = some (bI (decide (tkA B n i = t)), h) := by
  have K := C.K
  unfold f_Mo_isWord
  rw [ldI_y K, bind_some', ldI_y K, bind_some']
  have no : ∀ t' v', TkR t' v' (tkA B n i) → t' ≠ 2 → tkA B n i ≠ t := by
    intro t' v' r hne e
    rcases r with ⟨z, -⟩ | ⟨z, -⟩ | ⟨y, y1, z, -⟩ | ⟨y, y1, z, -⟩ | ⟨y, y1, z, z2, -⟩
    · rw [z, ht] at e; exact nI_ne_m1 (by omega) e.symm
    · rw [z, ht] at e
      have := nI_pos (n := 20000 + w) (by omega)
      rw [← e] at this
      exact this (by decide)
    · rw [z, ht, nI_eq' (by omega) (by omega)] at e; omega
    · rw [z, ht, nI_eq' (by omega) (by omega)] at e; omega
    · exact hne z2
  have r := C.tk
  by_cases q : gI h (b + 131) 17 = 2
  · rw [if_pos q]
    rcases r with ⟨-, z⟩ | ⟨-, z⟩ | ⟨y, y1, -, z, -⟩ | ⟨y, y1, -, z⟩ | ⟨v, v1, z1, z2, z3⟩
    · rw [q] at z; exact absurd z (by decide)
    · rw [q] at z; exact absurd z (by decide)
    · rw [q] at z; exact absurd z (by decide)
    · rcases z with ⟨-, z, -⟩ | ⟨-, z⟩ <;> rw [q] at z <;> exact absurd z (by decide)
    · have b1 := prm_lt ⟨w, hw⟩
      have b2 := prm_lt ⟨v, v1⟩
      have b1 : prm w < 29 := b1
      have b2 : prm v < 29 := b2
      rw [z3, hx, z1, ht]
      by_cases e : v = w
      · rw [e, if_pos rfl, rtZ_1, show decide (nI (20000 + w) = nI (20000 + w)) = true by simp]; rfl
      · rw [if_neg (by
          rw [nI_eq' (by omega) (by omega)]
          intro y
          have := prm_inj ⟨v, v1⟩ ⟨w, hw⟩ y
          exact e (by injection this)), rtZ_0, show decide (nI (20000 + v) = nI (20000 + w)) = false by
            simp only [decide_eq_false_iff_not]; rw [nI_eq' (by omega) (by omega)]; omega]
        rfl
  · rw [if_neg q, rtZ_0, show decide (tkA B n i = t) = false by simp only [decide_eq_false_iff_not]; exact no _ _ r q]; rfl
theorem mo_isS (C : XMR h b n B c i cs) (m : Nat) (hm : txM m = true) (hb : m ≤ 255) {x t : Int32} (hx : x = nI m) (ht : t = nI (10000 + m)) : f_Mo_isSign (b + 131) x h = some (bI (decide (tkA B n i = t)), h) := by
  have K := C.K
  unfold f_Mo_isSign
  rw [ldI_y K, bind_some', ldI_y K, bind_some']
  have r := C.tk
  by_cases q : gI h (b + 131) 17 = 4
  · rw [if_pos q]
    rcases r with ⟨-, z⟩ | ⟨-, z⟩ | ⟨y, y1, -, z, -⟩ | ⟨y, y1, z1, z⟩ | ⟨v, v1, z1, z2, z3⟩
    · rw [q] at z; exact absurd z (by decide)
    · rw [q] at z; exact absurd z (by decide)
    · rw [q] at z; exact absurd z (by decide)
    · rcases z with ⟨-, -, z⟩ | ⟨-, z⟩
      · rw [z, hx, z1, ht]
        by_cases e : y = m
        · rw [e, if_pos rfl, rtZ_1, show decide (nI (10000 + m) = nI (10000 + m)) = true by simp]; rfl
        · rw [if_neg (by rw [nI_eq' (by omega) (by omega)]; exact e), rtZ_0, show decide (nI (10000 + y) = nI (10000 + m)) = false by
            simp only [decide_eq_false_iff_not]; rw [nI_eq' (by omega) (by omega)]; omega]
          rfl
      · rw [q] at z; exact absurd z (by decide)
    · rw [q] at z2; exact absurd z2 (by decide)
  · rw [if_neg q, rtZ_0, show decide (tkA B n i = t) = false by
      simp only [decide_eq_false_iff_not]
      intro e
      rcases r with ⟨z, -⟩ | ⟨z, -⟩ | ⟨y, y1, z, -⟩ | ⟨y, y1, z, z2⟩ | ⟨y, y1, z, z2, -⟩
      · rw [z, ht] at e; exact nI_ne_m1 (by omega) e.symm
      · rw [z, ht] at e
        have := nI_pos (n := 10000 + m) (by omega)
        rw [← e] at this
        exact this (by decide)
      · rw [z, ht, nI_eq' (by omega) (by omega)] at e; omega
      · rw [z, ht, nI_eq' (by omega) (by omega)] at e
        have e : y = m := by omega
        rcases z2 with ⟨-, z2, -⟩ | ⟨z2, -⟩
        · exact q z2
        · rw [e, hm] at z2; cases z2
      · rw [z, ht, nI_eq' (by omega) (by omega)] at e; omega]
    rfl
/-- a number, as the reference sees it -/
theorem XMR.num (C : XMR h b n B c i cs) : (gI h (b + 131) 17 = 3 ↔ isNm (tkA B n i) = true) ∧ (isNm (tkA B n i) = true → gI h (b + 131) 18 = tkA B n i) := by
  rcases C.tk with ⟨z, y⟩ | ⟨z, y⟩ | ⟨x, x1, z, y, v⟩ | ⟨x, x1, z, y⟩ | ⟨x, x1, z, y, v⟩
  · rw [z, y]; exact ⟨by decide, fun q => absurd q (by decide)⟩
  · rw [z, y]; exact ⟨by decide, fun q => absurd q (by decide)⟩
  · rw [z, y, isNm_x x1]; exact ⟨by simp, fun _ => v⟩
  · rw [z, isNm_o (by omega) (by omega)]
    rcases y with ⟨-, y, -⟩ | ⟨-, y⟩
    · rw [y]; exact ⟨by decide, fun q => absurd q (by decide)⟩
    · rw [y]; exact ⟨by decide, fun q => absurd q (by decide)⟩
  · rw [z, y, isNm_o (by omega) (by omega)]; exact ⟨by decide, fun q => absurd q (by decide)⟩
theorem mo_unit (C : XMR h b n B c i cs) (hl : cs.length ≤ i) : XMO h b n B c (unS (tkA B n) i cs) (f_Mo_readUnit (b + 131) h) := by
  have hn := C.hn
  have K := C.K
  have go : ∀ (o a : Int32), tkA B n i ≠ -1 → XMO h b n B c (.ok (i + 1, cs ++ [(o, a)])) (f_Mo_readUnit_71 (b + 131) a o (b + 131) h) := by
    intro o a ne
    have hic := C.lt ne
    obtain ⟨h1, w1, w2, w3⟩ := mo_emits C o a (by omega)
    obtain ⟨h2, a1, a2, a3⟩ := mo_adv w3 hic
    refine ⟨h2, ?_, w2.tr a2, a3⟩
    unfold f_Mo_readUnit_71
    rw [isO_y K, bind_some', w1, bind_some', isO_y w3.K, bind_some', a1, bind_some']
  have bad : isNm (tkA B n i) = false → isAs (tkA B n i) = false → XMO h b n B c (unS (tkA B n) i cs) (f_Mo_readUnit_23 (b + 131) h) := by
    intro q1 q2
    unfold f_Mo_readUnit_23 f_Mo_readUnit_24 unS
    rw [if_pos rfl, ldI_y K, bind_some', if_neg (show ¬ isNm (tkA B n i) = true by rw [q1]; decide), if_neg (show ¬ isAs (tkA B n i) = true by rw [q2]; decide), if_neg (show ¬ gI h (b + 131) 17 = 3 by rw [C.num.1, q1]; decide), isO_y K, bind_some']
    exact C.err rfl
  unfold f_Mo_readUnit
  rw [ldI_y K, bind_some']
  by_cases q : gI h (b + 131) 17 = 2
  · rw [if_pos q, ldI_y K, bind_some', isO_y K, bind_some']
    rcases C.tk with ⟨z, y⟩ | ⟨z, y⟩ | ⟨x, x1, z, y, v⟩ | ⟨x, x1, z, y⟩ | ⟨x, x1, z, y, v⟩
    · rw [q] at y; exact absurd y (by decide)
    · rw [q] at y; exact absurd y (by decide)
    · rw [q] at y; exact absurd y (by decide)
    · rcases y with ⟨-, y, -⟩ | ⟨-, y⟩ <;> rw [q] at y <;> exact absurd y (by decide)
    · have p1 : prm x < 29 := prm_lt ⟨x, x1⟩
      have p2 := prm_as ⟨x, x1⟩
      have p2 : (7 ≤ prm x ∧ prm x ≤ 16) ↔ (3 ≤ x ∧ x ≤ 12) := p2
      have ca : f_Mo_canAsk (b + 131) (gI h (b + 131) 18) h = some (bI (decide (7 ≤ prm x) && decide (prm x ≤ 16)), h) := by
        have e1 : f_Mo_isIn (b + 131) (nI (prm x)) 7 16 h = _ := mo_in (x := prm x) (lo := 7) (hi := 16) (by omega) (by omega) (by omega) (b + 131) h
        unfold f_Mo_canAsk
        rw [isO_y K, bind_some', v, e1, bind_some']
        dsimp only
        cases (decide (7 ≤ prm x) && decide (prm x ≤ 16)) with
        | true => exact rtZ_1
        | false => exact rtZ_0
      rw [ca, bind_some']
      dsimp only
      by_cases a : 3 ≤ x ∧ x ≤ 12
      · have pe : prm x = x + 4 := prm_a ⟨x, x1⟩ a.1 a.2
        have ca2 : (decide (7 ≤ prm x) && decide (prm x ≤ 16)) = true := by simp; exact p2.mpr a
        rw [ca2, if_neg (by decide)]
        unfold f_Mo_readUnit_24 f_Mo_readUnit_43 f_Mo_readUnit_53
        rw [if_neg (by decide), if_neg (by decide), if_neg (by decide), ldI_y K, bind_some', v, pe]
        unfold unS
        rw [if_neg (by rw [z, isNm_o (by omega) (by omega)]; decide), if_pos (by rw [z, show 20000 + x = 20003 + (x - 3) by omega]; exact isAs_x (by omega))]
        rw [show tkA B n i - 20003 = nI (x + 4) - 7 by
          rw [z, show nI (20000 + x) - 20003 = nI (20000 + x - 20003) from nI_subL _ (by show 20003 ≤ _; omega), show nI (x + 4) - 7 = nI (x + 4 - 7) from nI_subL _ (by show 7 ≤ _; omega), show 20000 + x - 20003 = x + 4 - 7 by omega]]
        exact go 1 _ (by rw [z]; exact nI_ne_m1 (by omega))
      · have ca2 : (decide (7 ≤ prm x) && decide (prm x ≤ 16)) = false := by
          rw [← Bool.not_eq_true]
          intro e
          simp at e
          exact a (p2.mp e)
        rw [ca2, if_pos (by decide)]
        refine bad (by rw [z]; exact isNm_o (by omega) (by omega)) (by rw [z]; exact isAs_o (by omega) (by omega))
  · rw [if_neg q]
    by_cases q1 : isNm (tkA B n i) = true
    · unfold f_Mo_readUnit_23 f_Mo_readUnit_24 f_Mo_readUnit_43 f_Mo_readUnit_53 unS
      rw [if_pos rfl, ldI_y K, bind_some', if_pos (C.num.1.mpr q1), if_pos rfl, if_pos rfl, ldI_y K, bind_some', C.num.2 q1, if_pos q1]
      exact go 0 _ (fun z => by rw [z, isNm_m1] at q1; cases q1)
    · refine bad (by simpa using q1) ?_
      rcases C.tk with ⟨z, y⟩ | ⟨z, y⟩ | ⟨x, x1, z, y, v⟩ | ⟨x, x1, z, y⟩ | ⟨x, x1, z, y, v⟩
      · rw [z]; decide
      · rw [z]; decide
      · rw [z]; exact isAs_o (by omega) (by omega)
      · rw [z]; exact isAs_o (by omega) (by omega)
      · exact absurd y q
end MREAD
