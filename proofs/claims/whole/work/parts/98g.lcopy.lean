/-! ===== the class's image: a land is copied ===== -/
/-- a land whose cells stand e behind those of the first -/
def XLd (h : PH) (b e : Nat) : Prop := (∀ i, 1 ≤ i → i < 40 → gK h (b + (e + i)) = KT i) ∧ ∀ i k q, 1 ≤ i → i < 40 → RT i k = some q → gR h (b + (e + i)) k = some (b + (e + q))
theorem XLd.K {h : PH} {b e : Nat} (l : XLd h b e) (i : Nat) {kd : Nat × Nat} (h1 : 1 ≤ i ∧ i < 40) (ek : KT i = kd) : gK h (b + (e + i)) = kd := (l.1 i h1.1 h1.2).trans ek
theorem XLd.R {h : PH} {b e : Nat} (l : XLd h b e) (i k : Nat) {q : Nat} (h1 : 1 ≤ i ∧ i < 40) (er : RT i k = some q) : gR h (b + (e + i)) k = some (b + (e + q)) := l.2 i k q h1.1 h1.2 er
theorem XLd.cg {h h' : PH} {b e : Nat} (l : XLd h b e) (k : gK h' = gK h) (r : gR h' = gR h) : XLd h' b e := by unfold XLd at *; rw [k, r]; exact l
theorem XLd_0 {h : PH} {b : Nat} (s : Shp h b) : XLd h b 0 := ⟨fun i h1 h2 => by rw [Nat.zero_add]; exact s.1 i (by omega), fun i k q h1 h2 e => by rw [Nat.zero_add, Nat.zero_add]; exact s.2 i k q e⟩
/-- the slots of D are copied from the land at f to that at e -/
def CQ (D : SL) (b e f : Nat) (h h' : PH) : Prop := gK h' = gK h ∧ gR h' = gR h ∧ gN h' = gN h ∧ gX h' = gX h ∧ (∀ i j, 1 ≤ i → i < 40 → inL D i j = true → gI h' (b + (e + i)) j = gI h (b + (f + i)) j) ∧ ∀ o j, (∀ i, 1 ≤ i → i < 40 → o = e + i → inL D i j = false) → gI h' (b + o) j = gI h (b + o) j
section CQS
variable {D : SL} {b e f : Nat} {h h' : PH}
theorem CQ.src (c : CQ D b e f h h') (ef : e + 40 ≤ f ∨ f + 40 ≤ e) {i j : Nat} (hi : i < 40) : gI h' (b + (f + i)) j = gI h (b + (f + i)) j := c.2.2.2.2.2 _ j (fun i' h1 h2 z => by omega)
theorem CQ.put (c : CQ D b e f h h') (i k : Nat) (h1 : 1 ≤ i ∧ i < 40) : CQ ((i, k, k + 1) :: D) b e f h (sI h' (b + (e + i)) k (gI h (b + (f + i)) k)) := by
  obtain ⟨c1, c2, c3, c4, c5, c6⟩ := c
  refine ⟨c1, c2, c3, c4, fun i' j a1 a2 hi => ?_, fun o j ho => ?_⟩
  · rw [gI_sI]
    by_cases q : b + (e + i') = b + (e + i) ∧ j = k
    · rw [if_pos q, show i' = i by omega, q.2]
    · rw [if_neg q]
      rcases inL_c hi with z | z
      · dsimp only at z
        exact absurd ⟨by omega, by omega⟩ q
      · exact c5 i' j a1 a2 z
  · rw [gI_sI, if_neg]
    · exact c6 o j (fun i' a1 a2 z => (inL_n (ho i' a1 a2 z)).2)
    · intro y
      have := (inL_n (ho i h1.1 h1.2 (by omega))).1
      dsimp only at this
      exact this ⟨rfl, by omega, by omega⟩
theorem CQ.cp (c : CQ D b e f h h') (ef : e + 40 ≤ f ∨ f + 40 ≤ e) (i n : Nat) (h1 : 1 ≤ i ∧ i < 40) : CQ ((i, 0, n) :: D) b e f h (cpI h' (b + (f + i)) 0 (b + (e + i)) 0 n) := by
  have src := fun j => c.src ef (j := j) h1.2
  obtain ⟨c1, c2, c3, c4, c5, c6⟩ := c
  refine ⟨c1, c2, c3, c4, fun i' j a1 a2 hi => ?_, fun o j ho => ?_⟩
  · rw [gI_cp]
    by_cases q : b + (e + i') = b + (e + i) ∧ 0 ≤ j ∧ j < 0 + n
    · rw [if_pos q, show i' = i by omega, src, Nat.zero_add, Nat.sub_zero]
    · rw [if_neg q]
      rcases inL_c hi with z | z
      · dsimp only at z
        exact absurd ⟨by omega, by omega, by omega⟩ q
      · exact c5 i' j a1 a2 z
  · rw [gI_cp, if_neg]
    · exact c6 o j (fun i' a1 a2 z => (inL_n (ho i' a1 a2 z)).2)
    · intro y
      have := (inL_n (ho i h1.1 h1.2 (by omega))).1
      dsimp only at this
      exact this ⟨rfl, by omega, by omega⟩
/-- a row -/
theorem CQ.row (c : CQ D b e f h h') (ef : e + 40 ≤ f ∨ f + 40 ≤ e) (le : XLd h b e) (lf : XLd h b f) (i m : Nat) (h1 : 1 ≤ i ∧ i < 39) (k1 : KT i = (0, 6)) (k2 : KT (i + 1) = (1, m)) (r1 : RT i 1 = some (i + 1)) (hm : m < 65536) : ∃ h2, f_Row_copyFrom (b + (e + i)) (b + (f + i)) h' = some h2 ∧ CQ ((i + 1, 0, m) :: (i, 2, 3) :: D) b e f h h2 := by
  have le' := le.cg c.1 c.2.1
  have lf' := lf.cg c.1 c.2.1
  have Kd := le'.K i ⟨h1.1, by omega⟩ k1
  have Kc := le'.K (i + 1) ⟨by omega, by omega⟩ k2
  have Rd := le'.R i 1 ⟨h1.1, by omega⟩ r1
  have Kr := lf'.K i ⟨h1.1, by omega⟩ k1
  have Kq := lf'.K (i + 1) ⟨by omega, by omega⟩ k2
  have Rr := lf'.R i 1 ⟨h1.1, by omega⟩ r1
  have c2 := c.put i 2 ⟨h1.1, by omega⟩
  have c3 := c2.cp ef (i + 1) m ⟨by omega, by omega⟩
  refine ⟨_, ?_, c3⟩
  have jm : jmin (nI m) (nI m) = nI m := by unfold jmin; split <;> rfl
  unfold f_Row_copyFrom
  generalize hv : gI h (b + (f + i)) 2 = v
  have l1 : ldR (sI h' (b + (e + i)) 2 v) 6 (b + (f + i)) 1 = some (b + (f + (i + 1))) := ldR_y (h := sI h' (b + (e + i)) 2 v) Kr Rr
  have l2 : ldR (sI h' (b + (e + i)) 2 v) 6 (b + (e + i)) 1 = some (b + (e + (i + 1))) := ldR_y (h := sI h' (b + (e + i)) 2 v) Kd Rd
  have l3 : lnA (sI h' (b + (e + i)) 2 v) (b + (e + (i + 1))) = some (nI m) := by unfold lnA; rw [gK_sI, Kc]; rfl
  have l4 : lnA (sI h' (b + (e + i)) 2 v) (b + (f + (i + 1))) = some (nI m) := by unfold lnA; rw [gK_sI, Kq]; rfl
  have l5 : cpA (sI h' (b + (e + i)) 2 v) (b + (f + (i + 1))) 0 (b + (e + (i + 1))) 0 (nI m) = some (cpI (sI h' (b + (e + i)) 2 v) (b + (f + (i + 1))) 0 (b + (e + (i + 1))) 0 m) := cpA_n (h := sI h' (b + (e + i)) 2 v) Kq Kc hm
  rw [ldI_y Kr, bind_some', c.src ef (by omega), hv, stI_y Kd, bind_some', l1, bind_some', l2, bind_some', bind_some', l3, bind_some', bind_some', l4, bind_some', jm, l5, bind_some']
/-- an array -/
theorem CQ.arr (c : CQ D b e f h h') (ef : e + 40 ≤ f ∨ f + 40 ≤ e) (le : XLd h b e) (lf : XLd h b f) (i n : Nat) (h1 : 1 ≤ i ∧ i < 40) (k2 : KT i = (1, n)) (hn : n < 65536) : cpA h' (b + (f + i)) 0 (b + (e + i)) 0 (nI n) = some (cpI h' (b + (f + i)) 0 (b + (e + i)) 0 n) ∧ CQ ((i, 0, n) :: D) b e f h (cpI h' (b + (f + i)) 0 (b + (e + i)) 0 n) :=
  ⟨cpA_n ((lf.cg c.1 c.2.1).K i h1 k2) ((le.cg c.1 c.2.1).K i h1 k2) hn, c.cp ef i n h1⟩
end CQS
theorem RS_Ld {h : PH} {b e : Nat} (l : XLd h b e) : RS h b (e + 2) := by
  have hh : ∀ i, b + (e + 2 + i) = b + (e + (2 + i)) := fun i => by rw [Nat.add_assoc]
  unfold RS
  refine ⟨⟨l.K 2 (by decide) rfl, l.K 3 (by decide) rfl, l.K 4 (by decide) rfl, l.K 5 (by decide) rfl, l.K 6 (by decide) rfl, l.K 7 (by decide) rfl, l.K 8 (by decide) rfl, l.K 9 (by decide) rfl, l.K 10 (by decide) rfl, l.K 11 (by decide) rfl⟩, l.R 2 2 (by decide) rfl, l.R 2 3 (by decide) rfl, l.R 2 4 (by decide) rfl, l.R 2 5 (by decide) rfl, l.R 2 6 (by decide) rfl, l.R 2 10 (by decide) rfl, l.R 2 11 (by decide) rfl, l.R 2 12 (by decide) rfl, l.R 2 13 (by decide) rfl⟩
theorem CQ_realm {b e f : Nat} {h h' : PH} (c : Cp CPD b (e + 2) (f + 2) h h') : CQ (shL 2 CPD) b e f h h' := by
  obtain ⟨c1, c2, c3, c4, c5, c6, c7⟩ := c
  have far : ∀ i j, (i < 2 ∨ 12 ≤ i) → inL (shL 2 CPD) i j = false := by
    intro i j hi
    unfold inL
    rw [Bool.eq_false_iff]
    intro z
    rw [List.any_eq_true] at z
    obtain ⟨p, hp, z⟩ := z
    simp only [Bool.and_eq_true, beq_iff_eq] at z
    have : ∀ p ∈ shL 2 CPD, 2 ≤ p.1 ∧ p.1 < 12 := by decide
    have := this p hp
    omega
  refine ⟨c1, c2, c3, c4, fun i j h1 h2 hi => ?_, fun o j ho => ?_⟩
  · by_cases q : i < 2 ∨ 12 ≤ i
    · rw [far i j q] at hi; cases hi
    · rw [show i = 2 + (i - 2) by omega, shL_in] at hi
      have := c5 (i - 2) j (by omega) hi
      rw [show e + 2 + (i - 2) = e + i by omega, show f + 2 + (i - 2) = f + i by omega] at this
      exact this
  · by_cases q : e + 2 ≤ o ∧ o < e + 12
    · have z := ho (o - e) (by omega) (by omega) (by omega)
      rw [show o - e = 2 + (o - e - 2) by omega, shL_in] at z
      have := c7 (o - e - 2) j (by omega) z
      rw [show e + 2 + (o - e - 2) = o by omega] at this
      exact this
    · exact c6 o j (by omega)
def LDD : SL := (25, 9, 10) :: (25, 8, 9) :: (39, 0, 24) :: (38, 0, 24) :: (37, 0, 12) :: (36, 2, 3) :: (35, 0, 12) :: (34, 2, 3) :: (33, 0, 10) :: (32, 2, 3) :: (31, 0, 8) :: (30, 2, 3) :: (29, 0, 32) :: (28, 2, 3) :: (27, 0, 24) :: (26, 2, 3) :: (24, 0, 64) :: (23, 2, 3) :: (22, 0, 64) :: (21, 2, 3) :: (20, 0, 64) :: (19, 2, 3) :: (13, 2, 3) :: (16, 0, 400) :: (15, 0, 64) :: (14, 2, 3) :: (12, 0, 600) :: shL 2 CPD
theorem cl_landcopy {b e f : Nat} {h : PH} (ef : e + 40 ≤ f ∨ f + 40 ≤ e) (le : XLd h b e) (lf : XLd h b f) : ∃ h', f_Land_copyFrom (b + (e + 1)) (b + (f + 1)) h = some h' ∧ CQ LDD b e f h h' := by
  obtain ⟨h1, a1, b1⟩ := copyFrom (b := b) (d := e + 2) (r := f + 2) (by omega) (RS_Ld le) (RS_Ld lf)
  have C1 := CQ_realm b1
  obtain ⟨a2, C2⟩ := C1.arr ef le lf 12 600 (by decide) rfl (by omega)
  generalize cpI h1 (b + (f + 12)) 0 (b + (e + 12)) 0 600 = h2 at a2 C2
  obtain ⟨h3, a3, C3⟩ := C2.row ef le lf 14 64 (by decide) rfl rfl rfl (by omega)
  obtain ⟨a4, C4⟩ := C3.arr ef le lf 16 400 (by decide) rfl (by omega)
  generalize cpI h3 (b + (f + 16)) 0 (b + (e + 16)) 0 400 = h4 at a4 C4
  have C5 := C4.put 13 2 (by decide)
  obtain ⟨h6, a6, C6⟩ := C5.row ef le lf 19 64 (by decide) rfl rfl rfl (by omega)
  obtain ⟨h7, a7, C7⟩ := C6.row ef le lf 21 64 (by decide) rfl rfl rfl (by omega)
  obtain ⟨h8, a8, C8⟩ := C7.row ef le lf 23 64 (by decide) rfl rfl rfl (by omega)
  obtain ⟨h9, a9, C9⟩ := C8.row ef le lf 26 24 (by decide) rfl rfl rfl (by omega)
  obtain ⟨hA, aA, CA⟩ := C9.row ef le lf 28 32 (by decide) rfl rfl rfl (by omega)
  obtain ⟨hB, aB, CB⟩ := CA.row ef le lf 30 8 (by decide) rfl rfl rfl (by omega)
  obtain ⟨hC, aC, CC⟩ := CB.row ef le lf 32 10 (by decide) rfl rfl rfl (by omega)
  obtain ⟨hD, aD, CD⟩ := CC.row ef le lf 34 12 (by decide) rfl rfl rfl (by omega)
  obtain ⟨hE, aE, CE⟩ := CD.row ef le lf 36 12 (by decide) rfl rfl rfl (by omega)
  obtain ⟨aF, CF⟩ := CE.arr ef le lf 38 24 (by decide) rfl (by omega)
  generalize cpI hE (b + (f + 38)) 0 (b + (e + 38)) 0 24 = hF at aF CF
  obtain ⟨aG, CG⟩ := CF.arr ef le lf 39 24 (by decide) rfl (by omega)
  generalize cpI hF (b + (f + 39)) 0 (b + (e + 39)) 0 24 = hG at aG CG
  have CH := CG.put 25 8 (by decide)
  have CI := CH.put 25 9 (by decide)
  refine ⟨_, ?_, CI⟩
  have le1 := le.cg C1.1 C1.2.1
  have lf1 := lf.cg C1.1 C1.2.1
  have le2 := le.cg C2.1 C2.2.1
  have lf2 := lf.cg C2.1 C2.2.1
  have le3 := le.cg C3.1 C3.2.1
  have lf3 := lf.cg C3.1 C3.2.1
  have le4 := le.cg C4.1 C4.2.1
  have lf4 := lf.cg C4.1 C4.2.1
  have le5 := le.cg C5.1 C5.2.1
  have lf5 := lf.cg C5.1 C5.2.1
  have le6 := le.cg C6.1 C6.2.1
  have lf6 := lf.cg C6.1 C6.2.1
  have le7 := le.cg C7.1 C7.2.1
  have lf7 := lf.cg C7.1 C7.2.1
  have le8 := le.cg C8.1 C8.2.1
  have lf8 := lf.cg C8.1 C8.2.1
  have le9 := le.cg C9.1 C9.2.1
  have lf9 := lf.cg C9.1 C9.2.1
  have leA := le.cg CA.1 CA.2.1
  have lfA := lf.cg CA.1 CA.2.1
  have leB := le.cg CB.1 CB.2.1
  have lfB := lf.cg CB.1 CB.2.1
  have leC := le.cg CC.1 CC.2.1
  have lfC := lf.cg CC.1 CC.2.1
  have leD := le.cg CD.1 CD.2.1
  have lfD := lf.cg CD.1 CD.2.1
  have leE := le.cg CE.1 CE.2.1
  have lfE := lf.cg CE.1 CE.2.1
  have leF := le.cg CF.1 CF.2.1
  have lfF := lf.cg CF.1 CF.2.1
  have leG := le.cg CG.1 CG.2.1
  have lfG := lf.cg CG.1 CG.2.1
  have lawc : f_Law_copyFrom (b + (e + 13)) (b + (f + 13)) h2 = some (sI h4 (b + (e + 13)) 2 (gI h (b + (f + 13)) 2)) := by
    unfold f_Law_copyFrom
    have q : gI h4 (b + (f + 13)) 2 = gI h (b + (f + 13)) 2 := C4.src ef (by omega)
    rw [ldR_y (le2.K 13 (by decide) rfl) (le2.R 13 0 (by decide) rfl), bind_some', ldR_y (lf2.K 13 (by decide) rfl) (lf2.R 13 0 (by decide) rfl), bind_some', isO_y (le2.K 14 (by decide) rfl), bind_some', a3, bind_some', ldR_y (lf3.K 13 (by decide) rfl) (lf3.R 13 1 (by decide) rfl), bind_some', ldR_y (le3.K 13 (by decide) rfl) (le3.R 13 1 (by decide) rfl), bind_some', show cpA h3 (b + (f + 16)) 0 (b + (e + 16)) 0 400 = some h4 from a4, bind_some', ldI_y (lf4.K 13 (by decide) rfl), bind_some', q, stI_y (le4.K 13 (by decide) rfl), bind_some']
  have toldc : f_Told_copyFrom (b + (e + 25)) (b + (f + 25)) h8 = some (sI (sI hG (b + (e + 25)) 8 (gI h (b + (f + 25)) 8)) (b + (e + 25)) 9 (gI h (b + (f + 25)) 9)) := by
    unfold f_Told_copyFrom
    have q8 : gI hG (b + (f + 25)) 8 = gI h (b + (f + 25)) 8 := CG.src ef (by omega)
    have q9 : gI (sI hG (b + (e + 25)) 8 (gI h (b + (f + 25)) 8)) (b + (f + 25)) 9 = gI h (b + (f + 25)) 9 := CH.src ef (by omega)
    have leH := le.cg CH.1 CH.2.1
    have lfH := lf.cg CH.1 CH.2.1
    rw [ldR_y (le8.K 25 (by decide) rfl) (le8.R 25 0 (by decide) rfl), bind_some', ldR_y (lf8.K 25 (by decide) rfl) (lf8.R 25 0 (by decide) rfl), bind_some', isO_y (le8.K 26 (by decide) rfl), bind_some', a9, bind_some']
    rw [ldR_y (le9.K 25 (by decide) rfl) (le9.R 25 1 (by decide) rfl), bind_some', ldR_y (lf9.K 25 (by decide) rfl) (lf9.R 25 1 (by decide) rfl), bind_some', isO_y (le9.K 28 (by decide) rfl), bind_some', aA, bind_some']
    rw [ldR_y (leA.K 25 (by decide) rfl) (leA.R 25 2 (by decide) rfl), bind_some', ldR_y (lfA.K 25 (by decide) rfl) (lfA.R 25 2 (by decide) rfl), bind_some', isO_y (leA.K 30 (by decide) rfl), bind_some', aB, bind_some']
    rw [ldR_y (leB.K 25 (by decide) rfl) (leB.R 25 3 (by decide) rfl), bind_some', ldR_y (lfB.K 25 (by decide) rfl) (lfB.R 25 3 (by decide) rfl), bind_some', isO_y (leB.K 32 (by decide) rfl), bind_some', aC, bind_some']
    rw [ldR_y (leC.K 25 (by decide) rfl) (leC.R 25 4 (by decide) rfl), bind_some', ldR_y (lfC.K 25 (by decide) rfl) (lfC.R 25 4 (by decide) rfl), bind_some', isO_y (leC.K 34 (by decide) rfl), bind_some', aD, bind_some']
    rw [ldR_y (leD.K 25 (by decide) rfl) (leD.R 25 5 (by decide) rfl), bind_some', ldR_y (lfD.K 25 (by decide) rfl) (lfD.R 25 5 (by decide) rfl), bind_some', isO_y (leD.K 36 (by decide) rfl), bind_some', aE, bind_some']
    rw [ldR_y (lfE.K 25 (by decide) rfl) (lfE.R 25 6 (by decide) rfl), bind_some', ldR_y (leE.K 25 (by decide) rfl) (leE.R 25 6 (by decide) rfl), bind_some', show cpA hE (b + (f + 38)) 0 (b + (e + 38)) 0 24 = some hF from aF, bind_some']
    rw [ldR_y (lfF.K 25 (by decide) rfl) (lfF.R 25 7 (by decide) rfl), bind_some', ldR_y (leF.K 25 (by decide) rfl) (leF.R 25 7 (by decide) rfl), bind_some', show cpA hF (b + (f + 39)) 0 (b + (e + 39)) 0 24 = some hG from aG, bind_some']
    rw [ldI_y (lfG.K 25 (by decide) rfl), bind_some', q8, stI_y (leG.K 25 (by decide) rfl), bind_some', ldI_y (lfH.K 25 (by decide) rfl), bind_some', q9, stI_y (leH.K 25 (by decide) rfl), bind_some']
  unfold f_Land_copyFrom
  rw [ldR_y (le.K 1 (by decide) rfl) (le.R 1 0 (by decide) rfl), bind_some', ldR_y (lf.K 1 (by decide) rfl) (lf.R 1 0 (by decide) rfl), bind_some', isO_y (le.K 2 (by decide) rfl), bind_some', a1, bind_some']
  rw [ldR_y (lf1.K 1 (by decide) rfl) (lf1.R 1 1 (by decide) rfl), bind_some', ldR_y (le1.K 1 (by decide) rfl) (le1.R 1 1 (by decide) rfl), bind_some', show cpA h1 (b + (f + 12)) 0 (b + (e + 12)) 0 600 = some h2 from a2, bind_some']
  rw [ldR_y (le2.K 1 (by decide) rfl) (le2.R 1 2 (by decide) rfl), bind_some', ldR_y (lf2.K 1 (by decide) rfl) (lf2.R 1 2 (by decide) rfl), bind_some', isO_y (le2.K 13 (by decide) rfl), bind_some', lawc, bind_some']
  rw [ldR_y (le5.K 1 (by decide) rfl) (le5.R 1 3 (by decide) rfl), bind_some', ldR_y (lf5.K 1 (by decide) rfl) (lf5.R 1 3 (by decide) rfl), bind_some', isO_y (le5.K 19 (by decide) rfl), bind_some', a6, bind_some']
  rw [ldR_y (le6.K 1 (by decide) rfl) (le6.R 1 4 (by decide) rfl), bind_some', ldR_y (lf6.K 1 (by decide) rfl) (lf6.R 1 4 (by decide) rfl), bind_some', isO_y (le6.K 21 (by decide) rfl), bind_some', a7, bind_some']
  rw [ldR_y (le7.K 1 (by decide) rfl) (le7.R 1 5 (by decide) rfl), bind_some', ldR_y (lf7.K 1 (by decide) rfl) (lf7.R 1 5 (by decide) rfl), bind_some', isO_y (le7.K 23 (by decide) rfl), bind_some', a8, bind_some']
  rw [ldR_y (le8.K 1 (by decide) rfl) (le8.R 1 6 (by decide) rfl), bind_some', ldR_y (lf8.K 1 (by decide) rfl) (lf8.R 1 6 (by decide) rfl), bind_some', isO_y (le8.K 25 (by decide) rfl), bind_some', toldc, bind_some']
