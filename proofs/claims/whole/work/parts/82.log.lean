/-! ===== the realms that are kept ===== -/
/-- cells of the realm at r are copied to that at d -/
def Cp (D : SL) (b d r : Nat) (h h' : PH) : Prop := gK h' = gK h ∧ gR h' = gR h ∧ gN h' = gN h ∧ gX h' = gX h ∧ (∀ o j, o < 10 → inL D o j = true → gI h' (b + (d + o)) j = gI h (b + (r + o)) j) ∧ (∀ o j, (o < d ∨ d + 10 ≤ o) → gI h' (b + o) j = gI h (b + o) j) ∧ ∀ o j, o < 10 → inL D o j = false → gI h' (b + (d + o)) j = gI h (b + (d + o)) j
theorem Cp.rf {b d r : Nat} {h : PH} : Cp [] b d r h h := ⟨rfl, rfl, rfl, rfl, fun o j _ h => (by cases h), fun _ _ _ => rfl, fun _ _ _ _ => rfl⟩
theorem inL_c {D : SL} {q : Nat × Nat × Nat} {o j : Nat} (h : inL (q :: D) o j = true) : (q.1 = o ∧ q.2.1 ≤ j ∧ j < q.2.2) ∨ inL D o j = true := by
  unfold inL at *
  rw [List.any_cons, Bool.or_eq_true] at h
  refine h.imp (fun h => ?_) id
  simp only [Bool.and_eq_true, beq_iff_eq, decide_eq_true_eq] at h
  exact h
theorem inL_n {D : SL} {q : Nat × Nat × Nat} {o j : Nat} (h : inL (q :: D) o j = false) : ¬ (q.1 = o ∧ q.2.1 ≤ j ∧ j < q.2.2) ∧ inL D o j = false := by
  unfold inL at *
  rw [List.any_cons, Bool.or_eq_false_iff] at h
  refine ⟨fun z => ?_, h.2⟩
  have : (q.1 == o && (decide (q.2.1 ≤ j) && decide (j < q.2.2))) = true := by
    simp only [Bool.and_eq_true, beq_iff_eq, decide_eq_true_eq]
    exact z
  rw [this] at h
  cases h.1
theorem Cp.put {D : SL} {b d r : Nat} {h h' : PH} (c : Cp D b d r h h') (dr : d + 10 ≤ r ∨ r + 10 ≤ d) (k : Nat) : Cp ((0, k, k + 1) :: D) b d r h (sI h' (b + d) k (gI h (b + r) k)) := by
  obtain ⟨c1, c2, c3, c4, c5, c6, c7⟩ := c
  refine ⟨c1, c2, c3, c4, fun o j ho hi => ?_, fun o j ho => ?_, fun o j ho hj => ?_⟩
  · rw [gI_sI]
    by_cases q : b + (d + o) = b + d ∧ j = k
    · rw [if_pos q]
      obtain ⟨q1, rfl⟩ := q
      obtain rfl : o = 0 := by omega
      rfl
    · rw [if_neg q]
      rcases inL_c hi with z | z
      · dsimp only at z
        exact absurd ⟨by omega, by omega⟩ q
      · exact c5 o j ho z
  · rw [gI_n1 (by omega)]
    exact c6 o j ho
  · obtain ⟨z1, z2⟩ := inL_n hj
    dsimp only at z1
    rw [gI_sI, if_neg (fun y => z1 ⟨by omega, by omega, by omega⟩)]
    exact c7 o j ho z2
theorem Cp.cp {D : SL} {b d r : Nat} {h h' : PH} (c : Cp D b d r h h') (dr : d + 10 ≤ r ∨ r + 10 ≤ d) (i n : Nat) (hi : i < 10) : Cp ((i, 0, n) :: D) b d r h (cpI h' (b + (r + i)) 0 (b + (d + i)) 0 n) := by
  obtain ⟨c1, c2, c3, c4, c5, c6, c7⟩ := c
  refine ⟨c1, c2, c3, c4, fun o j ho hj => ?_, fun o j ho => ?_, fun o j ho hj => ?_⟩
  · rw [gI_cp]
    by_cases q : b + (d + o) = b + (d + i) ∧ 0 ≤ j ∧ j < 0 + n
    · rw [if_pos q]
      obtain rfl : o = i := by omega
      rw [c6 (r + o) _ (by omega), Nat.zero_add, Nat.sub_zero]
    · rw [if_neg q]
      rcases inL_c hj with z | z
      · dsimp only at z
        exact absurd ⟨by omega, by omega, by omega⟩ q
      · exact c5 o j ho z
  · rw [gI_cp, if_neg (by omega)]
    exact c6 o j ho
  · obtain ⟨z1, z2⟩ := inL_n hj
    dsimp only at z1
    rw [gI_cp, if_neg (fun y => z1 ⟨by omega, by omega, by omega⟩)]
    exact c7 o j ho z2
theorem cpA_n {h : PH} {a c n : Nat} (k1 : gK h a = (1, n)) (k2 : gK h c = (1, n)) (hn : n < 65536) : cpA h a 0 c 0 (nI n) = some (cpI h a 0 c 0 n) := by
  unfold cpA
  have z : (0 : Int32).toNatClampNeg = 0 := rfl
  rw [k1, k2, tn_nI (by omega), z, if_pos ⟨⟨rfl, rfl, hn, hn⟩, ⟨rfl, rfl, rfl⟩, by omega, by omega⟩]
theorem cpA_12 (h : PH) (a c : Nat) : cpA h a 0 c 0 12 = if (gK h a).1 = 1 ∧ (gK h c).1 = 1 ∧ (gK h a).2 < 65536 ∧ (gK h c).2 < 65536 ∧ 12 ≤ (gK h a).2 ∧ 12 ≤ (gK h c).2 then some (cpI h a 0 c 0 12) else none := by
  unfold cpA
  have z : (0 : Int32).toNatClampNeg = 0 := rfl
  have w : (12 : Int32).toNatClampNeg = 12 := rfl
  have e : ((0 : Int32) = nI (0 : Int32).toNatClampNeg ∧ (0 : Int32) = nI (0 : Int32).toNatClampNeg ∧ (12 : Int32) = nI (12 : Int32).toNatClampNeg) := ⟨rfl, rfl, rfl⟩
  rw [z, w] at *
  by_cases q : (gK h a).1 = 1 ∧ (gK h c).1 = 1 ∧ (gK h a).2 < 65536 ∧ (gK h c).2 < 65536 ∧ 12 ≤ (gK h a).2 ∧ 12 ≤ (gK h c).2
  · rw [if_pos q, if_pos ⟨⟨q.1, q.2.1, q.2.2.1, q.2.2.2.1⟩, e, by omega, by omega⟩]
  · rw [if_neg q, if_neg (fun y => q ⟨y.1.1, y.1.2.1, y.1.2.2.1, y.1.2.2.2, by omega, by omega⟩)]
theorem cpA_6 (h : PH) (a c : Nat) : cpA h a 0 c 0 6 = if (gK h a).1 = 1 ∧ (gK h c).1 = 1 ∧ (gK h a).2 < 65536 ∧ (gK h c).2 < 65536 ∧ 6 ≤ (gK h a).2 ∧ 6 ≤ (gK h c).2 then some (cpI h a 0 c 0 6) else none := by
  unfold cpA
  have z : (0 : Int32).toNatClampNeg = 0 := rfl
  have w : (6 : Int32).toNatClampNeg = 6 := rfl
  have e : ((0 : Int32) = nI (0 : Int32).toNatClampNeg ∧ (0 : Int32) = nI (0 : Int32).toNatClampNeg ∧ (6 : Int32) = nI (6 : Int32).toNatClampNeg) := ⟨rfl, rfl, rfl⟩
  rw [z, w] at *
  by_cases q : (gK h a).1 = 1 ∧ (gK h c).1 = 1 ∧ (gK h a).2 < 65536 ∧ (gK h c).2 < 65536 ∧ 6 ≤ (gK h a).2 ∧ 6 ≤ (gK h c).2
  · rw [if_pos q, if_pos ⟨⟨q.1, q.2.1, q.2.2.1, q.2.2.2.1⟩, e, by omega, by omega⟩]
  · rw [if_neg q, if_neg (fun y => q ⟨y.1.1, y.1.2.1, y.1.2.2.1, y.1.2.2.2, by omega, by omega⟩)]
theorem RS.cg {h h' : PH} {b r : Nat} (c : RS h b r) (k : gK h' = gK h) (q : gR h' = gR h) : RS h' b r := by
  unfold RS at *
  rw [k, q]
  exact c
def CPD : SL := [(0, 19, 20), (0, 18, 19), (0, 17, 18), (0, 16, 17), (0, 15, 16), (0, 14, 15), (9, 0, 6), (8, 0, 6), (7, 0, 6), (6, 0, 6), (0, 9, 10), (0, 8, 9), (0, 7, 8), (5, 0, 12), (4, 0, 12), (3, 0, 12), (2, 0, 12), (1, 0, 12), (0, 1, 2), (0, 0, 1)]
theorem copyFrom {hh : PH} {b d r : Nat} (dr : d + 10 ≤ r ∨ r + 10 ≤ d) (rd : RS hh b d) (rs : RS hh b r) : ∃ h', f_Realm_copyFrom (b + d) (b + r) hh = some h' ∧ Cp CPD b d r hh h' := by
  refine ⟨(sI (sI (sI (sI (sI (sI (cpI (cpI (cpI (cpI (sI (sI (sI (cpI (cpI (cpI (cpI (cpI (sI (sI hh (b + d) 0 (gI hh (b + r) 0)) (b + d) 1 (gI hh (b + r) 1)) (b + (r + 1)) 0 (b + (d + 1)) 0 12) (b + (r + 2)) 0 (b + (d + 2)) 0 12) (b + (r + 3)) 0 (b + (d + 3)) 0 12) (b + (r + 4)) 0 (b + (d + 4)) 0 12) (b + (r + 5)) 0 (b + (d + 5)) 0 12) (b + d) 7 (gI hh (b + r) 7)) (b + d) 8 (gI hh (b + r) 8)) (b + d) 9 (gI hh (b + r) 9)) (b + (r + 6)) 0 (b + (d + 6)) 0 6) (b + (r + 7)) 0 (b + (d + 7)) 0 6) (b + (r + 8)) 0 (b + (d + 8)) 0 6) (b + (r + 9)) 0 (b + (d + 9)) 0 6) (b + d) 14 (gI hh (b + r) 14)) (b + d) 15 (gI hh (b + r) 15)) (b + d) 16 (gI hh (b + r) 16)) (b + d) 17 (gI hh (b + r) 17)) (b + d) 18 (gI hh (b + r) 18)) (b + d) 19 (gI hh (b + r) 19)), ?_, ((((((((((((((((((((Cp.rf.put dr 0).put dr 1).cp dr 1 12 (by decide)).cp dr 2 12 (by decide)).cp dr 3 12 (by decide)).cp dr 4 12 (by decide)).cp dr 5 12 (by decide)).put dr 7).put dr 8).put dr 9).cp dr 6 6 (by decide)).cp dr 7 6 (by decide)).cp dr 8 6 (by decide)).cp dr 9 6 (by decide)).put dr 14).put dr 15).put dr 16).put dr 17).put dr 18).put dr 19)⟩
  obtain ⟨⟨k0, k1, k2, k3, k4, k5, k6, k7, k8, k9⟩, q2, q3, q4, q5, q6, q10, q11, q12, q13⟩ := rd
  obtain ⟨⟨l0, l1, l2, l3, l4, l5, l6, l7, l8, l9⟩, p2, p3, p4, p5, p6, p10, p11, p12, p13⟩ := rs
  have P : ∀ (H : PH) k v j, gI (sI H (b + d) k v) (b + r) j = gI H (b + r) j := fun H k v j => gI_n1 (by omega)
  have Q : ∀ (H : PH) a i n j, i < 10 → gI (cpI H a 0 (b + (d + i)) 0 n) (b + r) j = gI H (b + r) j := fun H a i n j hi => by rw [gI_cp, if_neg (by omega)]
  have Q1 : ∀ (H : PH) a n j, gI (cpI H a 0 (b + (d + 1)) 0 n) (b + r) j = gI H (b + r) j := fun H a n j => Q H a 1 n j (by decide)
  have Q2 : ∀ (H : PH) a n j, gI (cpI H a 0 (b + (d + 2)) 0 n) (b + r) j = gI H (b + r) j := fun H a n j => Q H a 2 n j (by decide)
  have Q3 : ∀ (H : PH) a n j, gI (cpI H a 0 (b + (d + 3)) 0 n) (b + r) j = gI H (b + r) j := fun H a n j => Q H a 3 n j (by decide)
  have Q4 : ∀ (H : PH) a n j, gI (cpI H a 0 (b + (d + 4)) 0 n) (b + r) j = gI H (b + r) j := fun H a n j => Q H a 4 n j (by decide)
  have Q5 : ∀ (H : PH) a n j, gI (cpI H a 0 (b + (d + 5)) 0 n) (b + r) j = gI H (b + r) j := fun H a n j => Q H a 5 n j (by decide)
  have Q6 : ∀ (H : PH) a n j, gI (cpI H a 0 (b + (d + 6)) 0 n) (b + r) j = gI H (b + r) j := fun H a n j => Q H a 6 n j (by decide)
  have Q7 : ∀ (H : PH) a n j, gI (cpI H a 0 (b + (d + 7)) 0 n) (b + r) j = gI H (b + r) j := fun H a n j => Q H a 7 n j (by decide)
  have Q8 : ∀ (H : PH) a n j, gI (cpI H a 0 (b + (d + 8)) 0 n) (b + r) j = gI H (b + r) j := fun H a n j => Q H a 8 n j (by decide)
  have Q9 : ∀ (H : PH) a n j, gI (cpI H a 0 (b + (d + 9)) 0 n) (b + r) j = gI H (b + r) j := fun H a n j => Q H a 9 n j (by decide)
  have z1 : (12 : Nat) < 65536 ∧ (12 : Nat) ≤ 12 ∧ (6 : Nat) < 65536 ∧ (6 : Nat) ≤ 6 := by decide
  simp only [f_Realm_copyFrom, ↓ob_eq, ob_so, ldI, ldR, stI, isO, gK_sI, gR_sI, gK_cp, gR_cp, if_true, reduceIte, and_self, true_and, and_true, k0, k1, k2, k3, k4, k5, k6, k7, k8, k9, l0, l1, l2, l3, l4, l5, l6, l7, l8, l9, q2, q3, q4, q5, q6, q10, q11, q12, q13, p2, p3, p4, p5, p6, p10, p11, p12, p13, P, Q1, Q2, Q3, Q4, Q5, Q6, Q7, Q8, Q9, cpA_12, cpA_6, z1]
/-- what a realm is stands at its ten cells -/
theorem Rl.sn {L : SL} {h hh h2 : PH} {b r : Nat} {g : Nat → Int32} (I : Inv b h) (rl : Rl h hh b r g) (t : Sn L b hh h2) (hd : ∀ p ∈ L, p.1 < r ∨ r + 10 ≤ p.1) : Rl h h2 b r g := by
  obtain ⟨s, cd, c_stat, c_realm, c_book, c_law, c_kin, c_shi, c_roa, c_ord, c_han, c_wei, c_bag, c_pri, c_cnt, c_led, c_yea, c_log, c_rdr, c_msc, c_img⟩ := I
  obtain ⟨⟨hnt, hno⟩, _⟩ := c_realm
  have e : ∀ i j, i < 10 → gI h2 (b + (r + i)) j = gI hh (b + (r + i)) j := fun i j hi => t.2.2.2.2 (r + i) j (by
    cases q : inL L (r + i) j
    · rfl
    · exfalso
      unfold inL at q
      rw [List.any_eq_true] at q
      obtain ⟨p, hp, e⟩ := q
      simp only [Bool.and_eq_true, beq_iff_eq, decide_eq_true_eq] at e
      have := hd p hp
      omega)
  exact RlR.cg hnt hno (fun j _ => e 0 j (by omega)) (fun j _ => e 1 j (by omega)) (fun j _ => e 2 j (by omega)) (fun j _ => e 3 j (by omega)) (fun j _ => e 4 j (by omega)) (fun j _ => e 5 j (by omega)) (fun j _ => e 6 j (by omega)) (fun j _ => e 7 j (by omega)) (fun j _ => e 8 j (by omega)) (fun j _ => e 9 j (by omega)) (fun _ _ => rfl) (fun _ _ => rfl) (fun _ _ => rfl) (fun _ _ => rfl) (fun _ _ => rfl) rl
theorem Cp.rl {h hh h2 : PH} {b d r : Nat} {g : Nat → Int32} (I : Inv b h) (rl : Rl h hh b r g) (c : Cp CPD b d r hh h2) : Rl h h2 b d g := by
  obtain ⟨s, cd, c_stat, c_realm, c_book, c_law, c_kin, c_shi, c_roa, c_ord, c_han, c_wei, c_bag, c_pri, c_cnt, c_led, c_yea, c_log, c_rdr, c_msc, c_img⟩ := I
  obtain ⟨⟨hnt, hno⟩, _⟩ := c_realm
  obtain ⟨c1, c2, c3, c4, c5, c6, c7⟩ := c
  have f : ∀ j, inL CPD 0 j = true → gI h2 (b + d) j = gI hh (b + r) j := fun j hj => c5 0 j (by decide) hj
  have a : ∀ i n j, i < 10 → (i, 0, n) ∈ CPD → j < n → gI h2 (b + (d + i)) j = gI hh (b + (r + i)) j := fun i n j hi hm hj => c5 i j hi (inL_in hm (by omega) hj)
  obtain ⟨F1, F9, F0, F15, F16, F17, F18, F19, F14, F7, F8, RT, RO⟩ := rl
  refine ⟨(f 1 (by decide)).trans F1, (f 9 (by decide)).trans F9, (f 0 (by decide)).trans F0, (f 15 (by decide)).trans F15, (f 16 (by decide)).trans F16, (f 17 (by decide)).trans F17, (f 18 (by decide)).trans F18, (f 19 (by decide)).trans F19, (f 14 (by decide)).trans F14, (f 7 (by decide)).trans F7, (f 8 (by decide)).trans F8, fun k hk => ?_, fun o ho => ?_⟩
  · rw [a 1 12 k (by decide) (by decide) (by omega), a 2 12 k (by decide) (by decide) (by omega), a 3 12 k (by decide) (by decide) (by omega), a 4 12 k (by decide) (by decide) (by omega), a 5 12 k (by decide) (by decide) (by omega)]
    exact RT k hk
  · rw [a 6 6 o (by decide) (by decide) (by omega), a 7 6 o (by decide) (by decide) (by omega), a 8 6 o (by decide) (by decide) (by omega), a 9 6 o (by decide) (by decide) (by omega)]
    exact RO o ho
