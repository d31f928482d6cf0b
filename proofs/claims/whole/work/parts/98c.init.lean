/-! ===== how it begins ===== -/
/-- the cells from b on are those of a heap that begins at 0; those below are as they were -/
def Tr (b : Nat) (h0 h H : PH) : Prop := gN h = b + gN H ∧ gX h = gX h0 ∧ (∀ o, o < gN H → gK h (b + o) = gK H o ∧ ∀ k, gR h (b + o) k = (gR H o k).map (fun x => b + x) ∧ gI h (b + o) k = gI H o k) ∧ (∀ a, a < b → gK h a = gK h0 a ∧ ∀ k, gR h a k = gR h0 a k ∧ gI h a k = gI h0 a k) ∧ (∀ o k v, o < gN H → gR H o k = some v → v < gN H) ∧ ∀ a, b + gN H ≤ a → gK h a = (9, 0)
theorem ob_get {α β : Type} {x : Option α} {f : α → Option β} {r : β} (h : x.bind f = some r) : ∃ a, x = some a ∧ f a = some r := by
  cases x with
  | none => cases h
  | some a => exact ⟨a, rfl, h⟩
section TR
variable {b : Nat} {h0 h H H1 : PH}
theorem Tr.n (t : Tr b h0 h H) : gN h = b + gN H := t.1
theorem Tr.sI' (t : Tr b h0 h H) {a k : Nat} {v : Int32} : Tr b h0 (sI h (b + a) k v) (sI H a k v) := by
  obtain ⟨t1, t2, t3, t4, t5, t6⟩ := t
  refine ⟨t1, t2, fun o ho => ?_, fun c hc => ?_, t5, t6⟩
  · obtain ⟨q1, q2⟩ := t3 o ho
    refine ⟨q1, fun j => ⟨(q2 j).1, ?_⟩⟩
    rw [gI_sI, gI_sI]
    by_cases z : o = a ∧ j = k
    · rw [if_pos ⟨by omega, z.2⟩, if_pos z]
    · rw [if_neg (fun y => z ⟨by omega, y.2⟩), if_neg z]; exact (q2 j).2
  · obtain ⟨q1, q2⟩ := t4 c hc
    refine ⟨q1, fun j => ⟨(q2 j).1, ?_⟩⟩
    rw [gI_n1 (by omega)]; exact (q2 j).2
theorem Tr.sR' (t : Tr b h0 h H) {a k : Nat} {v : Option Nat} (hv : ∀ x, v = some x → x < gN H) : Tr b h0 (sR h (b + a) k (v.map (fun x => b + x))) (sR H a k v) := by
  obtain ⟨t1, t2, t3, t4, t5, t6⟩ := t
  refine ⟨t1, t2, fun o ho => ?_, fun c hc => ?_, fun o j x ho hx => ?_, t6⟩
  · obtain ⟨q1, q2⟩ := t3 o ho
    refine ⟨q1, fun j => ⟨?_, (q2 j).2⟩⟩
    rw [gR_sR, gR_sR]
    by_cases z : o = a ∧ j = k
    · rw [if_pos ⟨by omega, z.2⟩, if_pos z]
    · rw [if_neg (fun y => z ⟨by omega, y.2⟩), if_neg z]; exact (q2 j).1
  · obtain ⟨q1, q2⟩ := t4 c hc
    refine ⟨q1, fun j => ⟨?_, (q2 j).2⟩⟩
    rw [gR_sR, if_neg (fun y => absurd y.1 (by omega))]; exact (q2 j).1
  · rw [gR_sR] at hx
    split at hx
    · exact hv x hx
    · exact t5 o j x ho hx
theorem Tr.nw' (t : Tr b h0 h H) {kd : Nat × Nat} : Tr b h0 (nw h kd) (nw H kd) := by
  obtain ⟨t1, t2, t3, t4, t5, t6⟩ := t
  have n1 : gN (nw h kd) = gN h + 1 := rfl
  have n2 : gN (nw H kd) = gN H + 1 := rfl
  refine ⟨by rw [n1, n2]; omega, t2, fun o ho => ?_, fun c hc => ?_, fun o j x ho hx => ?_, fun c hc => ?_⟩
  · rw [n2] at ho
    by_cases z : o = gN H
    · have z1 : b + o = gN h := by omega
      refine ⟨?_, fun j => ⟨?_, ?_⟩⟩
      · show (if b + o = gN h then kd else gK h (b + o)) = if o = gN H then kd else gK H o
        rw [if_pos z1, if_pos z]
      · show (if b + o = gN h then none else gR h (b + o) j) = Option.map _ (if o = gN H then none else gR H o j)
        rw [if_pos z1, if_pos z]; rfl
      · show (if b + o = gN h then 0 else gI h (b + o) j) = if o = gN H then 0 else gI H o j
        rw [if_pos z1, if_pos z]
    · have z1 : ¬ b + o = gN h := by omega
      obtain ⟨q1, q2⟩ := t3 o (by omega)
      refine ⟨?_, fun j => ⟨?_, ?_⟩⟩
      · show (if b + o = gN h then kd else gK h (b + o)) = if o = gN H then kd else gK H o
        rw [if_neg z1, if_neg z]; exact q1
      · show (if b + o = gN h then none else gR h (b + o) j) = Option.map _ (if o = gN H then none else gR H o j)
        rw [if_neg z1, if_neg z]; exact (q2 j).1
      · show (if b + o = gN h then 0 else gI h (b + o) j) = if o = gN H then 0 else gI H o j
        rw [if_neg z1, if_neg z]; exact (q2 j).2
  · have z1 : ¬ c = gN h := by omega
    obtain ⟨q1, q2⟩ := t4 c hc
    refine ⟨?_, fun j => ⟨?_, ?_⟩⟩
    · show (if c = gN h then kd else gK h c) = gK h0 c
      rw [if_neg z1]; exact q1
    · show (if c = gN h then none else gR h c j) = gR h0 c j
      rw [if_neg z1]; exact (q2 j).1
    · show (if c = gN h then 0 else gI h c j) = gI h0 c j
      rw [if_neg z1]; exact (q2 j).2
  · have hx : (if o = gN H then none else gR H o j) = some x := hx
    rw [n2] at ho ⊢
    split at hx
    · cases hx
    · have := t5 o j x (by omega) hx; omega
  · rw [n2] at hc
    show (if c = gN h then kd else gK h c) = (9, 0)
    rw [if_neg (by omega)]; exact t6 c (by omega)
theorem Tr.I (t : Tr b h0 h H) {ci a k : Nat} {v : Int32} (ha : a < gN H) (e : stI H ci a k v = some H1) : ∃ h1, stI h ci (b + a) k v = some h1 ∧ Tr b h0 h1 H1 ∧ gN H ≤ gN H1 := by
  unfold stI at e ⊢
  by_cases q : gK H a = (0, ci)
  · rw [if_pos q] at e
    cases e
    exact ⟨_, by rw [(t.2.2.1 a ha).1, if_pos q], t.sI', Nat.le_refl _⟩
  · rw [if_neg q] at e; cases e
theorem Tr.R (t : Tr b h0 h H) {ci a k : Nat} {v : Option Nat} (ha : a < gN H) (hv : ∀ x, v = some x → x < gN H) (e : stR H ci a k v = some H1) : ∃ h1, stR h ci (b + a) k (v.map (fun x => b + x)) = some h1 ∧ Tr b h0 h1 H1 ∧ gN H ≤ gN H1 := by
  unfold stR at e ⊢
  by_cases q : gK H a = (0, ci)
  · rw [if_pos q] at e
    cases e
    exact ⟨_, by rw [(t.2.2.1 a ha).1, if_pos q], t.sR' hv, Nat.le_refl _⟩
  · rw [if_neg q] at e; cases e
theorem Tr.A (t : Tr b h0 h H) {x : Int32} {lim : Nat} (e : nwA H x lim = some H1) : ∃ h1, nwA h x lim = some h1 ∧ Tr b h0 h1 H1 ∧ gN H < gN H1 := by
  unfold nwA at e ⊢
  by_cases q : x = nI x.toNatClampNeg ∧ x.toNatClampNeg ≤ lim ∧ lim < 65536
  · rw [if_pos q] at e ⊢
    cases e
    exact ⟨_, rfl, t.nw', Nat.lt_succ_self _⟩
  · rw [if_neg q] at e; cases e
theorem Tr.Q (t : Tr b h0 h H) {x : Int32} {lim : Nat} (e : nwQ H x lim = some H1) : ∃ h1, nwQ h x lim = some h1 ∧ Tr b h0 h1 H1 ∧ gN H < gN H1 := by
  unfold nwQ at e ⊢
  by_cases q : x = nI x.toNatClampNeg ∧ x.toNatClampNeg ≤ lim ∧ lim < 65536
  · rw [if_pos q] at e ⊢
    cases e
    exact ⟨_, rfl, t.nw', Nat.lt_succ_self _⟩
  · rw [if_neg q] at e; cases e
theorem Tr.W (t : Tr b h0 h H) {a : Nat} {i v : Int32} (ha : a < gN H) (e : wrA H a i v = some H1) : ∃ h1, wrA h (b + a) i v = some h1 ∧ Tr b h0 h1 H1 ∧ gN H ≤ gN H1 := by
  unfold wrA isA at e ⊢
  rw [(t.2.2.1 a ha).1]
  split at e
  · next q =>
    cases e
    rw [if_pos q]
    exact ⟨_, rfl, t.sI', Nat.le_refl _⟩
  · cases e
theorem Tr.WQ (t : Tr b h0 h H) {a c : Nat} {i : Int32} (ha : a < gN H) (hc : c < gN H) (e : wrQ H a i c = some H1) : ∃ h1, wrQ h (b + a) i (b + c) = some h1 ∧ Tr b h0 h1 H1 ∧ gN H ≤ gN H1 := by
  unfold wrQ isQ at e ⊢
  rw [(t.2.2.1 a ha).1, (t.2.2.1 c hc).1]
  split at e
  · next q =>
    cases e
    rw [if_pos q]
    exact ⟨_, rfl, t.sR' (v := some c) (fun x hx => by cases hx; exact hc), Nat.le_refl _⟩
  · cases e
theorem Tr.L (t : Tr b h0 h H) {ci a k v : Nat} (ha : a < gN H) (e : ldR H ci a k = some v) : ldR h ci (b + a) k = some (b + v) := by
  unfold ldR at e ⊢
  rw [(t.2.2.1 a ha).1]
  split at e
  · next q =>
    rw [if_pos q, ((t.2.2.1 a ha).2 k).1, e]; rfl
  · cases e
end TR
theorem tr_Realm_init {b : Nat} {h0 h H H' : PH} {a : Nat} (t : Tr b h0 h H) (ha : a < gN H) (e : f_Realm_init a H = some H') : ∃ h', f_Realm_init (b + a) h = some h' ∧ Tr b h0 h' H' ∧ gN H ≤ gN H' := by
  unfold f_Realm_init at e ⊢
  obtain ⟨H1, e1, e⟩ := ob_get e
  obtain ⟨h1, d1, t1, n1⟩ := t.I (by omega) e1
  rw [d1, bind_some']
  have A1 : a < gN H1 := by omega
  have L1 : gN H ≤ gN H1 := by omega
  obtain ⟨H2, e2, e⟩ := ob_get e
  obtain ⟨h2, d2, t2, n2⟩ := t1.I (by omega) e2
  rw [d2, bind_some']
  have A2 : a < gN H2 := by omega
  have L2 : gN H ≤ gN H2 := by omega
  clear A1 L1
  obtain ⟨H3, e3, e⟩ := ob_get e
  obtain ⟨h3, d3, t3, n3⟩ := t2.A e3
  rw [d3, bind_some']
  have A3 : a < gN H3 := by omega
  have L3 : gN H ≤ gN H3 := by omega
  clear A2 L2
  obtain ⟨H4, e4, e⟩ := ob_get e
  obtain ⟨h4, d4, t4, n4⟩ := t3.R (by omega) (fun x hx => by cases hx; omega) e4
  have c4 : stR h3 5 (b + a) 2 (some (b + gN H2)) = some h4 := d4
  have d4 : stR h3 5 (b + a) 2 (some (gN h2)) = some h4 := by rw [t2.n]; exact d4
  first | rw [d4, bind_some'] | rw [c4, bind_some']
  have A4 : a < gN H4 := by omega
  have L4 : gN H ≤ gN H4 := by omega
  clear A3 L3 n1
  obtain ⟨H5, e5, e⟩ := ob_get e
  obtain ⟨h5, d5, t5, n5⟩ := t4.A e5
  rw [d5, bind_some']
  have A5 : a < gN H5 := by omega
  have L5 : gN H ≤ gN H5 := by omega
  clear A4 L4 n2
  obtain ⟨H6, e6, e⟩ := ob_get e
  obtain ⟨h6, d6, t6, n6⟩ := t5.R (by omega) (fun x hx => by cases hx; omega) e6
  have c6 : stR h5 5 (b + a) 3 (some (b + gN H4)) = some h6 := d6
  have d6 : stR h5 5 (b + a) 3 (some (gN h4)) = some h6 := by rw [t4.n]; exact d6
  first | rw [d6, bind_some'] | rw [c6, bind_some']
  have A6 : a < gN H6 := by omega
  have L6 : gN H ≤ gN H6 := by omega
  clear A5 L5 n3
  obtain ⟨H7, e7, e⟩ := ob_get e
  obtain ⟨h7, d7, t7, n7⟩ := t6.A e7
  rw [d7, bind_some']
  have A7 : a < gN H7 := by omega
  have L7 : gN H ≤ gN H7 := by omega
  clear A6 L6 n4
  obtain ⟨H8, e8, e⟩ := ob_get e
  obtain ⟨h8, d8, t8, n8⟩ := t7.R (by omega) (fun x hx => by cases hx; omega) e8
  have c8 : stR h7 5 (b + a) 4 (some (b + gN H6)) = some h8 := d8
  have d8 : stR h7 5 (b + a) 4 (some (gN h6)) = some h8 := by rw [t6.n]; exact d8
  first | rw [d8, bind_some'] | rw [c8, bind_some']
  have A8 : a < gN H8 := by omega
  have L8 : gN H ≤ gN H8 := by omega
  clear A7 L7 n5
  obtain ⟨H9, e9, e⟩ := ob_get e
  obtain ⟨h9, d9, t9, n9⟩ := t8.A e9
  rw [d9, bind_some']
  have A9 : a < gN H9 := by omega
  have L9 : gN H ≤ gN H9 := by omega
  clear A8 L8 n6
  obtain ⟨H10, e10, e⟩ := ob_get e
  obtain ⟨h10, d10, t10, n10⟩ := t9.R (by omega) (fun x hx => by cases hx; omega) e10
  have c10 : stR h9 5 (b + a) 5 (some (b + gN H8)) = some h10 := d10
  have d10 : stR h9 5 (b + a) 5 (some (gN h8)) = some h10 := by rw [t8.n]; exact d10
  first | rw [d10, bind_some'] | rw [c10, bind_some']
  have A10 : a < gN H10 := by omega
  have L10 : gN H ≤ gN H10 := by omega
  clear A9 L9 n7
  obtain ⟨H11, e11, e⟩ := ob_get e
  obtain ⟨h11, d11, t11, n11⟩ := t10.A e11
  rw [d11, bind_some']
  have A11 : a < gN H11 := by omega
  have L11 : gN H ≤ gN H11 := by omega
  clear A10 L10 n8
  obtain ⟨H12, e12, e⟩ := ob_get e
  obtain ⟨h12, d12, t12, n12⟩ := t11.R (by omega) (fun x hx => by cases hx; omega) e12
  have c12 : stR h11 5 (b + a) 6 (some (b + gN H10)) = some h12 := d12
  have d12 : stR h11 5 (b + a) 6 (some (gN h10)) = some h12 := by rw [t10.n]; exact d12
  first | rw [d12, bind_some'] | rw [c12, bind_some']
  have A12 : a < gN H12 := by omega
  have L12 : gN H ≤ gN H12 := by omega
  clear A11 L11 n9
  obtain ⟨H13, e13, e⟩ := ob_get e
  obtain ⟨h13, d13, t13, n13⟩ := t12.I (by omega) e13
  rw [d13, bind_some']
  have A13 : a < gN H13 := by omega
  have L13 : gN H ≤ gN H13 := by omega
  clear A12 L12 n10
  obtain ⟨H14, e14, e⟩ := ob_get e
  obtain ⟨h14, d14, t14, n14⟩ := t13.I (by omega) e14
  rw [d14, bind_some']
  have A14 : a < gN H14 := by omega
  have L14 : gN H ≤ gN H14 := by omega
  clear A13 L13 n11
  obtain ⟨H15, e15, e⟩ := ob_get e
  obtain ⟨h15, d15, t15, n15⟩ := t14.I (by omega) e15
  rw [d15, bind_some']
  have A15 : a < gN H15 := by omega
  have L15 : gN H ≤ gN H15 := by omega
  clear A14 L14 n12
  obtain ⟨H16, e16, e⟩ := ob_get e
  obtain ⟨h16, d16, t16, n16⟩ := t15.A e16
  rw [d16, bind_some']
  have A16 : a < gN H16 := by omega
  have L16 : gN H ≤ gN H16 := by omega
  clear A15 L15 n13
  obtain ⟨H17, e17, e⟩ := ob_get e
  obtain ⟨h17, d17, t17, n17⟩ := t16.R (by omega) (fun x hx => by cases hx; omega) e17
  have c17 : stR h16 5 (b + a) 10 (some (b + gN H15)) = some h17 := d17
  have d17 : stR h16 5 (b + a) 10 (some (gN h15)) = some h17 := by rw [t15.n]; exact d17
  first | rw [d17, bind_some'] | rw [c17, bind_some']
  have A17 : a < gN H17 := by omega
  have L17 : gN H ≤ gN H17 := by omega
  clear A16 L16 n14
  obtain ⟨H18, e18, e⟩ := ob_get e
  obtain ⟨h18, d18, t18, n18⟩ := t17.A e18
  rw [d18, bind_some']
  have A18 : a < gN H18 := by omega
  have L18 : gN H ≤ gN H18 := by omega
  clear A17 L17 n15
  obtain ⟨H19, e19, e⟩ := ob_get e
  obtain ⟨h19, d19, t19, n19⟩ := t18.R (by omega) (fun x hx => by cases hx; omega) e19
  have c19 : stR h18 5 (b + a) 11 (some (b + gN H17)) = some h19 := d19
  have d19 : stR h18 5 (b + a) 11 (some (gN h17)) = some h19 := by rw [t17.n]; exact d19
  first | rw [d19, bind_some'] | rw [c19, bind_some']
  have A19 : a < gN H19 := by omega
  have L19 : gN H ≤ gN H19 := by omega
  clear A18 L18 n16
  obtain ⟨H20, e20, e⟩ := ob_get e
  obtain ⟨h20, d20, t20, n20⟩ := t19.A e20
  rw [d20, bind_some']
  have A20 : a < gN H20 := by omega
  have L20 : gN H ≤ gN H20 := by omega
  clear A19 L19 n17
  obtain ⟨H21, e21, e⟩ := ob_get e
  obtain ⟨h21, d21, t21, n21⟩ := t20.R (by omega) (fun x hx => by cases hx; omega) e21
  have c21 : stR h20 5 (b + a) 12 (some (b + gN H19)) = some h21 := d21
  have d21 : stR h20 5 (b + a) 12 (some (gN h19)) = some h21 := by rw [t19.n]; exact d21
  first | rw [d21, bind_some'] | rw [c21, bind_some']
  have A21 : a < gN H21 := by omega
  have L21 : gN H ≤ gN H21 := by omega
  clear A20 L20 n18
  obtain ⟨H22, e22, e⟩ := ob_get e
  obtain ⟨h22, d22, t22, n22⟩ := t21.A e22
  rw [d22, bind_some']
  have A22 : a < gN H22 := by omega
  have L22 : gN H ≤ gN H22 := by omega
  clear A21 L21 n19
  obtain ⟨H23, e23, e⟩ := ob_get e
  obtain ⟨h23, d23, t23, n23⟩ := t22.R (by omega) (fun x hx => by cases hx; omega) e23
  have c23 : stR h22 5 (b + a) 13 (some (b + gN H21)) = some h23 := d23
  have d23 : stR h22 5 (b + a) 13 (some (gN h21)) = some h23 := by rw [t21.n]; exact d23
  first | rw [d23, bind_some'] | rw [c23, bind_some']
  have A23 : a < gN H23 := by omega
  have L23 : gN H ≤ gN H23 := by omega
  clear A22 L22 n20
  obtain ⟨H24, e24, e⟩ := ob_get e
  obtain ⟨h24, d24, t24, n24⟩ := t23.I (by omega) e24
  rw [d24, bind_some']
  have A24 : a < gN H24 := by omega
  have L24 : gN H ≤ gN H24 := by omega
  clear A23 L23 n21
  obtain ⟨H25, e25, e⟩ := ob_get e
  obtain ⟨h25, d25, t25, n25⟩ := t24.I (by omega) e25
  rw [d25, bind_some']
  have A25 : a < gN H25 := by omega
  have L25 : gN H ≤ gN H25 := by omega
  clear A24 L24 n22
  obtain ⟨H26, e26, e⟩ := ob_get e
  obtain ⟨h26, d26, t26, n26⟩ := t25.I (by omega) e26
  rw [d26, bind_some']
  have A26 : a < gN H26 := by omega
  have L26 : gN H ≤ gN H26 := by omega
  clear A25 L25 n23
  obtain ⟨H27, e27, e⟩ := ob_get e
  obtain ⟨h27, d27, t27, n27⟩ := t26.I (by omega) e27
  rw [d27, bind_some']
  have A27 : a < gN H27 := by omega
  have L27 : gN H ≤ gN H27 := by omega
  clear A26 L26 n24
  obtain ⟨H28, e28, e⟩ := ob_get e
  obtain ⟨h28, d28, t28, n28⟩ := t27.I (by omega) e28
  rw [d28, bind_some']
  have A28 : a < gN H28 := by omega
  have L28 : gN H ≤ gN H28 := by omega
  clear A27 L27 n25
  obtain ⟨H29, e29, e⟩ := ob_get e
  obtain ⟨h29, d29, t29, n29⟩ := t28.I (by omega) e29
  rw [d29, bind_some']
  have A29 : a < gN H29 := by omega
  have L29 : gN H ≤ gN H29 := by omega
  clear A28 L28 n26
  cases e
  exact ⟨_, rfl, t29, L29⟩
theorem tr_Row_init_30 {b : Nat} {h0 h H H' : PH} {a : Nat} {x : Int32} (t : Tr b h0 h H) (ha : a < gN H) (e : f_Row_init_30 x a H = some H') : ∃ h', f_Row_init_30 x (b + a) h = some h' ∧ Tr b h0 h' H' ∧ gN H ≤ gN H' := by
  unfold f_Row_init_30 at e ⊢
  obtain ⟨H1, e1, e⟩ := ob_get e
  obtain ⟨h1, d1, t1, n1⟩ := t.A e1
  rw [d1, bind_some']
  obtain ⟨H2, e2, e⟩ := ob_get e
  obtain ⟨h2, d2, t2, n2⟩ := t1.R (by omega) (fun x hx => by cases hx; omega) e2
  have d2 : stR h1 6 (b + a) 1 (some (gN h)) = some h2 := by rw [t.n]; exact d2
  rw [d2, bind_some']
  cases e
  exact ⟨_, rfl, t2, by omega⟩
theorem tr_Row_init {b : Nat} {h0 h H H' : PH} {a : Nat} {x1 x2 : Int32} (t : Tr b h0 h H) (ha : a < gN H) (e : f_Row_init a x1 x2 H = some H') : ∃ h', f_Row_init (b + a) x1 x2 h = some h' ∧ Tr b h0 h' H' ∧ gN H ≤ gN H' := by
  unfold f_Row_init f_Row_init_29 at e ⊢
  obtain ⟨H1, e1, e⟩ := ob_get e
  obtain ⟨h1, d1, t1, n1⟩ := t.I ha e1
  rw [d1, bind_some']
  obtain ⟨H2, e2, e⟩ := ob_get e
  obtain ⟨h2, d2, t2, n2⟩ := t1.I (by omega) e2
  rw [d2, bind_some']
  by_cases q : x1 ≤ 0
  · rw [if_pos q] at e ⊢
    obtain ⟨h3, d3, t3, n3⟩ := tr_Row_init_30 t2 (by omega) e
    exact ⟨h3, d3, t3, by omega⟩
  · rw [if_neg q] at e ⊢
    by_cases q2 : x2 ≤ 0
    · rw [if_pos q2] at e ⊢
      obtain ⟨h3, d3, t3, n3⟩ := tr_Row_init_30 t2 (by omega) e
      exact ⟨h3, d3, t3, by omega⟩
    · rw [if_neg q2] at e ⊢
      obtain ⟨h3, d3, t3, n3⟩ := tr_Row_init_30 t2 (by omega) e
      exact ⟨h3, d3, t3, by omega⟩
theorem tr_Law_init {b : Nat} {h0 h H H' : PH} {a : Nat} (t : Tr b h0 h H) (ha : a < gN H) (e : f_Law_init a H = some H') : ∃ h', f_Law_init (b + a) h = some h' ∧ Tr b h0 h' H' ∧ gN H ≤ gN H' := by
  unfold f_Law_init at e ⊢
  obtain ⟨H1, e1, e⟩ := ob_get e
  cases e1
  have t1 := t.nw' (kd := (0, 6))
  have n1 : gN (nw H (0, 6)) = gN H + 1 := rfl
  rw [bind_some']
  have A1 : a < gN (nw H (0, 6)) := by omega
  have L1 : gN H ≤ gN (nw H (0, 6)) := by omega
  obtain ⟨H2, e2, e⟩ := ob_get e
  obtain ⟨h2, d2, t2, n2⟩ := tr_Row_init t1 (by omega) e2
  rw [t.n, d2, bind_some']
  have A2 : a < gN H2 := by omega
  have L2 : gN H ≤ gN H2 := by omega
  clear A1 L1
  obtain ⟨H3, e3, e⟩ := ob_get e
  obtain ⟨h3, d3, t3, n3⟩ := t2.R (by omega) (fun x hx => by cases hx; omega) e3
  have c3 : stR h2 2 (b + a) 0 (some (b + gN H)) = some h3 := d3
  have d3 : stR h2 2 (b + a) 0 (some (gN h)) = some h3 := by rw [t.n]; exact d3
  first | rw [d3, bind_some'] | rw [c3, bind_some']
  have A3 : a < gN H3 := by omega
  have L3 : gN H ≤ gN H3 := by omega
  clear A2 L2
  obtain ⟨H4, e4, e⟩ := ob_get e
  obtain ⟨h4, d4, t4, n4⟩ := t3.A e4
  rw [d4, bind_some']
  have A4 : a < gN H4 := by omega
  have L4 : gN H ≤ gN H4 := by omega
  clear A3 L3 n1
  obtain ⟨H5, e5, e⟩ := ob_get e
  obtain ⟨h5, d5, t5, n5⟩ := t4.R (by omega) (fun x hx => by cases hx; omega) e5
  have c5 : stR h4 2 (b + a) 1 (some (b + gN H3)) = some h5 := d5
  have d5 : stR h4 2 (b + a) 1 (some (gN h3)) = some h5 := by rw [t3.n]; exact d5
  first | rw [d5, bind_some'] | rw [c5, bind_some']
  have A5 : a < gN H5 := by omega
  have L5 : gN H ≤ gN H5 := by omega
  clear A4 L4 n2
  obtain ⟨H6, e6, e⟩ := ob_get e
  obtain ⟨h6, d6, t6, n6⟩ := t5.I (by omega) e6
  rw [d6, bind_some']
  have A6 : a < gN H6 := by omega
  have L6 : gN H ≤ gN H6 := by omega
  clear A5 L5 n3
  obtain ⟨H7, e7, e⟩ := ob_get e
  obtain ⟨h7, d7, t7, n7⟩ := t6.A e7
  rw [d7, bind_some']
  have A7 : a < gN H7 := by omega
  have L7 : gN H ≤ gN H7 := by omega
  clear A6 L6 n4
  obtain ⟨H8, e8, e⟩ := ob_get e
  obtain ⟨h8, d8, t8, n8⟩ := t7.R (by omega) (fun x hx => by cases hx; omega) e8
  have c8 : stR h7 2 (b + a) 3 (some (b + gN H6)) = some h8 := d8
  have d8 : stR h7 2 (b + a) 3 (some (gN h6)) = some h8 := by rw [t6.n]; exact d8
  first | rw [d8, bind_some'] | rw [c8, bind_some']
  have A8 : a < gN H8 := by omega
  have L8 : gN H ≤ gN H8 := by omega
  clear A7 L7 n5
  obtain ⟨H9, e9, e⟩ := ob_get e
  obtain ⟨h9, d9, t9, n9⟩ := t8.A e9
  rw [d9, bind_some']
  have A9 : a < gN H9 := by omega
  have L9 : gN H ≤ gN H9 := by omega
  clear A8 L8 n6
  obtain ⟨H10, e10, e⟩ := ob_get e
  obtain ⟨h10, d10, t10, n10⟩ := t9.R (by omega) (fun x hx => by cases hx; omega) e10
  have c10 : stR h9 2 (b + a) 4 (some (b + gN H8)) = some h10 := d10
  have d10 : stR h9 2 (b + a) 4 (some (gN h8)) = some h10 := by rw [t8.n]; exact d10
  first | rw [d10, bind_some'] | rw [c10, bind_some']
  have A10 : a < gN H10 := by omega
  have L10 : gN H ≤ gN H10 := by omega
  clear A9 L9 n7
  cases e
  exact ⟨_, rfl, t10, L10⟩
theorem tr_Told_init {b : Nat} {h0 h H H' : PH} {a : Nat} (t : Tr b h0 h H) (ha : a < gN H) (e : f_Told_init a H = some H') : ∃ h', f_Told_init (b + a) h = some h' ∧ Tr b h0 h' H' ∧ gN H ≤ gN H' := by
  unfold f_Told_init at e ⊢
  obtain ⟨H1, e1, e⟩ := ob_get e
  cases e1
  have t1 := t.nw' (kd := (0, 6))
  have n1 : gN (nw H (0, 6)) = gN H + 1 := rfl
  rw [bind_some']
  have A1 : a < gN (nw H (0, 6)) := by omega
  have L1 : gN H ≤ gN (nw H (0, 6)) := by omega
  obtain ⟨H2, e2, e⟩ := ob_get e
  obtain ⟨h2, d2, t2, n2⟩ := tr_Row_init t1 (by omega) e2
  rw [t.n, d2, bind_some']
  have A2 : a < gN H2 := by omega
  have L2 : gN H ≤ gN H2 := by omega
  clear A1 L1
  obtain ⟨H3, e3, e⟩ := ob_get e
  obtain ⟨h3, d3, t3, n3⟩ := t2.R (by omega) (fun x hx => by cases hx; omega) e3
  have c3 : stR h2 7 (b + a) 0 (some (b + gN H)) = some h3 := d3
  have d3 : stR h2 7 (b + a) 0 (some (gN h)) = some h3 := by rw [t.n]; exact d3
  first | rw [d3, bind_some'] | rw [c3, bind_some']
  have A3 : a < gN H3 := by omega
  have L3 : gN H ≤ gN H3 := by omega
  clear A2 L2
  obtain ⟨H4, e4, e⟩ := ob_get e
  cases e4
  have t4 := t3.nw' (kd := (0, 6))
  have n4 : gN (nw H3 (0, 6)) = gN H3 + 1 := rfl
  rw [bind_some']
  have A4 : a < gN (nw H3 (0, 6)) := by omega
  have L4 : gN H ≤ gN (nw H3 (0, 6)) := by omega
  clear A3 L3 n1
  obtain ⟨H5, e5, e⟩ := ob_get e
  obtain ⟨h5, d5, t5, n5⟩ := tr_Row_init t4 (by omega) e5
  rw [t3.n, d5, bind_some']
  have A5 : a < gN H5 := by omega
  have L5 : gN H ≤ gN H5 := by omega
  clear A4 L4 n2
  obtain ⟨H6, e6, e⟩ := ob_get e
  obtain ⟨h6, d6, t6, n6⟩ := t5.R (by omega) (fun x hx => by cases hx; omega) e6
  have c6 : stR h5 7 (b + a) 1 (some (b + gN H3)) = some h6 := d6
  have d6 : stR h5 7 (b + a) 1 (some (gN h3)) = some h6 := by rw [t3.n]; exact d6
  first | rw [d6, bind_some'] | rw [c6, bind_some']
  have A6 : a < gN H6 := by omega
  have L6 : gN H ≤ gN H6 := by omega
  clear A5 L5 n3
  obtain ⟨H7, e7, e⟩ := ob_get e
  cases e7
  have t7 := t6.nw' (kd := (0, 6))
  have n7 : gN (nw H6 (0, 6)) = gN H6 + 1 := rfl
  rw [bind_some']
  have A7 : a < gN (nw H6 (0, 6)) := by omega
  have L7 : gN H ≤ gN (nw H6 (0, 6)) := by omega
  clear A6 L6 n4
  obtain ⟨H8, e8, e⟩ := ob_get e
  obtain ⟨h8, d8, t8, n8⟩ := tr_Row_init t7 (by omega) e8
  rw [t6.n, d8, bind_some']
  have A8 : a < gN H8 := by omega
  have L8 : gN H ≤ gN H8 := by omega
  clear A7 L7 n5
  obtain ⟨H9, e9, e⟩ := ob_get e
  obtain ⟨h9, d9, t9, n9⟩ := t8.R (by omega) (fun x hx => by cases hx; omega) e9
  have c9 : stR h8 7 (b + a) 2 (some (b + gN H6)) = some h9 := d9
  have d9 : stR h8 7 (b + a) 2 (some (gN h6)) = some h9 := by rw [t6.n]; exact d9
  first | rw [d9, bind_some'] | rw [c9, bind_some']
  have A9 : a < gN H9 := by omega
  have L9 : gN H ≤ gN H9 := by omega
  clear A8 L8 n6
  obtain ⟨H10, e10, e⟩ := ob_get e
  cases e10
  have t10 := t9.nw' (kd := (0, 6))
  have n10 : gN (nw H9 (0, 6)) = gN H9 + 1 := rfl
  rw [bind_some']
  have A10 : a < gN (nw H9 (0, 6)) := by omega
  have L10 : gN H ≤ gN (nw H9 (0, 6)) := by omega
  clear A9 L9 n7
  obtain ⟨H11, e11, e⟩ := ob_get e
  obtain ⟨h11, d11, t11, n11⟩ := tr_Row_init t10 (by omega) e11
  rw [t9.n, d11, bind_some']
  have A11 : a < gN H11 := by omega
  have L11 : gN H ≤ gN H11 := by omega
  clear A10 L10 n8
  obtain ⟨H12, e12, e⟩ := ob_get e
  obtain ⟨h12, d12, t12, n12⟩ := t11.R (by omega) (fun x hx => by cases hx; omega) e12
  have c12 : stR h11 7 (b + a) 3 (some (b + gN H9)) = some h12 := d12
  have d12 : stR h11 7 (b + a) 3 (some (gN h9)) = some h12 := by rw [t9.n]; exact d12
  first | rw [d12, bind_some'] | rw [c12, bind_some']
  have A12 : a < gN H12 := by omega
  have L12 : gN H ≤ gN H12 := by omega
  clear A11 L11 n9
  obtain ⟨H13, e13, e⟩ := ob_get e
  cases e13
  have t13 := t12.nw' (kd := (0, 6))
  have n13 : gN (nw H12 (0, 6)) = gN H12 + 1 := rfl
  rw [bind_some']
  have A13 : a < gN (nw H12 (0, 6)) := by omega
  have L13 : gN H ≤ gN (nw H12 (0, 6)) := by omega
  clear A12 L12 n10
  obtain ⟨H14, e14, e⟩ := ob_get e
  obtain ⟨h14, d14, t14, n14⟩ := tr_Row_init t13 (by omega) e14
  rw [t12.n, d14, bind_some']
  have A14 : a < gN H14 := by omega
  have L14 : gN H ≤ gN H14 := by omega
  clear A13 L13 n11
  obtain ⟨H15, e15, e⟩ := ob_get e
  obtain ⟨h15, d15, t15, n15⟩ := t14.R (by omega) (fun x hx => by cases hx; omega) e15
  have c15 : stR h14 7 (b + a) 4 (some (b + gN H12)) = some h15 := d15
  have d15 : stR h14 7 (b + a) 4 (some (gN h12)) = some h15 := by rw [t12.n]; exact d15
  first | rw [d15, bind_some'] | rw [c15, bind_some']
  have A15 : a < gN H15 := by omega
  have L15 : gN H ≤ gN H15 := by omega
  clear A14 L14 n12
  obtain ⟨H16, e16, e⟩ := ob_get e
  cases e16
  have t16 := t15.nw' (kd := (0, 6))
  have n16 : gN (nw H15 (0, 6)) = gN H15 + 1 := rfl
  rw [bind_some']
  have A16 : a < gN (nw H15 (0, 6)) := by omega
  have L16 : gN H ≤ gN (nw H15 (0, 6)) := by omega
  clear A15 L15 n13
  obtain ⟨H17, e17, e⟩ := ob_get e
  obtain ⟨h17, d17, t17, n17⟩ := tr_Row_init t16 (by omega) e17
  rw [t15.n, d17, bind_some']
  have A17 : a < gN H17 := by omega
  have L17 : gN H ≤ gN H17 := by omega
  clear A16 L16 n14
  obtain ⟨H18, e18, e⟩ := ob_get e
  obtain ⟨h18, d18, t18, n18⟩ := t17.R (by omega) (fun x hx => by cases hx; omega) e18
  have c18 : stR h17 7 (b + a) 5 (some (b + gN H15)) = some h18 := d18
  have d18 : stR h17 7 (b + a) 5 (some (gN h15)) = some h18 := by rw [t15.n]; exact d18
  first | rw [d18, bind_some'] | rw [c18, bind_some']
  have A18 : a < gN H18 := by omega
  have L18 : gN H ≤ gN H18 := by omega
  clear A17 L17 n15
  obtain ⟨H19, e19, e⟩ := ob_get e
  obtain ⟨h19, d19, t19, n19⟩ := t18.A e19
  rw [d19, bind_some']
  have A19 : a < gN H19 := by omega
  have L19 : gN H ≤ gN H19 := by omega
  clear A18 L18 n16
  obtain ⟨H20, e20, e⟩ := ob_get e
  obtain ⟨h20, d20, t20, n20⟩ := t19.R (by omega) (fun x hx => by cases hx; omega) e20
  have c20 : stR h19 7 (b + a) 6 (some (b + gN H18)) = some h20 := d20
  have d20 : stR h19 7 (b + a) 6 (some (gN h18)) = some h20 := by rw [t18.n]; exact d20
  first | rw [d20, bind_some'] | rw [c20, bind_some']
  have A20 : a < gN H20 := by omega
  have L20 : gN H ≤ gN H20 := by omega
  clear A19 L19 n17
  obtain ⟨H21, e21, e⟩ := ob_get e
  obtain ⟨h21, d21, t21, n21⟩ := t20.A e21
  rw [d21, bind_some']
  have A21 : a < gN H21 := by omega
  have L21 : gN H ≤ gN H21 := by omega
  clear A20 L20 n18
  obtain ⟨H22, e22, e⟩ := ob_get e
  obtain ⟨h22, d22, t22, n22⟩ := t21.R (by omega) (fun x hx => by cases hx; omega) e22
  have c22 : stR h21 7 (b + a) 7 (some (b + gN H20)) = some h22 := d22
  have d22 : stR h21 7 (b + a) 7 (some (gN h20)) = some h22 := by rw [t20.n]; exact d22
  first | rw [d22, bind_some'] | rw [c22, bind_some']
  have A22 : a < gN H22 := by omega
  have L22 : gN H ≤ gN H22 := by omega
  clear A21 L21 n19
  obtain ⟨H23, e23, e⟩ := ob_get e
  obtain ⟨h23, d23, t23, n23⟩ := t22.I (by omega) e23
  rw [d23, bind_some']
  have A23 : a < gN H23 := by omega
  have L23 : gN H ≤ gN H23 := by omega
  clear A22 L22 n20
  obtain ⟨H24, e24, e⟩ := ob_get e
  obtain ⟨h24, d24, t24, n24⟩ := t23.I (by omega) e24
  rw [d24, bind_some']
  have A24 : a < gN H24 := by omega
  have L24 : gN H ≤ gN H24 := by omega
  clear A23 L23 n21
  cases e
  exact ⟨_, rfl, t24, L24⟩
theorem tr_Land_init {b : Nat} {h0 h H H' : PH} {a : Nat} (t : Tr b h0 h H) (ha : a < gN H) (e : f_Land_init a H = some H') : ∃ h', f_Land_init (b + a) h = some h' ∧ Tr b h0 h' H' ∧ gN H ≤ gN H' := by
  unfold f_Land_init at e ⊢
  obtain ⟨H1, e1, e⟩ := ob_get e
  cases e1
  have t1 := t.nw' (kd := (0, 5))
  have n1 : gN (nw H (0, 5)) = gN H + 1 := rfl
  rw [bind_some']
  have A1 : a < gN (nw H (0, 5)) := by omega
  have L1 : gN H ≤ gN (nw H (0, 5)) := by omega
  obtain ⟨H2, e2, e⟩ := ob_get e
  obtain ⟨h2, d2, t2, n2⟩ := tr_Realm_init t1 (by omega) e2
  rw [t.n, d2, bind_some']
  have A2 : a < gN H2 := by omega
  have L2 : gN H ≤ gN H2 := by omega
  clear A1 L1
  obtain ⟨H3, e3, e⟩ := ob_get e
  obtain ⟨h3, d3, t3, n3⟩ := t2.R (by omega) (fun x hx => by cases hx; omega) e3
  have c3 : stR h2 1 (b + a) 0 (some (b + gN H)) = some h3 := d3
  have d3 : stR h2 1 (b + a) 0 (some (gN h)) = some h3 := by rw [t.n]; exact d3
  first | rw [d3, bind_some'] | rw [c3, bind_some']
  have A3 : a < gN H3 := by omega
  have L3 : gN H ≤ gN H3 := by omega
  clear A2 L2
  obtain ⟨H4, e4, e⟩ := ob_get e
  obtain ⟨h4, d4, t4, n4⟩ := t3.A e4
  rw [d4, bind_some']
  have A4 : a < gN H4 := by omega
  have L4 : gN H ≤ gN H4 := by omega
  clear A3 L3 n1
  obtain ⟨H5, e5, e⟩ := ob_get e
  obtain ⟨h5, d5, t5, n5⟩ := t4.R (by omega) (fun x hx => by cases hx; omega) e5
  have c5 : stR h4 1 (b + a) 1 (some (b + gN H3)) = some h5 := d5
  have d5 : stR h4 1 (b + a) 1 (some (gN h3)) = some h5 := by rw [t3.n]; exact d5
  first | rw [d5, bind_some'] | rw [c5, bind_some']
  have A5 : a < gN H5 := by omega
  have L5 : gN H ≤ gN H5 := by omega
  clear A4 L4 n2
  obtain ⟨H6, e6, e⟩ := ob_get e
  cases e6
  have t6 := t5.nw' (kd := (0, 2))
  have n6 : gN (nw H5 (0, 2)) = gN H5 + 1 := rfl
  rw [bind_some']
  have A6 : a < gN (nw H5 (0, 2)) := by omega
  have L6 : gN H ≤ gN (nw H5 (0, 2)) := by omega
  clear A5 L5 n3
  obtain ⟨H7, e7, e⟩ := ob_get e
  obtain ⟨h7, d7, t7, n7⟩ := tr_Law_init t6 (by omega) e7
  rw [t5.n, d7, bind_some']
  have A7 : a < gN H7 := by omega
  have L7 : gN H ≤ gN H7 := by omega
  clear A6 L6 n4
  obtain ⟨H8, e8, e⟩ := ob_get e
  obtain ⟨h8, d8, t8, n8⟩ := t7.R (by omega) (fun x hx => by cases hx; omega) e8
  have c8 : stR h7 1 (b + a) 2 (some (b + gN H5)) = some h8 := d8
  have d8 : stR h7 1 (b + a) 2 (some (gN h5)) = some h8 := by rw [t5.n]; exact d8
  first | rw [d8, bind_some'] | rw [c8, bind_some']
  have A8 : a < gN H8 := by omega
  have L8 : gN H ≤ gN H8 := by omega
  clear A7 L7 n5
  obtain ⟨H9, e9, e⟩ := ob_get e
  cases e9
  have t9 := t8.nw' (kd := (0, 6))
  have n9 : gN (nw H8 (0, 6)) = gN H8 + 1 := rfl
  rw [bind_some']
  have A9 : a < gN (nw H8 (0, 6)) := by omega
  have L9 : gN H ≤ gN (nw H8 (0, 6)) := by omega
  clear A8 L8 n6
  obtain ⟨H10, e10, e⟩ := ob_get e
  obtain ⟨h10, d10, t10, n10⟩ := tr_Row_init t9 (by omega) e10
  rw [t8.n, d10, bind_some']
  have A10 : a < gN H10 := by omega
  have L10 : gN H ≤ gN H10 := by omega
  clear A9 L9 n7
  obtain ⟨H11, e11, e⟩ := ob_get e
  obtain ⟨h11, d11, t11, n11⟩ := t10.R (by omega) (fun x hx => by cases hx; omega) e11
  have c11 : stR h10 1 (b + a) 3 (some (b + gN H8)) = some h11 := d11
  have d11 : stR h10 1 (b + a) 3 (some (gN h8)) = some h11 := by rw [t8.n]; exact d11
  first | rw [d11, bind_some'] | rw [c11, bind_some']
  have A11 : a < gN H11 := by omega
  have L11 : gN H ≤ gN H11 := by omega
  clear A10 L10 n8
  obtain ⟨H12, e12, e⟩ := ob_get e
  cases e12
  have t12 := t11.nw' (kd := (0, 6))
  have n12 : gN (nw H11 (0, 6)) = gN H11 + 1 := rfl
  rw [bind_some']
  have A12 : a < gN (nw H11 (0, 6)) := by omega
  have L12 : gN H ≤ gN (nw H11 (0, 6)) := by omega
  clear A11 L11 n9
  obtain ⟨H13, e13, e⟩ := ob_get e
  obtain ⟨h13, d13, t13, n13⟩ := tr_Row_init t12 (by omega) e13
  rw [t11.n, d13, bind_some']
  have A13 : a < gN H13 := by omega
  have L13 : gN H ≤ gN H13 := by omega
  clear A12 L12 n10
  obtain ⟨H14, e14, e⟩ := ob_get e
  obtain ⟨h14, d14, t14, n14⟩ := t13.R (by omega) (fun x hx => by cases hx; omega) e14
  have c14 : stR h13 1 (b + a) 4 (some (b + gN H11)) = some h14 := d14
  have d14 : stR h13 1 (b + a) 4 (some (gN h11)) = some h14 := by rw [t11.n]; exact d14
  first | rw [d14, bind_some'] | rw [c14, bind_some']
  have A14 : a < gN H14 := by omega
  have L14 : gN H ≤ gN H14 := by omega
  clear A13 L13 n11
  obtain ⟨H15, e15, e⟩ := ob_get e
  cases e15
  have t15 := t14.nw' (kd := (0, 6))
  have n15 : gN (nw H14 (0, 6)) = gN H14 + 1 := rfl
  rw [bind_some']
  have A15 : a < gN (nw H14 (0, 6)) := by omega
  have L15 : gN H ≤ gN (nw H14 (0, 6)) := by omega
  clear A14 L14 n12
  obtain ⟨H16, e16, e⟩ := ob_get e
  obtain ⟨h16, d16, t16, n16⟩ := tr_Row_init t15 (by omega) e16
  rw [t14.n, d16, bind_some']
  have A16 : a < gN H16 := by omega
  have L16 : gN H ≤ gN H16 := by omega
  clear A15 L15 n13
  obtain ⟨H17, e17, e⟩ := ob_get e
  obtain ⟨h17, d17, t17, n17⟩ := t16.R (by omega) (fun x hx => by cases hx; omega) e17
  have c17 : stR h16 1 (b + a) 5 (some (b + gN H14)) = some h17 := d17
  have d17 : stR h16 1 (b + a) 5 (some (gN h14)) = some h17 := by rw [t14.n]; exact d17
  first | rw [d17, bind_some'] | rw [c17, bind_some']
  have A17 : a < gN H17 := by omega
  have L17 : gN H ≤ gN H17 := by omega
  clear A16 L16 n14
  obtain ⟨H18, e18, e⟩ := ob_get e
  cases e18
  have t18 := t17.nw' (kd := (0, 7))
  have n18 : gN (nw H17 (0, 7)) = gN H17 + 1 := rfl
  rw [bind_some']
  have A18 : a < gN (nw H17 (0, 7)) := by omega
  have L18 : gN H ≤ gN (nw H17 (0, 7)) := by omega
  clear A17 L17 n15
  obtain ⟨H19, e19, e⟩ := ob_get e
  obtain ⟨h19, d19, t19, n19⟩ := tr_Told_init t18 (by omega) e19
  rw [t17.n, d19, bind_some']
  have A19 : a < gN H19 := by omega
  have L19 : gN H ≤ gN H19 := by omega
  clear A18 L18 n16
  obtain ⟨H20, e20, e⟩ := ob_get e
  obtain ⟨h20, d20, t20, n20⟩ := t19.R (by omega) (fun x hx => by cases hx; omega) e20
  have c20 : stR h19 1 (b + a) 6 (some (b + gN H17)) = some h20 := d20
  have d20 : stR h19 1 (b + a) 6 (some (gN h17)) = some h20 := by rw [t17.n]; exact d20
  first | rw [d20, bind_some'] | rw [c20, bind_some']
  have A20 : a < gN H20 := by omega
  have L20 : gN H ≤ gN H20 := by omega
  clear A19 L19 n17
  cases e
  exact ⟨_, rfl, t20, L20⟩
theorem tr_Log_init_25 {b : Nat} {h0 : PH} {a : Nat} : ∀ (n : Nat) {h H H' : PH} {x : Int32} (t : Tr b h0 h H) (ha : a < gN H) (e : f_Log_init_25 n a x H = some H'), ∃ h', f_Log_init_25 n (b + a) x h = some h' ∧ Tr b h0 h' H' ∧ gN H ≤ gN H'
  | 0, h, H, H', x, t, ha, e => by
    rw [f_Log_init_25] at e; cases e
  | n + 1, h, H, H', x, t, ha, e => by
    rw [f_Log_init_25] at e ⊢
    by_cases q : 6 ≤ x
    · rw [if_pos q] at e ⊢
      cases e
      exact ⟨_, rfl, t, Nat.le_refl _⟩
    · rw [if_neg q] at e ⊢
      obtain ⟨v, e1, e⟩ := ob_get e
      have d1 := t.L ha e1
      have hv : v < gN H := by
        unfold ldR at e1
        split at e1
        · exact t.2.2.2.2.1 a 0 v ha e1
        · cases e1
      rw [d1, bind_some']
      obtain ⟨H2, e2, e⟩ := ob_get e
      cases e2
      have t2 := t.nw' (kd := (0, 5))
      have n2 : gN (nw H (0, 5)) = gN H + 1 := rfl
      rw [bind_some']
      obtain ⟨H3, e3, e⟩ := ob_get e
      obtain ⟨h3, d3, t3, n3⟩ := tr_Realm_init t2 (by omega) e3
      rw [t.n, d3, bind_some']
      obtain ⟨H4, e4, e⟩ := ob_get e
      obtain ⟨h4, d4, t4, n4⟩ := t3.WQ (by omega) (by omega) e4
      rw [d4, bind_some']
      obtain ⟨h5, d5, t5, n5⟩ := tr_Log_init_25 n t4 (by omega) e
      exact ⟨h5, d5, t5, by omega⟩
theorem tr_Log_init {b : Nat} {h0 h H H' : PH} {a : Nat} (t : Tr b h0 h H) (ha : a < gN H) (e : f_Log_init a H = some H') : ∃ h', f_Log_init (b + a) h = some h' ∧ Tr b h0 h' H' ∧ gN H ≤ gN H' := by
  unfold f_Log_init at e ⊢
  obtain ⟨H1, e1, e⟩ := ob_get e
  obtain ⟨h1, d1, t1, n1⟩ := t.Q e1
  rw [d1, bind_some']
  obtain ⟨H2, e2, e⟩ := ob_get e
  obtain ⟨h2, d2, t2, n2⟩ := t1.R (by omega) (fun x hx => by cases hx; omega) e2
  have d2 : stR h1 3 (b + a) 0 (some (gN h)) = some h2 := by rw [t.n]; exact d2
  rw [d2, bind_some']
  obtain ⟨H3, e3, e⟩ := ob_get e
  obtain ⟨h3, d3, t3, n3⟩ := t2.I (by omega) e3
  rw [d3, bind_some']
  obtain ⟨H4, e4, e⟩ := ob_get e
  obtain ⟨h4, d4, t4, n4⟩ := t3.I (by omega) e4
  rw [d4, bind_some']
  obtain ⟨h5, d5, t5, n5⟩ := tr_Log_init_25 7 t4 (by omega) e
  exact ⟨h5, d5, t5, by omega⟩
theorem tr_Reader_init {b : Nat} {h0 h H H' : PH} {a : Nat} (t : Tr b h0 h H) (ha : a < gN H) (e : f_Reader_init a H = some H') : ∃ h', f_Reader_init (b + a) h = some h' ∧ Tr b h0 h' H' ∧ gN H ≤ gN H' := by
  unfold f_Reader_init at e ⊢
  obtain ⟨H1, e1, e⟩ := ob_get e
  obtain ⟨h1, d1, t1, n1⟩ := t.A e1
  rw [d1, bind_some']
  have A1 : a < gN H1 := by omega
  have L1 : gN H ≤ gN H1 := by omega
  obtain ⟨H2, e2, e⟩ := ob_get e
  obtain ⟨h2, d2, t2, n2⟩ := t1.R (by omega) (fun x hx => by cases hx; omega) e2
  have c2 : stR h1 4 (b + a) 0 (some (b + gN H)) = some h2 := d2
  have d2 : stR h1 4 (b + a) 0 (some (gN h)) = some h2 := by rw [t.n]; exact d2
  first | rw [d2, bind_some'] | rw [c2, bind_some']
  have A2 : a < gN H2 := by omega
  have L2 : gN H ≤ gN H2 := by omega
  clear A1 L1
  obtain ⟨H3, e3, e⟩ := ob_get e
  obtain ⟨h3, d3, t3, n3⟩ := t2.I (by omega) e3
  rw [d3, bind_some']
  have A3 : a < gN H3 := by omega
  have L3 : gN H ≤ gN H3 := by omega
  clear A2 L2
  obtain ⟨H4, e4, e⟩ := ob_get e
  obtain ⟨h4, d4, t4, n4⟩ := t3.I (by omega) e4
  rw [d4, bind_some']
  have A4 : a < gN H4 := by omega
  have L4 : gN H ≤ gN H4 := by omega
  clear A3 L3 n1
  obtain ⟨H5, e5, e⟩ := ob_get e
  obtain ⟨h5, d5, t5, n5⟩ := t4.I (by omega) e5
  rw [d5, bind_some']
  have A5 : a < gN H5 := by omega
  have L5 : gN H ≤ gN H5 := by omega
  clear A4 L4 n2
  obtain ⟨H6, e6, e⟩ := ob_get e
  cases e6
  have t6 := t5.nw' (kd := (0, 2))
  have n6 : gN (nw H5 (0, 2)) = gN H5 + 1 := rfl
  rw [bind_some']
  have A6 : a < gN (nw H5 (0, 2)) := by omega
  have L6 : gN H ≤ gN (nw H5 (0, 2)) := by omega
  clear A5 L5 n3
  obtain ⟨H7, e7, e⟩ := ob_get e
  obtain ⟨h7, d7, t7, n7⟩ := tr_Law_init t6 (by omega) e7
  rw [t5.n, d7, bind_some']
  have A7 : a < gN H7 := by omega
  have L7 : gN H ≤ gN H7 := by omega
  clear A6 L6 n4
  obtain ⟨H8, e8, e⟩ := ob_get e
  obtain ⟨h8, d8, t8, n8⟩ := t7.R (by omega) (fun x hx => by cases hx; omega) e8
  have c8 : stR h7 4 (b + a) 4 (some (b + gN H5)) = some h8 := d8
  have d8 : stR h7 4 (b + a) 4 (some (gN h5)) = some h8 := by rw [t5.n]; exact d8
  first | rw [d8, bind_some'] | rw [c8, bind_some']
  have A8 : a < gN H8 := by omega
  have L8 : gN H ≤ gN H8 := by omega
  clear A7 L7 n5
  obtain ⟨H9, e9, e⟩ := ob_get e
  cases e9
  have t9 := t8.nw' (kd := (0, 6))
  have n9 : gN (nw H8 (0, 6)) = gN H8 + 1 := rfl
  rw [bind_some']
  have A9 : a < gN (nw H8 (0, 6)) := by omega
  have L9 : gN H ≤ gN (nw H8 (0, 6)) := by omega
  clear A8 L8 n6
  obtain ⟨H10, e10, e⟩ := ob_get e
  obtain ⟨h10, d10, t10, n10⟩ := tr_Row_init t9 (by omega) e10
  rw [t8.n, d10, bind_some']
  have A10 : a < gN H10 := by omega
  have L10 : gN H ≤ gN H10 := by omega
  clear A9 L9 n7
  obtain ⟨H11, e11, e⟩ := ob_get e
  obtain ⟨h11, d11, t11, n11⟩ := t10.R (by omega) (fun x hx => by cases hx; omega) e11
  have c11 : stR h10 4 (b + a) 5 (some (b + gN H8)) = some h11 := d11
  have d11 : stR h10 4 (b + a) 5 (some (gN h8)) = some h11 := by rw [t8.n]; exact d11
  first | rw [d11, bind_some'] | rw [c11, bind_some']
  have A11 : a < gN H11 := by omega
  have L11 : gN H ≤ gN H11 := by omega
  clear A10 L10 n8
  obtain ⟨H12, e12, e⟩ := ob_get e
  obtain ⟨h12, d12, t12, n12⟩ := t11.A e12
  rw [d12, bind_some']
  have A12 : a < gN H12 := by omega
  have L12 : gN H ≤ gN H12 := by omega
  clear A11 L11 n9
  obtain ⟨H13, e13, e⟩ := ob_get e
  obtain ⟨h13, d13, t13, n13⟩ := t12.R (by omega) (fun x hx => by cases hx; omega) e13
  have c13 : stR h12 4 (b + a) 6 (some (b + gN H11)) = some h13 := d13
  have d13 : stR h12 4 (b + a) 6 (some (gN h11)) = some h13 := by rw [t11.n]; exact d13
  first | rw [d13, bind_some'] | rw [c13, bind_some']
  have A13 : a < gN H13 := by omega
  have L13 : gN H ≤ gN H13 := by omega
  clear A12 L12 n10
  obtain ⟨H14, e14, e⟩ := ob_get e
  obtain ⟨h14, d14, t14, n14⟩ := t13.A e14
  rw [d14, bind_some']
  have A14 : a < gN H14 := by omega
  have L14 : gN H ≤ gN H14 := by omega
  clear A13 L13 n11
  obtain ⟨H15, e15, e⟩ := ob_get e
  obtain ⟨h15, d15, t15, n15⟩ := t14.R (by omega) (fun x hx => by cases hx; omega) e15
  have c15 : stR h14 4 (b + a) 7 (some (b + gN H13)) = some h15 := d15
  have d15 : stR h14 4 (b + a) 7 (some (gN h13)) = some h15 := by rw [t13.n]; exact d15
  first | rw [d15, bind_some'] | rw [c15, bind_some']
  have A15 : a < gN H15 := by omega
  have L15 : gN H ≤ gN H15 := by omega
  clear A14 L14 n12
  obtain ⟨H16, e16, e⟩ := ob_get e
  obtain ⟨h16, d16, t16, n16⟩ := t15.I (by omega) e16
  rw [d16, bind_some']
  have A16 : a < gN H16 := by omega
  have L16 : gN H ≤ gN H16 := by omega
  clear A15 L15 n13
  obtain ⟨H17, e17, e⟩ := ob_get e
  obtain ⟨h17, d17, t17, n17⟩ := t16.I (by omega) e17
  rw [d17, bind_some']
  have A17 : a < gN H17 := by omega
  have L17 : gN H ≤ gN H17 := by omega
  clear A16 L16 n14
  obtain ⟨H18, e18, e⟩ := ob_get e
  obtain ⟨h18, d18, t18, n18⟩ := t17.I (by omega) e18
  rw [d18, bind_some']
  have A18 : a < gN H18 := by omega
  have L18 : gN H ≤ gN H18 := by omega
  clear A17 L17 n15
  cases e
  exact ⟨_, rfl, t18, L18⟩
theorem tr_Desk_init {b : Nat} {h0 h H H' : PH} {a : Nat} (t : Tr b h0 h H) (ha : a < gN H) (e : f_Desk_init a H = some H') : ∃ h', f_Desk_init (b + a) h = some h' ∧ Tr b h0 h' H' ∧ gN H ≤ gN H' := by
  unfold f_Desk_init at e ⊢
  obtain ⟨H1, e1, e⟩ := ob_get e
  obtain ⟨h1, d1, t1, n1⟩ := t.A e1
  rw [d1, bind_some']
  have A1 : a < gN H1 := by omega
  have L1 : gN H ≤ gN H1 := by omega
  obtain ⟨H2, e2, e⟩ := ob_get e
  obtain ⟨h2, d2, t2, n2⟩ := t1.R (by omega) (fun x hx => by cases hx; omega) e2
  have c2 : stR h1 0 (b + a) 0 (some (b + gN H)) = some h2 := d2
  have d2 : stR h1 0 (b + a) 0 (some (gN h)) = some h2 := by rw [t.n]; exact d2
  first | rw [d2, bind_some'] | rw [c2, bind_some']
  have A2 : a < gN H2 := by omega
  have L2 : gN H ≤ gN H2 := by omega
  clear A1 L1
  obtain ⟨H3, e3, e⟩ := ob_get e
  obtain ⟨h3, d3, t3, n3⟩ := t2.A e3
  rw [d3, bind_some']
  have A3 : a < gN H3 := by omega
  have L3 : gN H ≤ gN H3 := by omega
  clear A2 L2
  obtain ⟨H4, e4, e⟩ := ob_get e
  obtain ⟨h4, d4, t4, n4⟩ := t3.R (by omega) (fun x hx => by cases hx; omega) e4
  have c4 : stR h3 0 (b + a) 1 (some (b + gN H2)) = some h4 := d4
  have d4 : stR h3 0 (b + a) 1 (some (gN h2)) = some h4 := by rw [t2.n]; exact d4
  first | rw [d4, bind_some'] | rw [c4, bind_some']
  have A4 : a < gN H4 := by omega
  have L4 : gN H ≤ gN H4 := by omega
  clear A3 L3 n1
  obtain ⟨H5, e5, e⟩ := ob_get e
  obtain ⟨h5, d5, t5, n5⟩ := t4.A e5
  rw [d5, bind_some']
  have A5 : a < gN H5 := by omega
  have L5 : gN H ≤ gN H5 := by omega
  clear A4 L4 n2
  obtain ⟨H6, e6, e⟩ := ob_get e
  obtain ⟨h6, d6, t6, n6⟩ := t5.R (by omega) (fun x hx => by cases hx; omega) e6
  have c6 : stR h5 0 (b + a) 2 (some (b + gN H4)) = some h6 := d6
  have d6 : stR h5 0 (b + a) 2 (some (gN h4)) = some h6 := by rw [t4.n]; exact d6
  first | rw [d6, bind_some'] | rw [c6, bind_some']
  have A6 : a < gN H6 := by omega
  have L6 : gN H ≤ gN H6 := by omega
  clear A5 L5 n3
  obtain ⟨H7, e7, e⟩ := ob_get e
  obtain ⟨h7, d7, t7, n7⟩ := t6.A e7
  rw [d7, bind_some']
  have A7 : a < gN H7 := by omega
  have L7 : gN H ≤ gN H7 := by omega
  clear A6 L6 n4
  obtain ⟨H8, e8, e⟩ := ob_get e
  obtain ⟨h8, d8, t8, n8⟩ := t7.R (by omega) (fun x hx => by cases hx; omega) e8
  have c8 : stR h7 0 (b + a) 3 (some (b + gN H6)) = some h8 := d8
  have d8 : stR h7 0 (b + a) 3 (some (gN h6)) = some h8 := by rw [t6.n]; exact d8
  first | rw [d8, bind_some'] | rw [c8, bind_some']
  have A8 : a < gN H8 := by omega
  have L8 : gN H ≤ gN H8 := by omega
  clear A7 L7 n5
  obtain ⟨H9, e9, e⟩ := ob_get e
  obtain ⟨h9, d9, t9, n9⟩ := t8.A e9
  rw [d9, bind_some']
  have A9 : a < gN H9 := by omega
  have L9 : gN H ≤ gN H9 := by omega
  clear A8 L8 n6
  obtain ⟨H10, e10, e⟩ := ob_get e
  obtain ⟨h10, d10, t10, n10⟩ := t9.R (by omega) (fun x hx => by cases hx; omega) e10
  have c10 : stR h9 0 (b + a) 4 (some (b + gN H8)) = some h10 := d10
  have d10 : stR h9 0 (b + a) 4 (some (gN h8)) = some h10 := by rw [t8.n]; exact d10
  first | rw [d10, bind_some'] | rw [c10, bind_some']
  have A10 : a < gN H10 := by omega
  have L10 : gN H ≤ gN H10 := by omega
  clear A9 L9 n7
  obtain ⟨H11, e11, e⟩ := ob_get e
  obtain ⟨h11, d11, t11, n11⟩ := t10.A e11
  rw [d11, bind_some']
  have A11 : a < gN H11 := by omega
  have L11 : gN H ≤ gN H11 := by omega
  clear A10 L10 n8
  obtain ⟨H12, e12, e⟩ := ob_get e
  obtain ⟨h12, d12, t12, n12⟩ := t11.R (by omega) (fun x hx => by cases hx; omega) e12
  have c12 : stR h11 0 (b + a) 5 (some (b + gN H10)) = some h12 := d12
  have d12 : stR h11 0 (b + a) 5 (some (gN h10)) = some h12 := by rw [t10.n]; exact d12
  first | rw [d12, bind_some'] | rw [c12, bind_some']
  have A12 : a < gN H12 := by omega
  have L12 : gN H ≤ gN H12 := by omega
  clear A11 L11 n9
  cases e
  exact ⟨_, rfl, t12, L12⟩
theorem tr_Tc_init {b : Nat} {h0 h H H' : PH} {a : Nat} (t : Tr b h0 h H) (ha : a < gN H) (e : f_Tc_init a H = some H') : ∃ h', f_Tc_init (b + a) h = some h' ∧ Tr b h0 h' H' ∧ gN H ≤ gN H' := by
  unfold f_Tc_init at e ⊢
  obtain ⟨H1, e1, e⟩ := ob_get e
  cases e1
  have t1 := t.nw' (kd := (0, 1))
  have n1 : gN (nw H (0, 1)) = gN H + 1 := rfl
  rw [bind_some']
  have A1 : a < gN (nw H (0, 1)) := by omega
  have L1 : gN H ≤ gN (nw H (0, 1)) := by omega
  obtain ⟨H2, e2, e⟩ := ob_get e
  obtain ⟨h2, d2, t2, n2⟩ := tr_Land_init t1 (by omega) e2
  rw [t.n, d2, bind_some']
  have A2 : a < gN H2 := by omega
  have L2 : gN H ≤ gN H2 := by omega
  clear A1 L1
  obtain ⟨H3, e3, e⟩ := ob_get e
  obtain ⟨h3, d3, t3, n3⟩ := t2.R (by omega) (fun x hx => by cases hx; omega) e3
  have c3 : stR h2 8 (b + a) 0 (some (b + gN H)) = some h3 := d3
  have d3 : stR h2 8 (b + a) 0 (some (gN h)) = some h3 := by rw [t.n]; exact d3
  first | rw [d3, bind_some'] | rw [c3, bind_some']
  have A3 : a < gN H3 := by omega
  have L3 : gN H ≤ gN H3 := by omega
  clear A2 L2
  obtain ⟨H4, e4, e⟩ := ob_get e
  cases e4
  have t4 := t3.nw' (kd := (0, 3))
  have n4 : gN (nw H3 (0, 3)) = gN H3 + 1 := rfl
  rw [bind_some']
  have A4 : a < gN (nw H3 (0, 3)) := by omega
  have L4 : gN H ≤ gN (nw H3 (0, 3)) := by omega
  clear A3 L3 n1
  obtain ⟨H5, e5, e⟩ := ob_get e
  obtain ⟨h5, d5, t5, n5⟩ := tr_Log_init t4 (by omega) e5
  rw [t3.n, d5, bind_some']
  have A5 : a < gN H5 := by omega
  have L5 : gN H ≤ gN H5 := by omega
  clear A4 L4 n2
  obtain ⟨H6, e6, e⟩ := ob_get e
  obtain ⟨h6, d6, t6, n6⟩ := t5.R (by omega) (fun x hx => by cases hx; omega) e6
  have c6 : stR h5 8 (b + a) 1 (some (b + gN H3)) = some h6 := d6
  have d6 : stR h5 8 (b + a) 1 (some (gN h3)) = some h6 := by rw [t3.n]; exact d6
  first | rw [d6, bind_some'] | rw [c6, bind_some']
  have A6 : a < gN H6 := by omega
  have L6 : gN H ≤ gN H6 := by omega
  clear A5 L5 n3
  obtain ⟨H7, e7, e⟩ := ob_get e
  cases e7
  have t7 := t6.nw' (kd := (0, 4))
  have n7 : gN (nw H6 (0, 4)) = gN H6 + 1 := rfl
  rw [bind_some']
  have A7 : a < gN (nw H6 (0, 4)) := by omega
  have L7 : gN H ≤ gN (nw H6 (0, 4)) := by omega
  clear A6 L6 n4
  obtain ⟨H8, e8, e⟩ := ob_get e
  obtain ⟨h8, d8, t8, n8⟩ := tr_Reader_init t7 (by omega) e8
  rw [t6.n, d8, bind_some']
  have A8 : a < gN H8 := by omega
  have L8 : gN H ≤ gN H8 := by omega
  clear A7 L7 n5
  obtain ⟨H9, e9, e⟩ := ob_get e
  obtain ⟨h9, d9, t9, n9⟩ := t8.R (by omega) (fun x hx => by cases hx; omega) e9
  have c9 : stR h8 8 (b + a) 2 (some (b + gN H6)) = some h9 := d9
  have d9 : stR h8 8 (b + a) 2 (some (gN h6)) = some h9 := by rw [t6.n]; exact d9
  first | rw [d9, bind_some'] | rw [c9, bind_some']
  have A9 : a < gN H9 := by omega
  have L9 : gN H ≤ gN H9 := by omega
  clear A8 L8 n6
  obtain ⟨H10, e10, e⟩ := ob_get e
  cases e10
  have t10 := t9.nw' (kd := (0, 5))
  have n10 : gN (nw H9 (0, 5)) = gN H9 + 1 := rfl
  rw [bind_some']
  have A10 : a < gN (nw H9 (0, 5)) := by omega
  have L10 : gN H ≤ gN (nw H9 (0, 5)) := by omega
  clear A9 L9 n7
  obtain ⟨H11, e11, e⟩ := ob_get e
  obtain ⟨h11, d11, t11, n11⟩ := tr_Realm_init t10 (by omega) e11
  rw [t9.n, d11, bind_some']
  have A11 : a < gN H11 := by omega
  have L11 : gN H ≤ gN H11 := by omega
  clear A10 L10 n8
  obtain ⟨H12, e12, e⟩ := ob_get e
  obtain ⟨h12, d12, t12, n12⟩ := t11.R (by omega) (fun x hx => by cases hx; omega) e12
  have c12 : stR h11 8 (b + a) 3 (some (b + gN H9)) = some h12 := d12
  have d12 : stR h11 8 (b + a) 3 (some (gN h9)) = some h12 := by rw [t9.n]; exact d12
  first | rw [d12, bind_some'] | rw [c12, bind_some']
  have A12 : a < gN H12 := by omega
  have L12 : gN H ≤ gN H12 := by omega
  clear A11 L11 n9
  obtain ⟨H13, e13, e⟩ := ob_get e
  cases e13
  have t13 := t12.nw' (kd := (0, 0))
  have n13 : gN (nw H12 (0, 0)) = gN H12 + 1 := rfl
  rw [bind_some']
  have A13 : a < gN (nw H12 (0, 0)) := by omega
  have L13 : gN H ≤ gN (nw H12 (0, 0)) := by omega
  clear A12 L12 n10
  obtain ⟨H14, e14, e⟩ := ob_get e
  obtain ⟨h14, d14, t14, n14⟩ := tr_Desk_init t13 (by omega) e14
  rw [t12.n, d14, bind_some']
  have A14 : a < gN H14 := by omega
  have L14 : gN H ≤ gN H14 := by omega
  clear A13 L13 n11
  obtain ⟨H15, e15, e⟩ := ob_get e
  obtain ⟨h15, d15, t15, n15⟩ := t14.R (by omega) (fun x hx => by cases hx; omega) e15
  have c15 : stR h14 8 (b + a) 4 (some (b + gN H12)) = some h15 := d15
  have d15 : stR h14 8 (b + a) 4 (some (gN h12)) = some h15 := by rw [t12.n]; exact d15
  first | rw [d15, bind_some'] | rw [c15, bind_some']
  have A15 : a < gN H15 := by omega
  have L15 : gN H ≤ gN H15 := by omega
  clear A14 L14 n12
  obtain ⟨H16, e16, e⟩ := ob_get e
  obtain ⟨h16, d16, t16, n16⟩ := t15.R (by omega) (fun x hx => by cases hx) e16
  have d16 : stR h15 8 (b + a) 5 none = some h16 := d16
  rw [d16, bind_some']
  have A16 : a < gN H16 := by omega
  have L16 : gN H ≤ gN H16 := by omega
  clear A15 L15 n13
  cases e
  exact ⟨_, rfl, t16, L16⟩
set_option maxRecDepth 100000 in
set_option maxHeartbeats 4000000 in
theorem tr_Mo_init {b : Nat} {h0 h H H' : PH} {a : Nat} (t : Tr b h0 h H) (ha : a < gN H) (e : f_Mo_init a H = some H') : ∃ h', f_Mo_init (b + a) h = some h' ∧ Tr b h0 h' H' ∧ gN H ≤ gN H' := by
  unfold f_Mo_init at e ⊢
  obtain ⟨H1, e1, e⟩ := ob_get e
  obtain ⟨h1, d1, t1, n1⟩ := t.A e1
  rw [d1, bind_some']
  have A1 : a < gN H1 := by omega
  have L1 : gN H ≤ gN H1 := by omega
  obtain ⟨H2, e2, e⟩ := ob_get e
  obtain ⟨h2, d2, t2, n2⟩ := t1.R (by omega) (fun x hx => by cases hx; omega) e2
  have c2 : stR h1 9 (b + a) 1 (some (b + gN H)) = some h2 := d2
  have d2 : stR h1 9 (b + a) 1 (some (gN h)) = some h2 := by rw [t.n]; exact d2
  first | rw [d2, bind_some'] | rw [c2, bind_some']
  have A2 : a < gN H2 := by omega
  have L2 : gN H ≤ gN H2 := by omega
  clear A1 L1
  obtain ⟨H3, e3, e⟩ := ob_get e
  obtain ⟨h3, d3, t3, n3⟩ := t2.A e3
  rw [d3, bind_some']
  have A3 : a < gN H3 := by omega
  have L3 : gN H ≤ gN H3 := by omega
  clear A2 L2
  obtain ⟨H4, e4, e⟩ := ob_get e
  obtain ⟨h4, d4, t4, n4⟩ := t3.R (by omega) (fun x hx => by cases hx; omega) e4
  have c4 : stR h3 9 (b + a) 2 (some (b + gN H2)) = some h4 := d4
  have d4 : stR h3 9 (b + a) 2 (some (gN h2)) = some h4 := by rw [t2.n]; exact d4
  first | rw [d4, bind_some'] | rw [c4, bind_some']
  have A4 : a < gN H4 := by omega
  have L4 : gN H ≤ gN H4 := by omega
  clear A3 L3 n1
  obtain ⟨H5, e5, e⟩ := ob_get e
  obtain ⟨h5, d5, t5, n5⟩ := t4.A e5
  rw [d5, bind_some']
  have A5 : a < gN H5 := by omega
  have L5 : gN H ≤ gN H5 := by omega
  clear A4 L4 n2
  obtain ⟨H6, e6, e⟩ := ob_get e
  obtain ⟨h6, d6, t6, n6⟩ := t5.R (by omega) (fun x hx => by cases hx; omega) e6
  have c6 : stR h5 9 (b + a) 4 (some (b + gN H4)) = some h6 := d6
  have d6 : stR h5 9 (b + a) 4 (some (gN h4)) = some h6 := by rw [t4.n]; exact d6
  first | rw [d6, bind_some'] | rw [c6, bind_some']
  have A6 : a < gN H6 := by omega
  have L6 : gN H ≤ gN H6 := by omega
  clear A5 L5 n3
  obtain ⟨H7, e7, e⟩ := ob_get e
  obtain ⟨h7, d7, t7, n7⟩ := t6.A e7
  rw [d7, bind_some']
  have A7 : a < gN H7 := by omega
  have L7 : gN H ≤ gN H7 := by omega
  clear A6 L6 n4
  obtain ⟨H8, e8, e⟩ := ob_get e
  obtain ⟨h8, d8, t8, n8⟩ := t7.R (by omega) (fun x hx => by cases hx; omega) e8
  have c8 : stR h7 9 (b + a) 8 (some (b + gN H6)) = some h8 := d8
  have d8 : stR h7 9 (b + a) 8 (some (gN h6)) = some h8 := by rw [t6.n]; exact d8
  first | rw [d8, bind_some'] | rw [c8, bind_some']
  have A8 : a < gN H8 := by omega
  have L8 : gN H ≤ gN H8 := by omega
  clear A7 L7 n5
  obtain ⟨H9, e9, e⟩ := ob_get e
  obtain ⟨h9, d9, t9, n9⟩ := t8.A e9
  rw [d9, bind_some']
  have A9 : a < gN H9 := by omega
  have L9 : gN H ≤ gN H9 := by omega
  clear A8 L8 n6
  obtain ⟨H10, e10, e⟩ := ob_get e
  obtain ⟨h10, d10, t10, n10⟩ := t9.R (by omega) (fun x hx => by cases hx; omega) e10
  have c10 : stR h9 9 (b + a) 9 (some (b + gN H8)) = some h10 := d10
  have d10 : stR h9 9 (b + a) 9 (some (gN h8)) = some h10 := by rw [t8.n]; exact d10
  first | rw [d10, bind_some'] | rw [c10, bind_some']
  have A10 : a < gN H10 := by omega
  have L10 : gN H ≤ gN H10 := by omega
  clear A9 L9 n7
  obtain ⟨H11, e11, e⟩ := ob_get e
  obtain ⟨h11, d11, t11, n11⟩ := t10.A e11
  rw [d11, bind_some']
  have A11 : a < gN H11 := by omega
  have L11 : gN H ≤ gN H11 := by omega
  clear A10 L10 n8
  obtain ⟨H12, e12, e⟩ := ob_get e
  obtain ⟨h12, d12, t12, n12⟩ := t11.R (by omega) (fun x hx => by cases hx; omega) e12
  have c12 : stR h11 9 (b + a) 10 (some (b + gN H10)) = some h12 := d12
  have d12 : stR h11 9 (b + a) 10 (some (gN h10)) = some h12 := by rw [t10.n]; exact d12
  first | rw [d12, bind_some'] | rw [c12, bind_some']
  have A12 : a < gN H12 := by omega
  have L12 : gN H ≤ gN H12 := by omega
  clear A11 L11 n9
  obtain ⟨H13, e13, e⟩ := ob_get e
  obtain ⟨h13, d13, t13, n13⟩ := t12.A e13
  rw [d13, bind_some']
  have A13 : a < gN H13 := by omega
  have L13 : gN H ≤ gN H13 := by omega
  clear A12 L12 n10
  obtain ⟨H14, e14, e⟩ := ob_get e
  obtain ⟨h14, d14, t14, n14⟩ := t13.R (by omega) (fun x hx => by cases hx; omega) e14
  have c14 : stR h13 9 (b + a) 11 (some (b + gN H12)) = some h14 := d14
  have d14 : stR h13 9 (b + a) 11 (some (gN h12)) = some h14 := by rw [t12.n]; exact d14
  first | rw [d14, bind_some'] | rw [c14, bind_some']
  have A14 : a < gN H14 := by omega
  have L14 : gN H ≤ gN H14 := by omega
  clear A13 L13 n11
  obtain ⟨H15, e15, e⟩ := ob_get e
  obtain ⟨h15, d15, t15, n15⟩ := t14.A e15
  rw [d15, bind_some']
  have A15 : a < gN H15 := by omega
  have L15 : gN H ≤ gN H15 := by omega
  clear A14 L14 n12
  obtain ⟨H16, e16, e⟩ := ob_get e
  obtain ⟨h16, d16, t16, n16⟩ := t15.R (by omega) (fun x hx => by cases hx; omega) e16
  have c16 : stR h15 9 (b + a) 12 (some (b + gN H14)) = some h16 := d16
  have d16 : stR h15 9 (b + a) 12 (some (gN h14)) = some h16 := by rw [t14.n]; exact d16
  first | rw [d16, bind_some'] | rw [c16, bind_some']
  have A16 : a < gN H16 := by omega
  have L16 : gN H ≤ gN H16 := by omega
  clear A15 L15 n13
  obtain ⟨H17, e17, e⟩ := ob_get e
  obtain ⟨h17, d17, t17, n17⟩ := t16.A e17
  rw [d17, bind_some']
  have A17 : a < gN H17 := by omega
  have L17 : gN H ≤ gN H17 := by omega
  clear A16 L16 n14
  obtain ⟨H18, e18, e⟩ := ob_get e
  obtain ⟨h18, d18, t18, n18⟩ := t17.R (by omega) (fun x hx => by cases hx; omega) e18
  have c18 : stR h17 9 (b + a) 13 (some (b + gN H16)) = some h18 := d18
  have d18 : stR h17 9 (b + a) 13 (some (gN h16)) = some h18 := by rw [t16.n]; exact d18
  first | rw [d18, bind_some'] | rw [c18, bind_some']
  have A18 : a < gN H18 := by omega
  have L18 : gN H ≤ gN H18 := by omega
  clear A17 L17 n15
  obtain ⟨H19, e19, e⟩ := ob_get e
  obtain ⟨h19, d19, t19, n19⟩ := t18.A e19
  rw [d19, bind_some']
  have A19 : a < gN H19 := by omega
  have L19 : gN H ≤ gN H19 := by omega
  have W19 : gN H18 < gN H19 := by omega
  clear A18 L18 n16
  obtain ⟨H20, e20, e⟩ := ob_get e
  obtain ⟨h20, d20, t20, n20⟩ := t19.W (by omega) e20
  first | rw [d20, bind_some'] | rw [t18.n, d20, bind_some']
  have A20 : a < gN H20 := by omega
  have L20 : gN H ≤ gN H20 := by omega
  have W20 : gN H18 < gN H20 := by omega
  clear A19 L19 W19 n17
  obtain ⟨H21, e21, e⟩ := ob_get e
  obtain ⟨h21, d21, t21, n21⟩ := t20.W (by omega) e21
  first | rw [d21, bind_some'] | rw [t18.n, d21, bind_some']
  have A21 : a < gN H21 := by omega
  have L21 : gN H ≤ gN H21 := by omega
  have W21 : gN H18 < gN H21 := by omega
  clear A20 L20 W20 n18
  obtain ⟨H22, e22, e⟩ := ob_get e
  obtain ⟨h22, d22, t22, n22⟩ := t21.W (by omega) e22
  first | rw [d22, bind_some'] | rw [t18.n, d22, bind_some']
  have A22 : a < gN H22 := by omega
  have L22 : gN H ≤ gN H22 := by omega
  have W22 : gN H18 < gN H22 := by omega
  clear A21 L21 W21 n19
  obtain ⟨H23, e23, e⟩ := ob_get e
  obtain ⟨h23, d23, t23, n23⟩ := t22.W (by omega) e23
  first | rw [d23, bind_some'] | rw [t18.n, d23, bind_some']
  have A23 : a < gN H23 := by omega
  have L23 : gN H ≤ gN H23 := by omega
  have W23 : gN H18 < gN H23 := by omega
  clear A22 L22 W22 n20
  obtain ⟨H24, e24, e⟩ := ob_get e
  obtain ⟨h24, d24, t24, n24⟩ := t23.W (by omega) e24
  first | rw [d24, bind_some'] | rw [t18.n, d24, bind_some']
  have A24 : a < gN H24 := by omega
  have L24 : gN H ≤ gN H24 := by omega
  have W24 : gN H18 < gN H24 := by omega
  clear A23 L23 W23 n21
  obtain ⟨H25, e25, e⟩ := ob_get e
  obtain ⟨h25, d25, t25, n25⟩ := t24.W (by omega) e25
  first | rw [d25, bind_some'] | rw [t18.n, d25, bind_some']
  have A25 : a < gN H25 := by omega
  have L25 : gN H ≤ gN H25 := by omega
  have W25 : gN H18 < gN H25 := by omega
  clear A24 L24 W24 n22
  obtain ⟨H26, e26, e⟩ := ob_get e
  obtain ⟨h26, d26, t26, n26⟩ := t25.W (by omega) e26
  first | rw [d26, bind_some'] | rw [t18.n, d26, bind_some']
  have A26 : a < gN H26 := by omega
  have L26 : gN H ≤ gN H26 := by omega
  have W26 : gN H18 < gN H26 := by omega
  clear A25 L25 W25 n23
  obtain ⟨H27, e27, e⟩ := ob_get e
  obtain ⟨h27, d27, t27, n27⟩ := t26.W (by omega) e27
  first | rw [d27, bind_some'] | rw [t18.n, d27, bind_some']
  have A27 : a < gN H27 := by omega
  have L27 : gN H ≤ gN H27 := by omega
  have W27 : gN H18 < gN H27 := by omega
  clear A26 L26 W26 n24
  obtain ⟨H28, e28, e⟩ := ob_get e
  obtain ⟨h28, d28, t28, n28⟩ := t27.W (by omega) e28
  first | rw [d28, bind_some'] | rw [t18.n, d28, bind_some']
  have A28 : a < gN H28 := by omega
  have L28 : gN H ≤ gN H28 := by omega
  have W28 : gN H18 < gN H28 := by omega
  clear A27 L27 W27 n25
  obtain ⟨H29, e29, e⟩ := ob_get e
  obtain ⟨h29, d29, t29, n29⟩ := t28.W (by omega) e29
  first | rw [d29, bind_some'] | rw [t18.n, d29, bind_some']
  have A29 : a < gN H29 := by omega
  have L29 : gN H ≤ gN H29 := by omega
  have W29 : gN H18 < gN H29 := by omega
  clear A28 L28 W28 n26
  obtain ⟨H30, e30, e⟩ := ob_get e
  obtain ⟨h30, d30, t30, n30⟩ := t29.W (by omega) e30
  first | rw [d30, bind_some'] | rw [t18.n, d30, bind_some']
  have A30 : a < gN H30 := by omega
  have L30 : gN H ≤ gN H30 := by omega
  have W30 : gN H18 < gN H30 := by omega
  clear A29 L29 W29 n27
  obtain ⟨H31, e31, e⟩ := ob_get e
  obtain ⟨h31, d31, t31, n31⟩ := t30.W (by omega) e31
  first | rw [d31, bind_some'] | rw [t18.n, d31, bind_some']
  have A31 : a < gN H31 := by omega
  have L31 : gN H ≤ gN H31 := by omega
  have W31 : gN H18 < gN H31 := by omega
  clear A30 L30 W30 n28
  obtain ⟨H32, e32, e⟩ := ob_get e
  obtain ⟨h32, d32, t32, n32⟩ := t31.W (by omega) e32
  first | rw [d32, bind_some'] | rw [t18.n, d32, bind_some']
  have A32 : a < gN H32 := by omega
  have L32 : gN H ≤ gN H32 := by omega
  have W32 : gN H18 < gN H32 := by omega
  clear A31 L31 W31 n29
  obtain ⟨H33, e33, e⟩ := ob_get e
  obtain ⟨h33, d33, t33, n33⟩ := t32.W (by omega) e33
  first | rw [d33, bind_some'] | rw [t18.n, d33, bind_some']
  have A33 : a < gN H33 := by omega
  have L33 : gN H ≤ gN H33 := by omega
  have W33 : gN H18 < gN H33 := by omega
  clear A32 L32 W32 n30
  obtain ⟨H34, e34, e⟩ := ob_get e
  obtain ⟨h34, d34, t34, n34⟩ := t33.W (by omega) e34
  first | rw [d34, bind_some'] | rw [t18.n, d34, bind_some']
  have A34 : a < gN H34 := by omega
  have L34 : gN H ≤ gN H34 := by omega
  have W34 : gN H18 < gN H34 := by omega
  clear A33 L33 W33 n31
  obtain ⟨H35, e35, e⟩ := ob_get e
  obtain ⟨h35, d35, t35, n35⟩ := t34.W (by omega) e35
  first | rw [d35, bind_some'] | rw [t18.n, d35, bind_some']
  have A35 : a < gN H35 := by omega
  have L35 : gN H ≤ gN H35 := by omega
  have W35 : gN H18 < gN H35 := by omega
  clear A34 L34 W34 n32
  obtain ⟨H36, e36, e⟩ := ob_get e
  obtain ⟨h36, d36, t36, n36⟩ := t35.W (by omega) e36
  first | rw [d36, bind_some'] | rw [t18.n, d36, bind_some']
  have A36 : a < gN H36 := by omega
  have L36 : gN H ≤ gN H36 := by omega
  have W36 : gN H18 < gN H36 := by omega
  clear A35 L35 W35 n33
  obtain ⟨H37, e37, e⟩ := ob_get e
  obtain ⟨h37, d37, t37, n37⟩ := t36.W (by omega) e37
  first | rw [d37, bind_some'] | rw [t18.n, d37, bind_some']
  have A37 : a < gN H37 := by omega
  have L37 : gN H ≤ gN H37 := by omega
  have W37 : gN H18 < gN H37 := by omega
  clear A36 L36 W36 n34
  obtain ⟨H38, e38, e⟩ := ob_get e
  obtain ⟨h38, d38, t38, n38⟩ := t37.W (by omega) e38
  first | rw [d38, bind_some'] | rw [t18.n, d38, bind_some']
  have A38 : a < gN H38 := by omega
  have L38 : gN H ≤ gN H38 := by omega
  have W38 : gN H18 < gN H38 := by omega
  clear A37 L37 W37 n35
  obtain ⟨H39, e39, e⟩ := ob_get e
  obtain ⟨h39, d39, t39, n39⟩ := t38.W (by omega) e39
  first | rw [d39, bind_some'] | rw [t18.n, d39, bind_some']
  have A39 : a < gN H39 := by omega
  have L39 : gN H ≤ gN H39 := by omega
  have W39 : gN H18 < gN H39 := by omega
  clear A38 L38 W38 n36
  obtain ⟨H40, e40, e⟩ := ob_get e
  obtain ⟨h40, d40, t40, n40⟩ := t39.W (by omega) e40
  first | rw [d40, bind_some'] | rw [t18.n, d40, bind_some']
  have A40 : a < gN H40 := by omega
  have L40 : gN H ≤ gN H40 := by omega
  have W40 : gN H18 < gN H40 := by omega
  clear A39 L39 W39 n37
  obtain ⟨H41, e41, e⟩ := ob_get e
  obtain ⟨h41, d41, t41, n41⟩ := t40.W (by omega) e41
  first | rw [d41, bind_some'] | rw [t18.n, d41, bind_some']
  have A41 : a < gN H41 := by omega
  have L41 : gN H ≤ gN H41 := by omega
  have W41 : gN H18 < gN H41 := by omega
  clear A40 L40 W40 n38
  obtain ⟨H42, e42, e⟩ := ob_get e
  obtain ⟨h42, d42, t42, n42⟩ := t41.W (by omega) e42
  first | rw [d42, bind_some'] | rw [t18.n, d42, bind_some']
  have A42 : a < gN H42 := by omega
  have L42 : gN H ≤ gN H42 := by omega
  have W42 : gN H18 < gN H42 := by omega
  clear A41 L41 W41 n39
  obtain ⟨H43, e43, e⟩ := ob_get e
  obtain ⟨h43, d43, t43, n43⟩ := t42.W (by omega) e43
  first | rw [d43, bind_some'] | rw [t18.n, d43, bind_some']
  have A43 : a < gN H43 := by omega
  have L43 : gN H ≤ gN H43 := by omega
  have W43 : gN H18 < gN H43 := by omega
  clear A42 L42 W42 n40
  obtain ⟨H44, e44, e⟩ := ob_get e
  obtain ⟨h44, d44, t44, n44⟩ := t43.W (by omega) e44
  first | rw [d44, bind_some'] | rw [t18.n, d44, bind_some']
  have A44 : a < gN H44 := by omega
  have L44 : gN H ≤ gN H44 := by omega
  have W44 : gN H18 < gN H44 := by omega
  clear A43 L43 W43 n41
  obtain ⟨H45, e45, e⟩ := ob_get e
  obtain ⟨h45, d45, t45, n45⟩ := t44.W (by omega) e45
  first | rw [d45, bind_some'] | rw [t18.n, d45, bind_some']
  have A45 : a < gN H45 := by omega
  have L45 : gN H ≤ gN H45 := by omega
  have W45 : gN H18 < gN H45 := by omega
  clear A44 L44 W44 n42
  obtain ⟨H46, e46, e⟩ := ob_get e
  obtain ⟨h46, d46, t46, n46⟩ := t45.W (by omega) e46
  first | rw [d46, bind_some'] | rw [t18.n, d46, bind_some']
  have A46 : a < gN H46 := by omega
  have L46 : gN H ≤ gN H46 := by omega
  have W46 : gN H18 < gN H46 := by omega
  clear A45 L45 W45 n43
  obtain ⟨H47, e47, e⟩ := ob_get e
  obtain ⟨h47, d47, t47, n47⟩ := t46.W (by omega) e47
  first | rw [d47, bind_some'] | rw [t18.n, d47, bind_some']
  have A47 : a < gN H47 := by omega
  have L47 : gN H ≤ gN H47 := by omega
  have W47 : gN H18 < gN H47 := by omega
  clear A46 L46 W46 n44
  obtain ⟨H48, e48, e⟩ := ob_get e
  obtain ⟨h48, d48, t48, n48⟩ := t47.W (by omega) e48
  first | rw [d48, bind_some'] | rw [t18.n, d48, bind_some']
  have A48 : a < gN H48 := by omega
  have L48 : gN H ≤ gN H48 := by omega
  have W48 : gN H18 < gN H48 := by omega
  clear A47 L47 W47 n45
  obtain ⟨H49, e49, e⟩ := ob_get e
  obtain ⟨h49, d49, t49, n49⟩ := t48.W (by omega) e49
  first | rw [d49, bind_some'] | rw [t18.n, d49, bind_some']
  have A49 : a < gN H49 := by omega
  have L49 : gN H ≤ gN H49 := by omega
  have W49 : gN H18 < gN H49 := by omega
  clear A48 L48 W48 n46
  obtain ⟨H50, e50, e⟩ := ob_get e
  obtain ⟨h50, d50, t50, n50⟩ := t49.W (by omega) e50
  first | rw [d50, bind_some'] | rw [t18.n, d50, bind_some']
  have A50 : a < gN H50 := by omega
  have L50 : gN H ≤ gN H50 := by omega
  have W50 : gN H18 < gN H50 := by omega
  clear A49 L49 W49 n47
  obtain ⟨H51, e51, e⟩ := ob_get e
  obtain ⟨h51, d51, t51, n51⟩ := t50.W (by omega) e51
  first | rw [d51, bind_some'] | rw [t18.n, d51, bind_some']
  have A51 : a < gN H51 := by omega
  have L51 : gN H ≤ gN H51 := by omega
  have W51 : gN H18 < gN H51 := by omega
  clear A50 L50 W50 n48
  obtain ⟨H52, e52, e⟩ := ob_get e
  obtain ⟨h52, d52, t52, n52⟩ := t51.W (by omega) e52
  first | rw [d52, bind_some'] | rw [t18.n, d52, bind_some']
  have A52 : a < gN H52 := by omega
  have L52 : gN H ≤ gN H52 := by omega
  have W52 : gN H18 < gN H52 := by omega
  clear A51 L51 W51 n49
  obtain ⟨H53, e53, e⟩ := ob_get e
  obtain ⟨h53, d53, t53, n53⟩ := t52.W (by omega) e53
  first | rw [d53, bind_some'] | rw [t18.n, d53, bind_some']
  have A53 : a < gN H53 := by omega
  have L53 : gN H ≤ gN H53 := by omega
  have W53 : gN H18 < gN H53 := by omega
  clear A52 L52 W52 n50
  obtain ⟨H54, e54, e⟩ := ob_get e
  obtain ⟨h54, d54, t54, n54⟩ := t53.W (by omega) e54
  first | rw [d54, bind_some'] | rw [t18.n, d54, bind_some']
  have A54 : a < gN H54 := by omega
  have L54 : gN H ≤ gN H54 := by omega
  have W54 : gN H18 < gN H54 := by omega
  clear A53 L53 W53 n51
  obtain ⟨H55, e55, e⟩ := ob_get e
  obtain ⟨h55, d55, t55, n55⟩ := t54.W (by omega) e55
  first | rw [d55, bind_some'] | rw [t18.n, d55, bind_some']
  have A55 : a < gN H55 := by omega
  have L55 : gN H ≤ gN H55 := by omega
  have W55 : gN H18 < gN H55 := by omega
  clear A54 L54 W54 n52
  obtain ⟨H56, e56, e⟩ := ob_get e
  obtain ⟨h56, d56, t56, n56⟩ := t55.W (by omega) e56
  first | rw [d56, bind_some'] | rw [t18.n, d56, bind_some']
  have A56 : a < gN H56 := by omega
  have L56 : gN H ≤ gN H56 := by omega
  have W56 : gN H18 < gN H56 := by omega
  clear A55 L55 W55 n53
  obtain ⟨H57, e57, e⟩ := ob_get e
  obtain ⟨h57, d57, t57, n57⟩ := t56.W (by omega) e57
  first | rw [d57, bind_some'] | rw [t18.n, d57, bind_some']
  have A57 : a < gN H57 := by omega
  have L57 : gN H ≤ gN H57 := by omega
  have W57 : gN H18 < gN H57 := by omega
  clear A56 L56 W56 n54
  obtain ⟨H58, e58, e⟩ := ob_get e
  obtain ⟨h58, d58, t58, n58⟩ := t57.W (by omega) e58
  first | rw [d58, bind_some'] | rw [t18.n, d58, bind_some']
  have A58 : a < gN H58 := by omega
  have L58 : gN H ≤ gN H58 := by omega
  have W58 : gN H18 < gN H58 := by omega
  clear A57 L57 W57 n55
  obtain ⟨H59, e59, e⟩ := ob_get e
  obtain ⟨h59, d59, t59, n59⟩ := t58.W (by omega) e59
  first | rw [d59, bind_some'] | rw [t18.n, d59, bind_some']
  have A59 : a < gN H59 := by omega
  have L59 : gN H ≤ gN H59 := by omega
  have W59 : gN H18 < gN H59 := by omega
  clear A58 L58 W58 n56
  obtain ⟨H60, e60, e⟩ := ob_get e
  obtain ⟨h60, d60, t60, n60⟩ := t59.W (by omega) e60
  first | rw [d60, bind_some'] | rw [t18.n, d60, bind_some']
  have A60 : a < gN H60 := by omega
  have L60 : gN H ≤ gN H60 := by omega
  have W60 : gN H18 < gN H60 := by omega
  clear A59 L59 W59 n57
  obtain ⟨H61, e61, e⟩ := ob_get e
  obtain ⟨h61, d61, t61, n61⟩ := t60.W (by omega) e61
  first | rw [d61, bind_some'] | rw [t18.n, d61, bind_some']
  have A61 : a < gN H61 := by omega
  have L61 : gN H ≤ gN H61 := by omega
  have W61 : gN H18 < gN H61 := by omega
  clear A60 L60 W60 n58
  obtain ⟨H62, e62, e⟩ := ob_get e
  obtain ⟨h62, d62, t62, n62⟩ := t61.W (by omega) e62
  first | rw [d62, bind_some'] | rw [t18.n, d62, bind_some']
  have A62 : a < gN H62 := by omega
  have L62 : gN H ≤ gN H62 := by omega
  have W62 : gN H18 < gN H62 := by omega
  clear A61 L61 W61 n59
  obtain ⟨H63, e63, e⟩ := ob_get e
  obtain ⟨h63, d63, t63, n63⟩ := t62.W (by omega) e63
  first | rw [d63, bind_some'] | rw [t18.n, d63, bind_some']
  have A63 : a < gN H63 := by omega
  have L63 : gN H ≤ gN H63 := by omega
  have W63 : gN H18 < gN H63 := by omega
  clear A62 L62 W62 n60
  obtain ⟨H64, e64, e⟩ := ob_get e
  obtain ⟨h64, d64, t64, n64⟩ := t63.W (by omega) e64
  first | rw [d64, bind_some'] | rw [t18.n, d64, bind_some']
  have A64 : a < gN H64 := by omega
  have L64 : gN H ≤ gN H64 := by omega
  have W64 : gN H18 < gN H64 := by omega
  clear A63 L63 W63 n61
  obtain ⟨H65, e65, e⟩ := ob_get e
  obtain ⟨h65, d65, t65, n65⟩ := t64.W (by omega) e65
  first | rw [d65, bind_some'] | rw [t18.n, d65, bind_some']
  have A65 : a < gN H65 := by omega
  have L65 : gN H ≤ gN H65 := by omega
  have W65 : gN H18 < gN H65 := by omega
  clear A64 L64 W64 n62
  obtain ⟨H66, e66, e⟩ := ob_get e
  obtain ⟨h66, d66, t66, n66⟩ := t65.W (by omega) e66
  first | rw [d66, bind_some'] | rw [t18.n, d66, bind_some']
  have A66 : a < gN H66 := by omega
  have L66 : gN H ≤ gN H66 := by omega
  have W66 : gN H18 < gN H66 := by omega
  clear A65 L65 W65 n63
  obtain ⟨H67, e67, e⟩ := ob_get e
  obtain ⟨h67, d67, t67, n67⟩ := t66.W (by omega) e67
  first | rw [d67, bind_some'] | rw [t18.n, d67, bind_some']
  have A67 : a < gN H67 := by omega
  have L67 : gN H ≤ gN H67 := by omega
  have W67 : gN H18 < gN H67 := by omega
  clear A66 L66 W66 n64
  obtain ⟨H68, e68, e⟩ := ob_get e
  obtain ⟨h68, d68, t68, n68⟩ := t67.W (by omega) e68
  first | rw [d68, bind_some'] | rw [t18.n, d68, bind_some']
  have A68 : a < gN H68 := by omega
  have L68 : gN H ≤ gN H68 := by omega
  have W68 : gN H18 < gN H68 := by omega
  clear A67 L67 W67 n65
  obtain ⟨H69, e69, e⟩ := ob_get e
  obtain ⟨h69, d69, t69, n69⟩ := t68.W (by omega) e69
  first | rw [d69, bind_some'] | rw [t18.n, d69, bind_some']
  have A69 : a < gN H69 := by omega
  have L69 : gN H ≤ gN H69 := by omega
  have W69 : gN H18 < gN H69 := by omega
  clear A68 L68 W68 n66
  obtain ⟨H70, e70, e⟩ := ob_get e
  obtain ⟨h70, d70, t70, n70⟩ := t69.W (by omega) e70
  first | rw [d70, bind_some'] | rw [t18.n, d70, bind_some']
  have A70 : a < gN H70 := by omega
  have L70 : gN H ≤ gN H70 := by omega
  have W70 : gN H18 < gN H70 := by omega
  clear A69 L69 W69 n67
  obtain ⟨H71, e71, e⟩ := ob_get e
  obtain ⟨h71, d71, t71, n71⟩ := t70.W (by omega) e71
  first | rw [d71, bind_some'] | rw [t18.n, d71, bind_some']
  have A71 : a < gN H71 := by omega
  have L71 : gN H ≤ gN H71 := by omega
  have W71 : gN H18 < gN H71 := by omega
  clear A70 L70 W70 n68
  obtain ⟨H72, e72, e⟩ := ob_get e
  obtain ⟨h72, d72, t72, n72⟩ := t71.W (by omega) e72
  first | rw [d72, bind_some'] | rw [t18.n, d72, bind_some']
  have A72 : a < gN H72 := by omega
  have L72 : gN H ≤ gN H72 := by omega
  have W72 : gN H18 < gN H72 := by omega
  clear A71 L71 W71 n69
  obtain ⟨H73, e73, e⟩ := ob_get e
  obtain ⟨h73, d73, t73, n73⟩ := t72.W (by omega) e73
  first | rw [d73, bind_some'] | rw [t18.n, d73, bind_some']
  have A73 : a < gN H73 := by omega
  have L73 : gN H ≤ gN H73 := by omega
  have W73 : gN H18 < gN H73 := by omega
  clear A72 L72 W72 n70
  obtain ⟨H74, e74, e⟩ := ob_get e
  obtain ⟨h74, d74, t74, n74⟩ := t73.W (by omega) e74
  first | rw [d74, bind_some'] | rw [t18.n, d74, bind_some']
  have A74 : a < gN H74 := by omega
  have L74 : gN H ≤ gN H74 := by omega
  have W74 : gN H18 < gN H74 := by omega
  clear A73 L73 W73 n71
  obtain ⟨H75, e75, e⟩ := ob_get e
  obtain ⟨h75, d75, t75, n75⟩ := t74.W (by omega) e75
  first | rw [d75, bind_some'] | rw [t18.n, d75, bind_some']
  have A75 : a < gN H75 := by omega
  have L75 : gN H ≤ gN H75 := by omega
  have W75 : gN H18 < gN H75 := by omega
  clear A74 L74 W74 n72
  obtain ⟨H76, e76, e⟩ := ob_get e
  obtain ⟨h76, d76, t76, n76⟩ := t75.W (by omega) e76
  first | rw [d76, bind_some'] | rw [t18.n, d76, bind_some']
  have A76 : a < gN H76 := by omega
  have L76 : gN H ≤ gN H76 := by omega
  have W76 : gN H18 < gN H76 := by omega
  clear A75 L75 W75 n73
  obtain ⟨H77, e77, e⟩ := ob_get e
  obtain ⟨h77, d77, t77, n77⟩ := t76.W (by omega) e77
  first | rw [d77, bind_some'] | rw [t18.n, d77, bind_some']
  have A77 : a < gN H77 := by omega
  have L77 : gN H ≤ gN H77 := by omega
  have W77 : gN H18 < gN H77 := by omega
  clear A76 L76 W76 n74
  obtain ⟨H78, e78, e⟩ := ob_get e
  obtain ⟨h78, d78, t78, n78⟩ := t77.W (by omega) e78
  first | rw [d78, bind_some'] | rw [t18.n, d78, bind_some']
  have A78 : a < gN H78 := by omega
  have L78 : gN H ≤ gN H78 := by omega
  have W78 : gN H18 < gN H78 := by omega
  clear A77 L77 W77 n75
  obtain ⟨H79, e79, e⟩ := ob_get e
  obtain ⟨h79, d79, t79, n79⟩ := t78.W (by omega) e79
  first | rw [d79, bind_some'] | rw [t18.n, d79, bind_some']
  have A79 : a < gN H79 := by omega
  have L79 : gN H ≤ gN H79 := by omega
  have W79 : gN H18 < gN H79 := by omega
  clear A78 L78 W78 n76
  obtain ⟨H80, e80, e⟩ := ob_get e
  obtain ⟨h80, d80, t80, n80⟩ := t79.W (by omega) e80
  first | rw [d80, bind_some'] | rw [t18.n, d80, bind_some']
  have A80 : a < gN H80 := by omega
  have L80 : gN H ≤ gN H80 := by omega
  have W80 : gN H18 < gN H80 := by omega
  clear A79 L79 W79 n77
  obtain ⟨H81, e81, e⟩ := ob_get e
  obtain ⟨h81, d81, t81, n81⟩ := t80.W (by omega) e81
  first | rw [d81, bind_some'] | rw [t18.n, d81, bind_some']
  have A81 : a < gN H81 := by omega
  have L81 : gN H ≤ gN H81 := by omega
  have W81 : gN H18 < gN H81 := by omega
  clear A80 L80 W80 n78
  obtain ⟨H82, e82, e⟩ := ob_get e
  obtain ⟨h82, d82, t82, n82⟩ := t81.W (by omega) e82
  first | rw [d82, bind_some'] | rw [t18.n, d82, bind_some']
  have A82 : a < gN H82 := by omega
  have L82 : gN H ≤ gN H82 := by omega
  have W82 : gN H18 < gN H82 := by omega
  clear A81 L81 W81 n79
  obtain ⟨H83, e83, e⟩ := ob_get e
  obtain ⟨h83, d83, t83, n83⟩ := t82.W (by omega) e83
  first | rw [d83, bind_some'] | rw [t18.n, d83, bind_some']
  have A83 : a < gN H83 := by omega
  have L83 : gN H ≤ gN H83 := by omega
  have W83 : gN H18 < gN H83 := by omega
  clear A82 L82 W82 n80
  obtain ⟨H84, e84, e⟩ := ob_get e
  obtain ⟨h84, d84, t84, n84⟩ := t83.W (by omega) e84
  first | rw [d84, bind_some'] | rw [t18.n, d84, bind_some']
  have A84 : a < gN H84 := by omega
  have L84 : gN H ≤ gN H84 := by omega
  have W84 : gN H18 < gN H84 := by omega
  clear A83 L83 W83 n81
  obtain ⟨H85, e85, e⟩ := ob_get e
  obtain ⟨h85, d85, t85, n85⟩ := t84.W (by omega) e85
  first | rw [d85, bind_some'] | rw [t18.n, d85, bind_some']
  have A85 : a < gN H85 := by omega
  have L85 : gN H ≤ gN H85 := by omega
  have W85 : gN H18 < gN H85 := by omega
  clear A84 L84 W84 n82
  obtain ⟨H86, e86, e⟩ := ob_get e
  obtain ⟨h86, d86, t86, n86⟩ := t85.W (by omega) e86
  first | rw [d86, bind_some'] | rw [t18.n, d86, bind_some']
  have A86 : a < gN H86 := by omega
  have L86 : gN H ≤ gN H86 := by omega
  have W86 : gN H18 < gN H86 := by omega
  clear A85 L85 W85 n83
  obtain ⟨H87, e87, e⟩ := ob_get e
  obtain ⟨h87, d87, t87, n87⟩ := t86.W (by omega) e87
  first | rw [d87, bind_some'] | rw [t18.n, d87, bind_some']
  have A87 : a < gN H87 := by omega
  have L87 : gN H ≤ gN H87 := by omega
  have W87 : gN H18 < gN H87 := by omega
  clear A86 L86 W86 n84
  obtain ⟨H88, e88, e⟩ := ob_get e
  obtain ⟨h88, d88, t88, n88⟩ := t87.W (by omega) e88
  first | rw [d88, bind_some'] | rw [t18.n, d88, bind_some']
  have A88 : a < gN H88 := by omega
  have L88 : gN H ≤ gN H88 := by omega
  have W88 : gN H18 < gN H88 := by omega
  clear A87 L87 W87 n85
  obtain ⟨H89, e89, e⟩ := ob_get e
  obtain ⟨h89, d89, t89, n89⟩ := t88.W (by omega) e89
  first | rw [d89, bind_some'] | rw [t18.n, d89, bind_some']
  have A89 : a < gN H89 := by omega
  have L89 : gN H ≤ gN H89 := by omega
  have W89 : gN H18 < gN H89 := by omega
  clear A88 L88 W88 n86
  obtain ⟨H90, e90, e⟩ := ob_get e
  obtain ⟨h90, d90, t90, n90⟩ := t89.W (by omega) e90
  first | rw [d90, bind_some'] | rw [t18.n, d90, bind_some']
  have A90 : a < gN H90 := by omega
  have L90 : gN H ≤ gN H90 := by omega
  have W90 : gN H18 < gN H90 := by omega
  clear A89 L89 W89 n87
  obtain ⟨H91, e91, e⟩ := ob_get e
  obtain ⟨h91, d91, t91, n91⟩ := t90.W (by omega) e91
  first | rw [d91, bind_some'] | rw [t18.n, d91, bind_some']
  have A91 : a < gN H91 := by omega
  have L91 : gN H ≤ gN H91 := by omega
  have W91 : gN H18 < gN H91 := by omega
  clear A90 L90 W90 n88
  obtain ⟨H92, e92, e⟩ := ob_get e
  obtain ⟨h92, d92, t92, n92⟩ := t91.W (by omega) e92
  first | rw [d92, bind_some'] | rw [t18.n, d92, bind_some']
  have A92 : a < gN H92 := by omega
  have L92 : gN H ≤ gN H92 := by omega
  have W92 : gN H18 < gN H92 := by omega
  clear A91 L91 W91 n89
  obtain ⟨H93, e93, e⟩ := ob_get e
  obtain ⟨h93, d93, t93, n93⟩ := t92.W (by omega) e93
  first | rw [d93, bind_some'] | rw [t18.n, d93, bind_some']
  have A93 : a < gN H93 := by omega
  have L93 : gN H ≤ gN H93 := by omega
  have W93 : gN H18 < gN H93 := by omega
  clear A92 L92 W92 n90
  obtain ⟨H94, e94, e⟩ := ob_get e
  obtain ⟨h94, d94, t94, n94⟩ := t93.W (by omega) e94
  first | rw [d94, bind_some'] | rw [t18.n, d94, bind_some']
  have A94 : a < gN H94 := by omega
  have L94 : gN H ≤ gN H94 := by omega
  have W94 : gN H18 < gN H94 := by omega
  clear A93 L93 W93 n91
  obtain ⟨H95, e95, e⟩ := ob_get e
  obtain ⟨h95, d95, t95, n95⟩ := t94.W (by omega) e95
  first | rw [d95, bind_some'] | rw [t18.n, d95, bind_some']
  have A95 : a < gN H95 := by omega
  have L95 : gN H ≤ gN H95 := by omega
  have W95 : gN H18 < gN H95 := by omega
  clear A94 L94 W94 n92
  obtain ⟨H96, e96, e⟩ := ob_get e
  obtain ⟨h96, d96, t96, n96⟩ := t95.W (by omega) e96
  first | rw [d96, bind_some'] | rw [t18.n, d96, bind_some']
  have A96 : a < gN H96 := by omega
  have L96 : gN H ≤ gN H96 := by omega
  have W96 : gN H18 < gN H96 := by omega
  clear A95 L95 W95 n93
  obtain ⟨H97, e97, e⟩ := ob_get e
  obtain ⟨h97, d97, t97, n97⟩ := t96.W (by omega) e97
  first | rw [d97, bind_some'] | rw [t18.n, d97, bind_some']
  have A97 : a < gN H97 := by omega
  have L97 : gN H ≤ gN H97 := by omega
  have W97 : gN H18 < gN H97 := by omega
  clear A96 L96 W96 n94
  obtain ⟨H98, e98, e⟩ := ob_get e
  obtain ⟨h98, d98, t98, n98⟩ := t97.W (by omega) e98
  first | rw [d98, bind_some'] | rw [t18.n, d98, bind_some']
  have A98 : a < gN H98 := by omega
  have L98 : gN H ≤ gN H98 := by omega
  have W98 : gN H18 < gN H98 := by omega
  clear A97 L97 W97 n95
  obtain ⟨H99, e99, e⟩ := ob_get e
  obtain ⟨h99, d99, t99, n99⟩ := t98.W (by omega) e99
  first | rw [d99, bind_some'] | rw [t18.n, d99, bind_some']
  have A99 : a < gN H99 := by omega
  have L99 : gN H ≤ gN H99 := by omega
  have W99 : gN H18 < gN H99 := by omega
  clear A98 L98 W98 n96
  obtain ⟨H100, e100, e⟩ := ob_get e
  obtain ⟨h100, d100, t100, n100⟩ := t99.W (by omega) e100
  first | rw [d100, bind_some'] | rw [t18.n, d100, bind_some']
  have A100 : a < gN H100 := by omega
  have L100 : gN H ≤ gN H100 := by omega
  have W100 : gN H18 < gN H100 := by omega
  clear A99 L99 W99 n97
  obtain ⟨H101, e101, e⟩ := ob_get e
  obtain ⟨h101, d101, t101, n101⟩ := t100.W (by omega) e101
  first | rw [d101, bind_some'] | rw [t18.n, d101, bind_some']
  have A101 : a < gN H101 := by omega
  have L101 : gN H ≤ gN H101 := by omega
  have W101 : gN H18 < gN H101 := by omega
  clear A100 L100 W100 n98
  obtain ⟨H102, e102, e⟩ := ob_get e
  obtain ⟨h102, d102, t102, n102⟩ := t101.W (by omega) e102
  first | rw [d102, bind_some'] | rw [t18.n, d102, bind_some']
  have A102 : a < gN H102 := by omega
  have L102 : gN H ≤ gN H102 := by omega
  have W102 : gN H18 < gN H102 := by omega
  clear A101 L101 W101 n99
  obtain ⟨H103, e103, e⟩ := ob_get e
  obtain ⟨h103, d103, t103, n103⟩ := t102.W (by omega) e103
  first | rw [d103, bind_some'] | rw [t18.n, d103, bind_some']
  have A103 : a < gN H103 := by omega
  have L103 : gN H ≤ gN H103 := by omega
  have W103 : gN H18 < gN H103 := by omega
  clear A102 L102 W102 n100
  obtain ⟨H104, e104, e⟩ := ob_get e
  obtain ⟨h104, d104, t104, n104⟩ := t103.W (by omega) e104
  first | rw [d104, bind_some'] | rw [t18.n, d104, bind_some']
  have A104 : a < gN H104 := by omega
  have L104 : gN H ≤ gN H104 := by omega
  have W104 : gN H18 < gN H104 := by omega
  clear A103 L103 W103 n101
  obtain ⟨H105, e105, e⟩ := ob_get e
  obtain ⟨h105, d105, t105, n105⟩ := t104.W (by omega) e105
  first | rw [d105, bind_some'] | rw [t18.n, d105, bind_some']
  have A105 : a < gN H105 := by omega
  have L105 : gN H ≤ gN H105 := by omega
  have W105 : gN H18 < gN H105 := by omega
  clear A104 L104 W104 n102
  obtain ⟨H106, e106, e⟩ := ob_get e
  obtain ⟨h106, d106, t106, n106⟩ := t105.W (by omega) e106
  first | rw [d106, bind_some'] | rw [t18.n, d106, bind_some']
  have A106 : a < gN H106 := by omega
  have L106 : gN H ≤ gN H106 := by omega
  have W106 : gN H18 < gN H106 := by omega
  clear A105 L105 W105 n103
  obtain ⟨H107, e107, e⟩ := ob_get e
  obtain ⟨h107, d107, t107, n107⟩ := t106.W (by omega) e107
  first | rw [d107, bind_some'] | rw [t18.n, d107, bind_some']
  have A107 : a < gN H107 := by omega
  have L107 : gN H ≤ gN H107 := by omega
  have W107 : gN H18 < gN H107 := by omega
  clear A106 L106 W106 n104
  obtain ⟨H108, e108, e⟩ := ob_get e
  obtain ⟨h108, d108, t108, n108⟩ := t107.W (by omega) e108
  first | rw [d108, bind_some'] | rw [t18.n, d108, bind_some']
  have A108 : a < gN H108 := by omega
  have L108 : gN H ≤ gN H108 := by omega
  have W108 : gN H18 < gN H108 := by omega
  clear A107 L107 W107 n105
  obtain ⟨H109, e109, e⟩ := ob_get e
  obtain ⟨h109, d109, t109, n109⟩ := t108.W (by omega) e109
  first | rw [d109, bind_some'] | rw [t18.n, d109, bind_some']
  have A109 : a < gN H109 := by omega
  have L109 : gN H ≤ gN H109 := by omega
  have W109 : gN H18 < gN H109 := by omega
  clear A108 L108 W108 n106
  obtain ⟨H110, e110, e⟩ := ob_get e
  obtain ⟨h110, d110, t110, n110⟩ := t109.W (by omega) e110
  first | rw [d110, bind_some'] | rw [t18.n, d110, bind_some']
  have A110 : a < gN H110 := by omega
  have L110 : gN H ≤ gN H110 := by omega
  have W110 : gN H18 < gN H110 := by omega
  clear A109 L109 W109 n107
  obtain ⟨H111, e111, e⟩ := ob_get e
  obtain ⟨h111, d111, t111, n111⟩ := t110.W (by omega) e111
  first | rw [d111, bind_some'] | rw [t18.n, d111, bind_some']
  have A111 : a < gN H111 := by omega
  have L111 : gN H ≤ gN H111 := by omega
  have W111 : gN H18 < gN H111 := by omega
  clear A110 L110 W110 n108
  obtain ⟨H112, e112, e⟩ := ob_get e
  obtain ⟨h112, d112, t112, n112⟩ := t111.W (by omega) e112
  first | rw [d112, bind_some'] | rw [t18.n, d112, bind_some']
  have A112 : a < gN H112 := by omega
  have L112 : gN H ≤ gN H112 := by omega
  have W112 : gN H18 < gN H112 := by omega
  clear A111 L111 W111 n109
  obtain ⟨H113, e113, e⟩ := ob_get e
  obtain ⟨h113, d113, t113, n113⟩ := t112.W (by omega) e113
  first | rw [d113, bind_some'] | rw [t18.n, d113, bind_some']
  have A113 : a < gN H113 := by omega
  have L113 : gN H ≤ gN H113 := by omega
  have W113 : gN H18 < gN H113 := by omega
  clear A112 L112 W112 n110
  obtain ⟨H114, e114, e⟩ := ob_get e
  obtain ⟨h114, d114, t114, n114⟩ := t113.W (by omega) e114
  first | rw [d114, bind_some'] | rw [t18.n, d114, bind_some']
  have A114 : a < gN H114 := by omega
  have L114 : gN H ≤ gN H114 := by omega
  have W114 : gN H18 < gN H114 := by omega
  clear A113 L113 W113 n111
  obtain ⟨H115, e115, e⟩ := ob_get e
  obtain ⟨h115, d115, t115, n115⟩ := t114.W (by omega) e115
  first | rw [d115, bind_some'] | rw [t18.n, d115, bind_some']
  have A115 : a < gN H115 := by omega
  have L115 : gN H ≤ gN H115 := by omega
  have W115 : gN H18 < gN H115 := by omega
  clear A114 L114 W114 n112
  obtain ⟨H116, e116, e⟩ := ob_get e
  obtain ⟨h116, d116, t116, n116⟩ := t115.W (by omega) e116
  first | rw [d116, bind_some'] | rw [t18.n, d116, bind_some']
  have A116 : a < gN H116 := by omega
  have L116 : gN H ≤ gN H116 := by omega
  have W116 : gN H18 < gN H116 := by omega
  clear A115 L115 W115 n113
  obtain ⟨H117, e117, e⟩ := ob_get e
  obtain ⟨h117, d117, t117, n117⟩ := t116.W (by omega) e117
  first | rw [d117, bind_some'] | rw [t18.n, d117, bind_some']
  have A117 : a < gN H117 := by omega
  have L117 : gN H ≤ gN H117 := by omega
  have W117 : gN H18 < gN H117 := by omega
  clear A116 L116 W116 n114
  obtain ⟨H118, e118, e⟩ := ob_get e
  obtain ⟨h118, d118, t118, n118⟩ := t117.W (by omega) e118
  first | rw [d118, bind_some'] | rw [t18.n, d118, bind_some']
  have A118 : a < gN H118 := by omega
  have L118 : gN H ≤ gN H118 := by omega
  have W118 : gN H18 < gN H118 := by omega
  clear A117 L117 W117 n115
  obtain ⟨H119, e119, e⟩ := ob_get e
  obtain ⟨h119, d119, t119, n119⟩ := t118.W (by omega) e119
  first | rw [d119, bind_some'] | rw [t18.n, d119, bind_some']
  have A119 : a < gN H119 := by omega
  have L119 : gN H ≤ gN H119 := by omega
  have W119 : gN H18 < gN H119 := by omega
  clear A118 L118 W118 n116
  obtain ⟨H120, e120, e⟩ := ob_get e
  obtain ⟨h120, d120, t120, n120⟩ := t119.W (by omega) e120
  first | rw [d120, bind_some'] | rw [t18.n, d120, bind_some']
  have A120 : a < gN H120 := by omega
  have L120 : gN H ≤ gN H120 := by omega
  have W120 : gN H18 < gN H120 := by omega
  clear A119 L119 W119 n117
  obtain ⟨H121, e121, e⟩ := ob_get e
  obtain ⟨h121, d121, t121, n121⟩ := t120.W (by omega) e121
  first | rw [d121, bind_some'] | rw [t18.n, d121, bind_some']
  have A121 : a < gN H121 := by omega
  have L121 : gN H ≤ gN H121 := by omega
  have W121 : gN H18 < gN H121 := by omega
  clear A120 L120 W120 n118
  obtain ⟨H122, e122, e⟩ := ob_get e
  obtain ⟨h122, d122, t122, n122⟩ := t121.W (by omega) e122
  first | rw [d122, bind_some'] | rw [t18.n, d122, bind_some']
  have A122 : a < gN H122 := by omega
  have L122 : gN H ≤ gN H122 := by omega
  have W122 : gN H18 < gN H122 := by omega
  clear A121 L121 W121 n119
  obtain ⟨H123, e123, e⟩ := ob_get e
  obtain ⟨h123, d123, t123, n123⟩ := t122.W (by omega) e123
  first | rw [d123, bind_some'] | rw [t18.n, d123, bind_some']
  have A123 : a < gN H123 := by omega
  have L123 : gN H ≤ gN H123 := by omega
  have W123 : gN H18 < gN H123 := by omega
  clear A122 L122 W122 n120
  obtain ⟨H124, e124, e⟩ := ob_get e
  obtain ⟨h124, d124, t124, n124⟩ := t123.W (by omega) e124
  first | rw [d124, bind_some'] | rw [t18.n, d124, bind_some']
  have A124 : a < gN H124 := by omega
  have L124 : gN H ≤ gN H124 := by omega
  have W124 : gN H18 < gN H124 := by omega
  clear A123 L123 W123 n121
  obtain ⟨H125, e125, e⟩ := ob_get e
  obtain ⟨h125, d125, t125, n125⟩ := t124.W (by omega) e125
  first | rw [d125, bind_some'] | rw [t18.n, d125, bind_some']
  have A125 : a < gN H125 := by omega
  have L125 : gN H ≤ gN H125 := by omega
  have W125 : gN H18 < gN H125 := by omega
  clear A124 L124 W124 n122
  obtain ⟨H126, e126, e⟩ := ob_get e
  obtain ⟨h126, d126, t126, n126⟩ := t125.W (by omega) e126
  first | rw [d126, bind_some'] | rw [t18.n, d126, bind_some']
  have A126 : a < gN H126 := by omega
  have L126 : gN H ≤ gN H126 := by omega
  have W126 : gN H18 < gN H126 := by omega
  clear A125 L125 W125 n123
  obtain ⟨H127, e127, e⟩ := ob_get e
  obtain ⟨h127, d127, t127, n127⟩ := t126.W (by omega) e127
  first | rw [d127, bind_some'] | rw [t18.n, d127, bind_some']
  have A127 : a < gN H127 := by omega
  have L127 : gN H ≤ gN H127 := by omega
  have W127 : gN H18 < gN H127 := by omega
  clear A126 L126 W126 n124
  obtain ⟨H128, e128, e⟩ := ob_get e
  obtain ⟨h128, d128, t128, n128⟩ := t127.W (by omega) e128
  first | rw [d128, bind_some'] | rw [t18.n, d128, bind_some']
  have A128 : a < gN H128 := by omega
  have L128 : gN H ≤ gN H128 := by omega
  have W128 : gN H18 < gN H128 := by omega
  clear A127 L127 W127 n125
  obtain ⟨H129, e129, e⟩ := ob_get e
  obtain ⟨h129, d129, t129, n129⟩ := t128.W (by omega) e129
  first | rw [d129, bind_some'] | rw [t18.n, d129, bind_some']
  have A129 : a < gN H129 := by omega
  have L129 : gN H ≤ gN H129 := by omega
  have W129 : gN H18 < gN H129 := by omega
  clear A128 L128 W128 n126
  obtain ⟨H130, e130, e⟩ := ob_get e
  obtain ⟨h130, d130, t130, n130⟩ := t129.W (by omega) e130
  first | rw [d130, bind_some'] | rw [t18.n, d130, bind_some']
  have A130 : a < gN H130 := by omega
  have L130 : gN H ≤ gN H130 := by omega
  have W130 : gN H18 < gN H130 := by omega
  clear A129 L129 W129 n127
  obtain ⟨H131, e131, e⟩ := ob_get e
  obtain ⟨h131, d131, t131, n131⟩ := t130.W (by omega) e131
  first | rw [d131, bind_some'] | rw [t18.n, d131, bind_some']
  have A131 : a < gN H131 := by omega
  have L131 : gN H ≤ gN H131 := by omega
  have W131 : gN H18 < gN H131 := by omega
  clear A130 L130 W130 n128
  obtain ⟨H132, e132, e⟩ := ob_get e
  obtain ⟨h132, d132, t132, n132⟩ := t131.W (by omega) e132
  first | rw [d132, bind_some'] | rw [t18.n, d132, bind_some']
  have A132 : a < gN H132 := by omega
  have L132 : gN H ≤ gN H132 := by omega
  have W132 : gN H18 < gN H132 := by omega
  clear A131 L131 W131 n129
  obtain ⟨H133, e133, e⟩ := ob_get e
  obtain ⟨h133, d133, t133, n133⟩ := t132.W (by omega) e133
  first | rw [d133, bind_some'] | rw [t18.n, d133, bind_some']
  have A133 : a < gN H133 := by omega
  have L133 : gN H ≤ gN H133 := by omega
  have W133 : gN H18 < gN H133 := by omega
  clear A132 L132 W132 n130
  obtain ⟨H134, e134, e⟩ := ob_get e
  obtain ⟨h134, d134, t134, n134⟩ := t133.W (by omega) e134
  first | rw [d134, bind_some'] | rw [t18.n, d134, bind_some']
  have A134 : a < gN H134 := by omega
  have L134 : gN H ≤ gN H134 := by omega
  have W134 : gN H18 < gN H134 := by omega
  clear A133 L133 W133 n131
  obtain ⟨H135, e135, e⟩ := ob_get e
  obtain ⟨h135, d135, t135, n135⟩ := t134.W (by omega) e135
  first | rw [d135, bind_some'] | rw [t18.n, d135, bind_some']
  have A135 : a < gN H135 := by omega
  have L135 : gN H ≤ gN H135 := by omega
  have W135 : gN H18 < gN H135 := by omega
  clear A134 L134 W134 n132
  obtain ⟨H136, e136, e⟩ := ob_get e
  obtain ⟨h136, d136, t136, n136⟩ := t135.W (by omega) e136
  first | rw [d136, bind_some'] | rw [t18.n, d136, bind_some']
  have A136 : a < gN H136 := by omega
  have L136 : gN H ≤ gN H136 := by omega
  have W136 : gN H18 < gN H136 := by omega
  clear A135 L135 W135 n133
  obtain ⟨H137, e137, e⟩ := ob_get e
  obtain ⟨h137, d137, t137, n137⟩ := t136.W (by omega) e137
  first | rw [d137, bind_some'] | rw [t18.n, d137, bind_some']
  have A137 : a < gN H137 := by omega
  have L137 : gN H ≤ gN H137 := by omega
  have W137 : gN H18 < gN H137 := by omega
  clear A136 L136 W136 n134
  obtain ⟨H138, e138, e⟩ := ob_get e
  obtain ⟨h138, d138, t138, n138⟩ := t137.W (by omega) e138
  first | rw [d138, bind_some'] | rw [t18.n, d138, bind_some']
  have A138 : a < gN H138 := by omega
  have L138 : gN H ≤ gN H138 := by omega
  have W138 : gN H18 < gN H138 := by omega
  clear A137 L137 W137 n135
  obtain ⟨H139, e139, e⟩ := ob_get e
  obtain ⟨h139, d139, t139, n139⟩ := t138.W (by omega) e139
  first | rw [d139, bind_some'] | rw [t18.n, d139, bind_some']
  have A139 : a < gN H139 := by omega
  have L139 : gN H ≤ gN H139 := by omega
  have W139 : gN H18 < gN H139 := by omega
  clear A138 L138 W138 n136
  obtain ⟨H140, e140, e⟩ := ob_get e
  obtain ⟨h140, d140, t140, n140⟩ := t139.W (by omega) e140
  first | rw [d140, bind_some'] | rw [t18.n, d140, bind_some']
  have A140 : a < gN H140 := by omega
  have L140 : gN H ≤ gN H140 := by omega
  have W140 : gN H18 < gN H140 := by omega
  clear A139 L139 W139 n137
  obtain ⟨H141, e141, e⟩ := ob_get e
  obtain ⟨h141, d141, t141, n141⟩ := t140.W (by omega) e141
  first | rw [d141, bind_some'] | rw [t18.n, d141, bind_some']
  have A141 : a < gN H141 := by omega
  have L141 : gN H ≤ gN H141 := by omega
  have W141 : gN H18 < gN H141 := by omega
  clear A140 L140 W140 n138
  obtain ⟨H142, e142, e⟩ := ob_get e
  obtain ⟨h142, d142, t142, n142⟩ := t141.W (by omega) e142
  first | rw [d142, bind_some'] | rw [t18.n, d142, bind_some']
  have A142 : a < gN H142 := by omega
  have L142 : gN H ≤ gN H142 := by omega
  have W142 : gN H18 < gN H142 := by omega
  clear A141 L141 W141 n139
  obtain ⟨H143, e143, e⟩ := ob_get e
  obtain ⟨h143, d143, t143, n143⟩ := t142.W (by omega) e143
  first | rw [d143, bind_some'] | rw [t18.n, d143, bind_some']
  have A143 : a < gN H143 := by omega
  have L143 : gN H ≤ gN H143 := by omega
  have W143 : gN H18 < gN H143 := by omega
  clear A142 L142 W142 n140
  obtain ⟨H144, e144, e⟩ := ob_get e
  obtain ⟨h144, d144, t144, n144⟩ := t143.W (by omega) e144
  first | rw [d144, bind_some'] | rw [t18.n, d144, bind_some']
  have A144 : a < gN H144 := by omega
  have L144 : gN H ≤ gN H144 := by omega
  have W144 : gN H18 < gN H144 := by omega
  clear A143 L143 W143 n141
  obtain ⟨H145, e145, e⟩ := ob_get e
  obtain ⟨h145, d145, t145, n145⟩ := t144.W (by omega) e145
  first | rw [d145, bind_some'] | rw [t18.n, d145, bind_some']
  have A145 : a < gN H145 := by omega
  have L145 : gN H ≤ gN H145 := by omega
  have W145 : gN H18 < gN H145 := by omega
  clear A144 L144 W144 n142
  obtain ⟨H146, e146, e⟩ := ob_get e
  obtain ⟨h146, d146, t146, n146⟩ := t145.W (by omega) e146
  first | rw [d146, bind_some'] | rw [t18.n, d146, bind_some']
  have A146 : a < gN H146 := by omega
  have L146 : gN H ≤ gN H146 := by omega
  have W146 : gN H18 < gN H146 := by omega
  clear A145 L145 W145 n143
  obtain ⟨H147, e147, e⟩ := ob_get e
  obtain ⟨h147, d147, t147, n147⟩ := t146.W (by omega) e147
  first | rw [d147, bind_some'] | rw [t18.n, d147, bind_some']
  have A147 : a < gN H147 := by omega
  have L147 : gN H ≤ gN H147 := by omega
  have W147 : gN H18 < gN H147 := by omega
  clear A146 L146 W146 n144
  obtain ⟨H148, e148, e⟩ := ob_get e
  obtain ⟨h148, d148, t148, n148⟩ := t147.W (by omega) e148
  first | rw [d148, bind_some'] | rw [t18.n, d148, bind_some']
  have A148 : a < gN H148 := by omega
  have L148 : gN H ≤ gN H148 := by omega
  have W148 : gN H18 < gN H148 := by omega
  clear A147 L147 W147 n145
  obtain ⟨H149, e149, e⟩ := ob_get e
  obtain ⟨h149, d149, t149, n149⟩ := t148.W (by omega) e149
  first | rw [d149, bind_some'] | rw [t18.n, d149, bind_some']
  have A149 : a < gN H149 := by omega
  have L149 : gN H ≤ gN H149 := by omega
  have W149 : gN H18 < gN H149 := by omega
  clear A148 L148 W148 n146
  obtain ⟨H150, e150, e⟩ := ob_get e
  obtain ⟨h150, d150, t150, n150⟩ := t149.W (by omega) e150
  first | rw [d150, bind_some'] | rw [t18.n, d150, bind_some']
  have A150 : a < gN H150 := by omega
  have L150 : gN H ≤ gN H150 := by omega
  have W150 : gN H18 < gN H150 := by omega
  clear A149 L149 W149 n147
  obtain ⟨H151, e151, e⟩ := ob_get e
  obtain ⟨h151, d151, t151, n151⟩ := t150.W (by omega) e151
  first | rw [d151, bind_some'] | rw [t18.n, d151, bind_some']
  have A151 : a < gN H151 := by omega
  have L151 : gN H ≤ gN H151 := by omega
  have W151 : gN H18 < gN H151 := by omega
  clear A150 L150 W150 n148
  obtain ⟨H152, e152, e⟩ := ob_get e
  obtain ⟨h152, d152, t152, n152⟩ := t151.W (by omega) e152
  first | rw [d152, bind_some'] | rw [t18.n, d152, bind_some']
  have A152 : a < gN H152 := by omega
  have L152 : gN H ≤ gN H152 := by omega
  have W152 : gN H18 < gN H152 := by omega
  clear A151 L151 W151 n149
  obtain ⟨H153, e153, e⟩ := ob_get e
  obtain ⟨h153, d153, t153, n153⟩ := t152.W (by omega) e153
  first | rw [d153, bind_some'] | rw [t18.n, d153, bind_some']
  have A153 : a < gN H153 := by omega
  have L153 : gN H ≤ gN H153 := by omega
  have W153 : gN H18 < gN H153 := by omega
  clear A152 L152 W152 n150
  obtain ⟨H154, e154, e⟩ := ob_get e
  obtain ⟨h154, d154, t154, n154⟩ := t153.W (by omega) e154
  first | rw [d154, bind_some'] | rw [t18.n, d154, bind_some']
  have A154 : a < gN H154 := by omega
  have L154 : gN H ≤ gN H154 := by omega
  have W154 : gN H18 < gN H154 := by omega
  clear A153 L153 W153 n151
  obtain ⟨H155, e155, e⟩ := ob_get e
  obtain ⟨h155, d155, t155, n155⟩ := t154.W (by omega) e155
  first | rw [d155, bind_some'] | rw [t18.n, d155, bind_some']
  have A155 : a < gN H155 := by omega
  have L155 : gN H ≤ gN H155 := by omega
  have W155 : gN H18 < gN H155 := by omega
  clear A154 L154 W154 n152
  obtain ⟨H156, e156, e⟩ := ob_get e
  obtain ⟨h156, d156, t156, n156⟩ := t155.W (by omega) e156
  first | rw [d156, bind_some'] | rw [t18.n, d156, bind_some']
  have A156 : a < gN H156 := by omega
  have L156 : gN H ≤ gN H156 := by omega
  have W156 : gN H18 < gN H156 := by omega
  clear A155 L155 W155 n153
  obtain ⟨H157, e157, e⟩ := ob_get e
  obtain ⟨h157, d157, t157, n157⟩ := t156.W (by omega) e157
  first | rw [d157, bind_some'] | rw [t18.n, d157, bind_some']
  have A157 : a < gN H157 := by omega
  have L157 : gN H ≤ gN H157 := by omega
  have W157 : gN H18 < gN H157 := by omega
  clear A156 L156 W156 n154
  obtain ⟨H158, e158, e⟩ := ob_get e
  obtain ⟨h158, d158, t158, n158⟩ := t157.W (by omega) e158
  first | rw [d158, bind_some'] | rw [t18.n, d158, bind_some']
  have A158 : a < gN H158 := by omega
  have L158 : gN H ≤ gN H158 := by omega
  have W158 : gN H18 < gN H158 := by omega
  clear A157 L157 W157 n155
  obtain ⟨H159, e159, e⟩ := ob_get e
  obtain ⟨h159, d159, t159, n159⟩ := t158.W (by omega) e159
  first | rw [d159, bind_some'] | rw [t18.n, d159, bind_some']
  have A159 : a < gN H159 := by omega
  have L159 : gN H ≤ gN H159 := by omega
  have W159 : gN H18 < gN H159 := by omega
  clear A158 L158 W158 n156
  obtain ⟨H160, e160, e⟩ := ob_get e
  obtain ⟨h160, d160, t160, n160⟩ := t159.W (by omega) e160
  first | rw [d160, bind_some'] | rw [t18.n, d160, bind_some']
  have A160 : a < gN H160 := by omega
  have L160 : gN H ≤ gN H160 := by omega
  have W160 : gN H18 < gN H160 := by omega
  clear A159 L159 W159 n157
  obtain ⟨H161, e161, e⟩ := ob_get e
  obtain ⟨h161, d161, t161, n161⟩ := t160.W (by omega) e161
  first | rw [d161, bind_some'] | rw [t18.n, d161, bind_some']
  have A161 : a < gN H161 := by omega
  have L161 : gN H ≤ gN H161 := by omega
  have W161 : gN H18 < gN H161 := by omega
  clear A160 L160 W160 n158
  obtain ⟨H162, e162, e⟩ := ob_get e
  obtain ⟨h162, d162, t162, n162⟩ := t161.W (by omega) e162
  first | rw [d162, bind_some'] | rw [t18.n, d162, bind_some']
  have A162 : a < gN H162 := by omega
  have L162 : gN H ≤ gN H162 := by omega
  have W162 : gN H18 < gN H162 := by omega
  clear A161 L161 W161 n159
  obtain ⟨H163, e163, e⟩ := ob_get e
  obtain ⟨h163, d163, t163, n163⟩ := t162.W (by omega) e163
  first | rw [d163, bind_some'] | rw [t18.n, d163, bind_some']
  have A163 : a < gN H163 := by omega
  have L163 : gN H ≤ gN H163 := by omega
  have W163 : gN H18 < gN H163 := by omega
  clear A162 L162 W162 n160
  obtain ⟨H164, e164, e⟩ := ob_get e
  obtain ⟨h164, d164, t164, n164⟩ := t163.R (by omega) (fun x hx => by cases hx; omega) e164
  have c164 : stR h163 9 (b + a) 19 (some (b + gN H18)) = some h164 := d164
  have d164 : stR h163 9 (b + a) 19 (some (gN h18)) = some h164 := by rw [t18.n]; exact d164
  first | rw [d164, bind_some'] | rw [c164, bind_some']
  have A164 : a < gN H164 := by omega
  have L164 : gN H ≤ gN H164 := by omega
  have W164 : gN H18 < gN H164 := by omega
  clear A163 L163 W163 n161
  obtain ⟨H165, e165, e⟩ := ob_get e
  obtain ⟨h165, d165, t165, n165⟩ := t164.A e165
  rw [d165, bind_some']
  have A165 : a < gN H165 := by omega
  have L165 : gN H ≤ gN H165 := by omega
  have W165 : gN H18 < gN H165 := by omega
  clear A164 L164 W164 n162
  obtain ⟨H166, e166, e⟩ := ob_get e
  obtain ⟨h166, d166, t166, n166⟩ := t165.R (by omega) (fun x hx => by cases hx; omega) e166
  have c166 : stR h165 9 (b + a) 20 (some (b + gN H164)) = some h166 := d166
  have d166 : stR h165 9 (b + a) 20 (some (gN h164)) = some h166 := by rw [t164.n]; exact d166
  first | rw [d166, bind_some'] | rw [c166, bind_some']
  have A166 : a < gN H166 := by omega
  have L166 : gN H ≤ gN H166 := by omega
  have W166 : gN H18 < gN H166 := by omega
  clear A165 L165 W165 n163
  obtain ⟨H167, e167, e⟩ := ob_get e
  obtain ⟨h167, d167, t167, n167⟩ := t166.A e167
  rw [d167, bind_some']
  have A167 : a < gN H167 := by omega
  have L167 : gN H ≤ gN H167 := by omega
  have W167 : gN H18 < gN H167 := by omega
  clear A166 L166 W166 n164
  obtain ⟨H168, e168, e⟩ := ob_get e
  obtain ⟨h168, d168, t168, n168⟩ := t167.R (by omega) (fun x hx => by cases hx; omega) e168
  have c168 : stR h167 9 (b + a) 21 (some (b + gN H166)) = some h168 := d168
  have d168 : stR h167 9 (b + a) 21 (some (gN h166)) = some h168 := by rw [t166.n]; exact d168
  first | rw [d168, bind_some'] | rw [c168, bind_some']
  have A168 : a < gN H168 := by omega
  have L168 : gN H ≤ gN H168 := by omega
  have W168 : gN H18 < gN H168 := by omega
  clear A167 L167 W167 n165
  obtain ⟨H169, e169, e⟩ := ob_get e
  obtain ⟨h169, d169, t169, n169⟩ := t168.A e169
  rw [d169, bind_some']
  have A169 : a < gN H169 := by omega
  have L169 : gN H ≤ gN H169 := by omega
  have W169 : gN H18 < gN H169 := by omega
  clear A168 L168 W168 n166
  obtain ⟨H170, e170, e⟩ := ob_get e
  obtain ⟨h170, d170, t170, n170⟩ := t169.R (by omega) (fun x hx => by cases hx; omega) e170
  have c170 : stR h169 9 (b + a) 22 (some (b + gN H168)) = some h170 := d170
  have d170 : stR h169 9 (b + a) 22 (some (gN h168)) = some h170 := by rw [t168.n]; exact d170
  first | rw [d170, bind_some'] | rw [c170, bind_some']
  have A170 : a < gN H170 := by omega
  have L170 : gN H ≤ gN H170 := by omega
  have W170 : gN H18 < gN H170 := by omega
  clear A169 L169 W169 n167
  obtain ⟨H171, e171, e⟩ := ob_get e
  obtain ⟨h171, d171, t171, n171⟩ := t170.A e171
  rw [d171, bind_some']
  have A171 : a < gN H171 := by omega
  have L171 : gN H ≤ gN H171 := by omega
  have W171 : gN H18 < gN H171 := by omega
  clear A170 L170 W170 n168
  obtain ⟨H172, e172, e⟩ := ob_get e
  obtain ⟨h172, d172, t172, n172⟩ := t171.R (by omega) (fun x hx => by cases hx; omega) e172
  have c172 : stR h171 9 (b + a) 23 (some (b + gN H170)) = some h172 := d172
  have d172 : stR h171 9 (b + a) 23 (some (gN h170)) = some h172 := by rw [t170.n]; exact d172
  first | rw [d172, bind_some'] | rw [c172, bind_some']
  have A172 : a < gN H172 := by omega
  have L172 : gN H ≤ gN H172 := by omega
  have W172 : gN H18 < gN H172 := by omega
  clear A171 L171 W171 n169
  obtain ⟨H173, e173, e⟩ := ob_get e
  obtain ⟨h173, d173, t173, n173⟩ := t172.A e173
  rw [d173, bind_some']
  have A173 : a < gN H173 := by omega
  have L173 : gN H ≤ gN H173 := by omega
  have W173 : gN H18 < gN H173 := by omega
  clear A172 L172 W172 n170
  obtain ⟨H174, e174, e⟩ := ob_get e
  obtain ⟨h174, d174, t174, n174⟩ := t173.R (by omega) (fun x hx => by cases hx; omega) e174
  have c174 : stR h173 9 (b + a) 24 (some (b + gN H172)) = some h174 := d174
  have d174 : stR h173 9 (b + a) 24 (some (gN h172)) = some h174 := by rw [t172.n]; exact d174
  first | rw [d174, bind_some'] | rw [c174, bind_some']
  have A174 : a < gN H174 := by omega
  have L174 : gN H ≤ gN H174 := by omega
  have W174 : gN H18 < gN H174 := by omega
  clear A173 L173 W173 n171
  obtain ⟨H175, e175, e⟩ := ob_get e
  obtain ⟨h175, d175, t175, n175⟩ := t174.A e175
  rw [d175, bind_some']
  have A175 : a < gN H175 := by omega
  have L175 : gN H ≤ gN H175 := by omega
  have W175 : gN H18 < gN H175 := by omega
  clear A174 L174 W174 n172
  obtain ⟨H176, e176, e⟩ := ob_get e
  obtain ⟨h176, d176, t176, n176⟩ := t175.R (by omega) (fun x hx => by cases hx; omega) e176
  have c176 : stR h175 9 (b + a) 25 (some (b + gN H174)) = some h176 := d176
  have d176 : stR h175 9 (b + a) 25 (some (gN h174)) = some h176 := by rw [t174.n]; exact d176
  first | rw [d176, bind_some'] | rw [c176, bind_some']
  have A176 : a < gN H176 := by omega
  have L176 : gN H ≤ gN H176 := by omega
  have W176 : gN H18 < gN H176 := by omega
  clear A175 L175 W175 n173
  obtain ⟨H177, e177, e⟩ := ob_get e
  obtain ⟨h177, d177, t177, n177⟩ := t176.A e177
  rw [d177, bind_some']
  have A177 : a < gN H177 := by omega
  have L177 : gN H ≤ gN H177 := by omega
  have W177 : gN H18 < gN H177 := by omega
  clear A176 L176 W176 n174
  obtain ⟨H178, e178, e⟩ := ob_get e
  obtain ⟨h178, d178, t178, n178⟩ := t177.R (by omega) (fun x hx => by cases hx; omega) e178
  have c178 : stR h177 9 (b + a) 26 (some (b + gN H176)) = some h178 := d178
  have d178 : stR h177 9 (b + a) 26 (some (gN h176)) = some h178 := by rw [t176.n]; exact d178
  first | rw [d178, bind_some'] | rw [c178, bind_some']
  have A178 : a < gN H178 := by omega
  have L178 : gN H ≤ gN H178 := by omega
  have W178 : gN H18 < gN H178 := by omega
  clear A177 L177 W177 n175
  obtain ⟨H179, e179, e⟩ := ob_get e
  obtain ⟨h179, d179, t179, n179⟩ := t178.A e179
  rw [d179, bind_some']
  have A179 : a < gN H179 := by omega
  have L179 : gN H ≤ gN H179 := by omega
  have W179 : gN H18 < gN H179 := by omega
  clear A178 L178 W178 n176
  obtain ⟨H180, e180, e⟩ := ob_get e
  obtain ⟨h180, d180, t180, n180⟩ := t179.R (by omega) (fun x hx => by cases hx; omega) e180
  have c180 : stR h179 9 (b + a) 30 (some (b + gN H178)) = some h180 := d180
  have d180 : stR h179 9 (b + a) 30 (some (gN h178)) = some h180 := by rw [t178.n]; exact d180
  first | rw [d180, bind_some'] | rw [c180, bind_some']
  have A180 : a < gN H180 := by omega
  have L180 : gN H ≤ gN H180 := by omega
  have W180 : gN H18 < gN H180 := by omega
  clear A179 L179 W179 n177
  obtain ⟨H181, e181, e⟩ := ob_get e
  obtain ⟨h181, d181, t181, n181⟩ := t180.I (by omega) e181
  rw [d181, bind_some']
  have A181 : a < gN H181 := by omega
  have L181 : gN H ≤ gN H181 := by omega
  have W181 : gN H18 < gN H181 := by omega
  clear A180 L180 W180 n178
  obtain ⟨H182, e182, e⟩ := ob_get e
  obtain ⟨h182, d182, t182, n182⟩ := t181.A e182
  rw [d182, bind_some']
  have A182 : a < gN H182 := by omega
  have L182 : gN H ≤ gN H182 := by omega
  have W182 : gN H18 < gN H182 := by omega
  clear A181 L181 W181 n179
  obtain ⟨H183, e183, e⟩ := ob_get e
  obtain ⟨h183, d183, t183, n183⟩ := t182.R (by omega) (fun x hx => by cases hx; omega) e183
  have c183 : stR h182 9 (b + a) 37 (some (b + gN H181)) = some h183 := d183
  have d183 : stR h182 9 (b + a) 37 (some (gN h181)) = some h183 := by rw [t181.n]; exact d183
  first | rw [d183, bind_some'] | rw [c183, bind_some']
  have A183 : a < gN H183 := by omega
  have L183 : gN H ≤ gN H183 := by omega
  have W183 : gN H18 < gN H183 := by omega
  clear A182 L182 W182 n180
  obtain ⟨H184, e184, e⟩ := ob_get e
  obtain ⟨h184, d184, t184, n184⟩ := t183.A e184
  rw [d184, bind_some']
  have A184 : a < gN H184 := by omega
  have L184 : gN H ≤ gN H184 := by omega
  have W184 : gN H18 < gN H184 := by omega
  clear A183 L183 W183 n181
  obtain ⟨H185, e185, e⟩ := ob_get e
  obtain ⟨h185, d185, t185, n185⟩ := t184.R (by omega) (fun x hx => by cases hx; omega) e185
  have c185 : stR h184 9 (b + a) 39 (some (b + gN H183)) = some h185 := d185
  have d185 : stR h184 9 (b + a) 39 (some (gN h183)) = some h185 := by rw [t183.n]; exact d185
  first | rw [d185, bind_some'] | rw [c185, bind_some']
  have A185 : a < gN H185 := by omega
  have L185 : gN H ≤ gN H185 := by omega
  have W185 : gN H18 < gN H185 := by omega
  clear A184 L184 W184 n182
  obtain ⟨H186, e186, e⟩ := ob_get e
  obtain ⟨h186, d186, t186, n186⟩ := t185.A e186
  rw [d186, bind_some']
  have A186 : a < gN H186 := by omega
  have L186 : gN H ≤ gN H186 := by omega
  have W186 : gN H18 < gN H186 := by omega
  clear A185 L185 W185 n183
  obtain ⟨H187, e187, e⟩ := ob_get e
  obtain ⟨h187, d187, t187, n187⟩ := t186.R (by omega) (fun x hx => by cases hx; omega) e187
  have c187 : stR h186 9 (b + a) 41 (some (b + gN H185)) = some h187 := d187
  have d187 : stR h186 9 (b + a) 41 (some (gN h185)) = some h187 := by rw [t185.n]; exact d187
  first | rw [d187, bind_some'] | rw [c187, bind_some']
  have A187 : a < gN H187 := by omega
  have L187 : gN H ≤ gN H187 := by omega
  have W187 : gN H18 < gN H187 := by omega
  clear A186 L186 W186 n184
  obtain ⟨H188, e188, e⟩ := ob_get e
  obtain ⟨h188, d188, t188, n188⟩ := t187.A e188
  rw [d188, bind_some']
  have A188 : a < gN H188 := by omega
  have L188 : gN H ≤ gN H188 := by omega
  have W188 : gN H18 < gN H188 := by omega
  clear A187 L187 W187 n185
  obtain ⟨H189, e189, e⟩ := ob_get e
  obtain ⟨h189, d189, t189, n189⟩ := t188.R (by omega) (fun x hx => by cases hx; omega) e189
  have c189 : stR h188 9 (b + a) 42 (some (b + gN H187)) = some h189 := d189
  have d189 : stR h188 9 (b + a) 42 (some (gN h187)) = some h189 := by rw [t187.n]; exact d189
  first | rw [d189, bind_some'] | rw [c189, bind_some']
  have A189 : a < gN H189 := by omega
  have L189 : gN H ≤ gN H189 := by omega
  have W189 : gN H18 < gN H189 := by omega
  clear A188 L188 W188 n186
  obtain ⟨H190, e190, e⟩ := ob_get e
  obtain ⟨h190, d190, t190, n190⟩ := t189.A e190
  rw [d190, bind_some']
  have A190 : a < gN H190 := by omega
  have L190 : gN H ≤ gN H190 := by omega
  have W190 : gN H18 < gN H190 := by omega
  clear A189 L189 W189 n187
  obtain ⟨H191, e191, e⟩ := ob_get e
  obtain ⟨h191, d191, t191, n191⟩ := t190.R (by omega) (fun x hx => by cases hx; omega) e191
  have c191 : stR h190 9 (b + a) 43 (some (b + gN H189)) = some h191 := d191
  have d191 : stR h190 9 (b + a) 43 (some (gN h189)) = some h191 := by rw [t189.n]; exact d191
  first | rw [d191, bind_some'] | rw [c191, bind_some']
  have A191 : a < gN H191 := by omega
  have L191 : gN H ≤ gN H191 := by omega
  have W191 : gN H18 < gN H191 := by omega
  clear A190 L190 W190 n188
  obtain ⟨H192, e192, e⟩ := ob_get e
  obtain ⟨h192, d192, t192, n192⟩ := t191.A e192
  rw [d192, bind_some']
  have A192 : a < gN H192 := by omega
  have L192 : gN H ≤ gN H192 := by omega
  have W192 : gN H18 < gN H192 := by omega
  clear A191 L191 W191 n189
  obtain ⟨H193, e193, e⟩ := ob_get e
  obtain ⟨h193, d193, t193, n193⟩ := t192.R (by omega) (fun x hx => by cases hx; omega) e193
  have c193 : stR h192 9 (b + a) 45 (some (b + gN H191)) = some h193 := d193
  have d193 : stR h192 9 (b + a) 45 (some (gN h191)) = some h193 := by rw [t191.n]; exact d193
  first | rw [d193, bind_some'] | rw [c193, bind_some']
  have A193 : a < gN H193 := by omega
  have L193 : gN H ≤ gN H193 := by omega
  have W193 : gN H18 < gN H193 := by omega
  clear A192 L192 W192 n190
  obtain ⟨H194, e194, e⟩ := ob_get e
  obtain ⟨h194, d194, t194, n194⟩ := t193.A e194
  rw [d194, bind_some']
  have A194 : a < gN H194 := by omega
  have L194 : gN H ≤ gN H194 := by omega
  have W194 : gN H18 < gN H194 := by omega
  clear A193 L193 W193 n191
  obtain ⟨H195, e195, e⟩ := ob_get e
  obtain ⟨h195, d195, t195, n195⟩ := t194.R (by omega) (fun x hx => by cases hx; omega) e195
  have c195 : stR h194 9 (b + a) 46 (some (b + gN H193)) = some h195 := d195
  have d195 : stR h194 9 (b + a) 46 (some (gN h193)) = some h195 := by rw [t193.n]; exact d195
  first | rw [d195, bind_some'] | rw [c195, bind_some']
  have A195 : a < gN H195 := by omega
  have L195 : gN H ≤ gN H195 := by omega
  have W195 : gN H18 < gN H195 := by omega
  clear A194 L194 W194 n192
  obtain ⟨H196, e196, e⟩ := ob_get e
  obtain ⟨h196, d196, t196, n196⟩ := t195.A e196
  rw [d196, bind_some']
  have A196 : a < gN H196 := by omega
  have L196 : gN H ≤ gN H196 := by omega
  have W196 : gN H18 < gN H196 := by omega
  clear A195 L195 W195 n193
  obtain ⟨H197, e197, e⟩ := ob_get e
  obtain ⟨h197, d197, t197, n197⟩ := t196.R (by omega) (fun x hx => by cases hx; omega) e197
  have c197 : stR h196 9 (b + a) 47 (some (b + gN H195)) = some h197 := d197
  have d197 : stR h196 9 (b + a) 47 (some (gN h195)) = some h197 := by rw [t195.n]; exact d197
  first | rw [d197, bind_some'] | rw [c197, bind_some']
  have A197 : a < gN H197 := by omega
  have L197 : gN H ≤ gN H197 := by omega
  have W197 : gN H18 < gN H197 := by omega
  clear A196 L196 W196 n194
  obtain ⟨H198, e198, e⟩ := ob_get e
  obtain ⟨h198, d198, t198, n198⟩ := t197.A e198
  rw [d198, bind_some']
  have A198 : a < gN H198 := by omega
  have L198 : gN H ≤ gN H198 := by omega
  have W198 : gN H18 < gN H198 := by omega
  clear A197 L197 W197 n195
  obtain ⟨H199, e199, e⟩ := ob_get e
  obtain ⟨h199, d199, t199, n199⟩ := t198.R (by omega) (fun x hx => by cases hx; omega) e199
  have c199 : stR h198 9 (b + a) 49 (some (b + gN H197)) = some h199 := d199
  have d199 : stR h198 9 (b + a) 49 (some (gN h197)) = some h199 := by rw [t197.n]; exact d199
  first | rw [d199, bind_some'] | rw [c199, bind_some']
  have A199 : a < gN H199 := by omega
  have L199 : gN H ≤ gN H199 := by omega
  have W199 : gN H18 < gN H199 := by omega
  clear A198 L198 W198 n196
  obtain ⟨H200, e200, e⟩ := ob_get e
  obtain ⟨h200, d200, t200, n200⟩ := t199.A e200
  rw [d200, bind_some']
  have A200 : a < gN H200 := by omega
  have L200 : gN H ≤ gN H200 := by omega
  have W200 : gN H18 < gN H200 := by omega
  clear A199 L199 W199 n197
  obtain ⟨H201, e201, e⟩ := ob_get e
  obtain ⟨h201, d201, t201, n201⟩ := t200.R (by omega) (fun x hx => by cases hx; omega) e201
  have c201 : stR h200 9 (b + a) 50 (some (b + gN H199)) = some h201 := d201
  have d201 : stR h200 9 (b + a) 50 (some (gN h199)) = some h201 := by rw [t199.n]; exact d201
  first | rw [d201, bind_some'] | rw [c201, bind_some']
  have A201 : a < gN H201 := by omega
  have L201 : gN H ≤ gN H201 := by omega
  have W201 : gN H18 < gN H201 := by omega
  clear A200 L200 W200 n198
  obtain ⟨H202, e202, e⟩ := ob_get e
  obtain ⟨h202, d202, t202, n202⟩ := t201.A e202
  rw [d202, bind_some']
  have A202 : a < gN H202 := by omega
  have L202 : gN H ≤ gN H202 := by omega
  have W202 : gN H18 < gN H202 := by omega
  clear A201 L201 W201 n199
  obtain ⟨H203, e203, e⟩ := ob_get e
  obtain ⟨h203, d203, t203, n203⟩ := t202.R (by omega) (fun x hx => by cases hx; omega) e203
  have c203 : stR h202 9 (b + a) 51 (some (b + gN H201)) = some h203 := d203
  have d203 : stR h202 9 (b + a) 51 (some (gN h201)) = some h203 := by rw [t201.n]; exact d203
  first | rw [d203, bind_some'] | rw [c203, bind_some']
  have A203 : a < gN H203 := by omega
  have L203 : gN H ≤ gN H203 := by omega
  have W203 : gN H18 < gN H203 := by omega
  clear A202 L202 W202 n200
  obtain ⟨H204, e204, e⟩ := ob_get e
  obtain ⟨h204, d204, t204, n204⟩ := t203.A e204
  rw [d204, bind_some']
  have A204 : a < gN H204 := by omega
  have L204 : gN H ≤ gN H204 := by omega
  have W204 : gN H18 < gN H204 := by omega
  clear A203 L203 W203 n201
  obtain ⟨H205, e205, e⟩ := ob_get e
  obtain ⟨h205, d205, t205, n205⟩ := t204.R (by omega) (fun x hx => by cases hx; omega) e205
  have c205 : stR h204 9 (b + a) 53 (some (b + gN H203)) = some h205 := d205
  have d205 : stR h204 9 (b + a) 53 (some (gN h203)) = some h205 := by rw [t203.n]; exact d205
  first | rw [d205, bind_some'] | rw [c205, bind_some']
  have A205 : a < gN H205 := by omega
  have L205 : gN H ≤ gN H205 := by omega
  have W205 : gN H18 < gN H205 := by omega
  clear A204 L204 W204 n202
  obtain ⟨H206, e206, e⟩ := ob_get e
  obtain ⟨h206, d206, t206, n206⟩ := t205.A e206
  rw [d206, bind_some']
  have A206 : a < gN H206 := by omega
  have L206 : gN H ≤ gN H206 := by omega
  have W206 : gN H18 < gN H206 := by omega
  clear A205 L205 W205 n203
  obtain ⟨H207, e207, e⟩ := ob_get e
  obtain ⟨h207, d207, t207, n207⟩ := t206.R (by omega) (fun x hx => by cases hx; omega) e207
  have c207 : stR h206 9 (b + a) 54 (some (b + gN H205)) = some h207 := d207
  have d207 : stR h206 9 (b + a) 54 (some (gN h205)) = some h207 := by rw [t205.n]; exact d207
  first | rw [d207, bind_some'] | rw [c207, bind_some']
  have A207 : a < gN H207 := by omega
  have L207 : gN H ≤ gN H207 := by omega
  have W207 : gN H18 < gN H207 := by omega
  clear A206 L206 W206 n204
  obtain ⟨H208, e208, e⟩ := ob_get e
  obtain ⟨h208, d208, t208, n208⟩ := t207.A e208
  rw [d208, bind_some']
  have A208 : a < gN H208 := by omega
  have L208 : gN H ≤ gN H208 := by omega
  have W208 : gN H18 < gN H208 := by omega
  clear A207 L207 W207 n205
  obtain ⟨H209, e209, e⟩ := ob_get e
  obtain ⟨h209, d209, t209, n209⟩ := t208.R (by omega) (fun x hx => by cases hx; omega) e209
  have c209 : stR h208 9 (b + a) 57 (some (b + gN H207)) = some h209 := d209
  have d209 : stR h208 9 (b + a) 57 (some (gN h207)) = some h209 := by rw [t207.n]; exact d209
  first | rw [d209, bind_some'] | rw [c209, bind_some']
  have A209 : a < gN H209 := by omega
  have L209 : gN H ≤ gN H209 := by omega
  have W209 : gN H18 < gN H209 := by omega
  clear A208 L208 W208 n206
  obtain ⟨H210, e210, e⟩ := ob_get e
  obtain ⟨h210, d210, t210, n210⟩ := t209.A e210
  rw [d210, bind_some']
  have A210 : a < gN H210 := by omega
  have L210 : gN H ≤ gN H210 := by omega
  have W210 : gN H18 < gN H210 := by omega
  clear A209 L209 W209 n207
  obtain ⟨H211, e211, e⟩ := ob_get e
  obtain ⟨h211, d211, t211, n211⟩ := t210.R (by omega) (fun x hx => by cases hx; omega) e211
  have c211 : stR h210 9 (b + a) 58 (some (b + gN H209)) = some h211 := d211
  have d211 : stR h210 9 (b + a) 58 (some (gN h209)) = some h211 := by rw [t209.n]; exact d211
  first | rw [d211, bind_some'] | rw [c211, bind_some']
  have A211 : a < gN H211 := by omega
  have L211 : gN H ≤ gN H211 := by omega
  have W211 : gN H18 < gN H211 := by omega
  clear A210 L210 W210 n208
  obtain ⟨H212, e212, e⟩ := ob_get e
  obtain ⟨h212, d212, t212, n212⟩ := t211.A e212
  rw [d212, bind_some']
  have A212 : a < gN H212 := by omega
  have L212 : gN H ≤ gN H212 := by omega
  have W212 : gN H18 < gN H212 := by omega
  clear A211 L211 W211 n209
  obtain ⟨H213, e213, e⟩ := ob_get e
  obtain ⟨h213, d213, t213, n213⟩ := t212.R (by omega) (fun x hx => by cases hx; omega) e213
  have c213 : stR h212 9 (b + a) 59 (some (b + gN H211)) = some h213 := d213
  have d213 : stR h212 9 (b + a) 59 (some (gN h211)) = some h213 := by rw [t211.n]; exact d213
  first | rw [d213, bind_some'] | rw [c213, bind_some']
  have A213 : a < gN H213 := by omega
  have L213 : gN H ≤ gN H213 := by omega
  have W213 : gN H18 < gN H213 := by omega
  clear A212 L212 W212 n210
  obtain ⟨H214, e214, e⟩ := ob_get e
  obtain ⟨h214, d214, t214, n214⟩ := t213.A e214
  rw [d214, bind_some']
  have A214 : a < gN H214 := by omega
  have L214 : gN H ≤ gN H214 := by omega
  have W214 : gN H18 < gN H214 := by omega
  clear A213 L213 W213 n211
  obtain ⟨H215, e215, e⟩ := ob_get e
  obtain ⟨h215, d215, t215, n215⟩ := t214.R (by omega) (fun x hx => by cases hx; omega) e215
  have c215 : stR h214 9 (b + a) 60 (some (b + gN H213)) = some h215 := d215
  have d215 : stR h214 9 (b + a) 60 (some (gN h213)) = some h215 := by rw [t213.n]; exact d215
  first | rw [d215, bind_some'] | rw [c215, bind_some']
  have A215 : a < gN H215 := by omega
  have L215 : gN H ≤ gN H215 := by omega
  have W215 : gN H18 < gN H215 := by omega
  clear A214 L214 W214 n212
  obtain ⟨H216, e216, e⟩ := ob_get e
  obtain ⟨h216, d216, t216, n216⟩ := t215.A e216
  rw [d216, bind_some']
  have A216 : a < gN H216 := by omega
  have L216 : gN H ≤ gN H216 := by omega
  have W216 : gN H18 < gN H216 := by omega
  clear A215 L215 W215 n213
  obtain ⟨H217, e217, e⟩ := ob_get e
  obtain ⟨h217, d217, t217, n217⟩ := t216.R (by omega) (fun x hx => by cases hx; omega) e217
  have c217 : stR h216 9 (b + a) 61 (some (b + gN H215)) = some h217 := d217
  have d217 : stR h216 9 (b + a) 61 (some (gN h215)) = some h217 := by rw [t215.n]; exact d217
  first | rw [d217, bind_some'] | rw [c217, bind_some']
  have A217 : a < gN H217 := by omega
  have L217 : gN H ≤ gN H217 := by omega
  have W217 : gN H18 < gN H217 := by omega
  clear A216 L216 W216 n214
  obtain ⟨H218, e218, e⟩ := ob_get e
  obtain ⟨h218, d218, t218, n218⟩ := t217.A e218
  rw [d218, bind_some']
  have A218 : a < gN H218 := by omega
  have L218 : gN H ≤ gN H218 := by omega
  have W218 : gN H18 < gN H218 := by omega
  clear A217 L217 W217 n215
  obtain ⟨H219, e219, e⟩ := ob_get e
  obtain ⟨h219, d219, t219, n219⟩ := t218.R (by omega) (fun x hx => by cases hx; omega) e219
  have c219 : stR h218 9 (b + a) 62 (some (b + gN H217)) = some h219 := d219
  have d219 : stR h218 9 (b + a) 62 (some (gN h217)) = some h219 := by rw [t217.n]; exact d219
  first | rw [d219, bind_some'] | rw [c219, bind_some']
  have A219 : a < gN H219 := by omega
  have L219 : gN H ≤ gN H219 := by omega
  have W219 : gN H18 < gN H219 := by omega
  clear A218 L218 W218 n216
  obtain ⟨H220, e220, e⟩ := ob_get e
  obtain ⟨h220, d220, t220, n220⟩ := t219.A e220
  rw [d220, bind_some']
  have A220 : a < gN H220 := by omega
  have L220 : gN H ≤ gN H220 := by omega
  have W220 : gN H18 < gN H220 := by omega
  clear A219 L219 W219 n217
  obtain ⟨H221, e221, e⟩ := ob_get e
  obtain ⟨h221, d221, t221, n221⟩ := t220.R (by omega) (fun x hx => by cases hx; omega) e221
  have c221 : stR h220 9 (b + a) 64 (some (b + gN H219)) = some h221 := d221
  have d221 : stR h220 9 (b + a) 64 (some (gN h219)) = some h221 := by rw [t219.n]; exact d221
  first | rw [d221, bind_some'] | rw [c221, bind_some']
  have A221 : a < gN H221 := by omega
  have L221 : gN H ≤ gN H221 := by omega
  have W221 : gN H18 < gN H221 := by omega
  clear A220 L220 W220 n218
  obtain ⟨H222, e222, e⟩ := ob_get e
  obtain ⟨h222, d222, t222, n222⟩ := t221.A e222
  rw [d222, bind_some']
  have A222 : a < gN H222 := by omega
  have L222 : gN H ≤ gN H222 := by omega
  have W222 : gN H18 < gN H222 := by omega
  clear A221 L221 W221 n219
  obtain ⟨H223, e223, e⟩ := ob_get e
  obtain ⟨h223, d223, t223, n223⟩ := t222.R (by omega) (fun x hx => by cases hx; omega) e223
  have c223 : stR h222 9 (b + a) 65 (some (b + gN H221)) = some h223 := d223
  have d223 : stR h222 9 (b + a) 65 (some (gN h221)) = some h223 := by rw [t221.n]; exact d223
  first | rw [d223, bind_some'] | rw [c223, bind_some']
  have A223 : a < gN H223 := by omega
  have L223 : gN H ≤ gN H223 := by omega
  have W223 : gN H18 < gN H223 := by omega
  clear A222 L222 W222 n220
  obtain ⟨H224, e224, e⟩ := ob_get e
  obtain ⟨h224, d224, t224, n224⟩ := t223.A e224
  rw [d224, bind_some']
  have A224 : a < gN H224 := by omega
  have L224 : gN H ≤ gN H224 := by omega
  have W224 : gN H18 < gN H224 := by omega
  clear A223 L223 W223 n221
  obtain ⟨H225, e225, e⟩ := ob_get e
  obtain ⟨h225, d225, t225, n225⟩ := t224.R (by omega) (fun x hx => by cases hx; omega) e225
  have c225 : stR h224 9 (b + a) 66 (some (b + gN H223)) = some h225 := d225
  have d225 : stR h224 9 (b + a) 66 (some (gN h223)) = some h225 := by rw [t223.n]; exact d225
  first | rw [d225, bind_some'] | rw [c225, bind_some']
  have A225 : a < gN H225 := by omega
  have L225 : gN H ≤ gN H225 := by omega
  have W225 : gN H18 < gN H225 := by omega
  clear A224 L224 W224 n222
  obtain ⟨H226, e226, e⟩ := ob_get e
  obtain ⟨h226, d226, t226, n226⟩ := t225.A e226
  rw [d226, bind_some']
  have A226 : a < gN H226 := by omega
  have L226 : gN H ≤ gN H226 := by omega
  have W226 : gN H18 < gN H226 := by omega
  clear A225 L225 W225 n223
  obtain ⟨H227, e227, e⟩ := ob_get e
  obtain ⟨h227, d227, t227, n227⟩ := t226.R (by omega) (fun x hx => by cases hx; omega) e227
  have c227 : stR h226 9 (b + a) 67 (some (b + gN H225)) = some h227 := d227
  have d227 : stR h226 9 (b + a) 67 (some (gN h225)) = some h227 := by rw [t225.n]; exact d227
  first | rw [d227, bind_some'] | rw [c227, bind_some']
  have A227 : a < gN H227 := by omega
  have L227 : gN H ≤ gN H227 := by omega
  have W227 : gN H18 < gN H227 := by omega
  clear A226 L226 W226 n224
  obtain ⟨H228, e228, e⟩ := ob_get e
  obtain ⟨h228, d228, t228, n228⟩ := t227.A e228
  rw [d228, bind_some']
  have A228 : a < gN H228 := by omega
  have L228 : gN H ≤ gN H228 := by omega
  have W228 : gN H18 < gN H228 := by omega
  clear A227 L227 W227 n225
  obtain ⟨H229, e229, e⟩ := ob_get e
  obtain ⟨h229, d229, t229, n229⟩ := t228.R (by omega) (fun x hx => by cases hx; omega) e229
  have c229 : stR h228 9 (b + a) 73 (some (b + gN H227)) = some h229 := d229
  have d229 : stR h228 9 (b + a) 73 (some (gN h227)) = some h229 := by rw [t227.n]; exact d229
  first | rw [d229, bind_some'] | rw [c229, bind_some']
  have A229 : a < gN H229 := by omega
  have L229 : gN H ≤ gN H229 := by omega
  have W229 : gN H18 < gN H229 := by omega
  clear A228 L228 W228 n226
  cases e
  exact ⟨_, rfl, t229, L229⟩
