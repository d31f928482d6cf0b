/-! ===== THE PURE PART: reading and writing the pure heap ===== -/
section PURE
variable {h : PH} {a b k j ci n : Nat} {v x : Int32} {o : Option Nat}
theorem gI_sI : gI (sI h a k v) b j = if b = a ∧ j = k then v else gI h b j := rfl
theorem gI_sI_ne (hb : b ≠ a) : gI (sI h a k v) b = gI h b := by funext j; simp [gI, sI, hb]
theorem gK_sI : gK (sI h a k v) = gK h := rfl
theorem gR_sI : gR (sI h a k v) = gR h := rfl
theorem gN_sI : gN (sI h a k v) = gN h := rfl
theorem gX_sI : gX (sI h a k v) = gX h := rfl
theorem gI_sR : gI (sR h a k o) = gI h := rfl
theorem gK_sR : gK (sR h a k o) = gK h := rfl
theorem gR_sR : gR (sR h a k o) b j = if b = a ∧ j = k then o else gR h b j := rfl
theorem gN_sR : gN (sR h a k o) = gN h := rfl
theorem gX_sR : gX (sR h a k o) = gX h := rfl
theorem gI_nw {kd : Nat × Nat} : gI (nw h kd) b j = if b = gN h then 0 else gI h b j := rfl
theorem gK_nw {kd : Nat × Nat} : gK (nw h kd) b = if b = gN h then kd else gK h b := rfl
theorem gR_nw {kd : Nat × Nat} : gR (nw h kd) b j = if b = gN h then none else gR h b j := rfl
theorem gN_nw {kd : Nat × Nat} : gN (nw h kd) = gN h + 1 := rfl
theorem gX_nw {kd : Nat × Nat} : gX (nw h kd) = gX h := rfl
theorem gK_cp {sp dp : Nat} : gK (cpI h a sp b dp n) = gK h := rfl
theorem gR_cp {sp dp : Nat} : gR (cpI h a sp b dp n) = gR h := rfl
theorem gN_cp {sp dp : Nat} : gN (cpI h a sp b dp n) = gN h := rfl
theorem gX_cp {sp dp : Nat} : gX (cpI h a sp b dp n) = gX h := rfl
theorem gI_cp {sp dp q : Nat} : gI (cpI h a sp b dp n) q j = if q = b ∧ dp ≤ j ∧ j < dp + n then gI h a (sp + (j - dp)) else gI h q j := rfl
theorem gI_cp_ne {sp dp q : Nat} (hq : q ≠ b) : gI (cpI h a sp b dp n) q = gI h q := by funext j; simp [gI, cpI, hq]
/-! numbers -/
theorem tn_nI (hj : j < 2147483648) : (nI j).toNatClampNeg = j := nI_clamp hj
theorem tn_lit (hj : (OfNat.ofNat n : Nat) < 2147483648) : (no_index (OfNat.ofNat n : Int32)).toNatClampNeg = (OfNat.ofNat n : Nat) := nI_clamp hj
theorem inb_nI (hj : j < n) (hn : n < 2147483648) : inb (nI j) n = true := by
  unfold inb
  have h1 : ¬ nI j < 0 := nI_pos (by omega)
  rw [tn_nI (by omega)]
  simp [h1, hj]
theorem inb_lit (hj : (OfNat.ofNat j : Nat) < n) (hn : n < 2147483648) : inb (no_index (OfNat.ofNat j : Int32)) n = true := inb_nI hj hn
theorem nI_addL (m : Nat) : nI m + (no_index (OfNat.ofNat n : Int32)) = nI (m + (OfNat.ofNat n : Nat)) := nI_add m n
theorem L_addn (m : Nat) : (no_index (OfNat.ofNat n : Int32)) + nI m = nI ((OfNat.ofNat n : Nat) + m) := nI_add n m
theorem nI_subL (m : Nat) (h : (OfNat.ofNat n : Nat) ≤ m) : nI m - (no_index (OfNat.ofNat n : Int32)) = nI (m - (OfNat.ofNat n : Nat)) := pk_sub h
theorem nI_mulL (m : Nat) : nI m * (no_index (OfNat.ofNat n : Int32)) = nI (m * (OfNat.ofNat n : Nat)) := pk_mul m n
theorem L_muln (m : Nat) : (no_index (OfNat.ofNat n : Int32)) * nI m = nI ((OfNat.ofNat n : Nat) * m) := pk_mul n m
theorem nI_ltL {m : Nat} (hm : m < 2147483648) (hn : (OfNat.ofNat n : Nat) < 2147483648) : nI m < (no_index (OfNat.ofNat n : Int32)) ↔ m < (OfNat.ofNat n : Nat) := nI_ltI hm hn
theorem nI_leL {m : Nat} (hm : m < 2147483648) (hn : (OfNat.ofNat n : Nat) < 2147483648) : nI m ≤ (no_index (OfNat.ofNat n : Int32)) ↔ m ≤ (OfNat.ofNat n : Nat) := nI_leI hm hn
theorem nI_eqL {m : Nat} (hm : m < 2147483648) (hn : (OfNat.ofNat n : Nat) < 2147483648) : nI m = (no_index (OfNat.ofNat n : Int32)) ↔ m = (OfNat.ofNat n : Nat) := nI_eq hm hn
theorem L_ltn {m : Nat} (hm : m < 2147483648) (hn : (OfNat.ofNat n : Nat) < 2147483648) : (no_index (OfNat.ofNat n : Int32)) < nI m ↔ (OfNat.ofNat n : Nat) < m := nI_ltI hn hm
theorem L_len {m : Nat} (hm : m < 2147483648) (hn : (OfNat.ofNat n : Nat) < 2147483648) : (no_index (OfNat.ofNat n : Int32)) ≤ nI m ↔ (OfNat.ofNat n : Nat) ≤ m := nI_leI hn hm
theorem nI_ne_m1 {m : Nat} (hm : m < 2147483648) : nI m ≠ -1 := by
  intro e
  have h1 : ¬ nI m < 0 := nI_pos (by omega)
  rw [e] at h1
  exact h1 (by decide)
theorem nI_low : ¬ nI j < 0 ∨ 2147483648 ≤ j := by
  by_cases hj : j < 2147483648
  · exact Or.inl (nI_pos (by omega))
  · exact Or.inr (by omega)
/-- an int is below 0, or a number -/
theorem I_cases (x : Int32) : x < 0 ∨ ∃ n : Nat, n < 2147483648 ∧ x = nI n := by
  by_cases hx : x < 0
  · exact Or.inl hx
  · exact Or.inr (by obtain ⟨j, h1, h2⟩ := nI_of hx; exact ⟨j, h1, h2⟩)
/-- between 0 and a bound -/
theorem I_upto {x : Int32} {m : Nat} (hm : m < 2147483648) (h0 : ¬ x < 0) (h1 : ¬ nI m < x) : ∃ n : Nat, n ≤ m ∧ x = nI n := by
  obtain ⟨j, h2, rfl⟩ := nI_of h0
  refine ⟨j, ?_, rfl⟩
  rw [nI_ltI hm (by omega)] at h1
  omega
theorem I_uptoL {x : Int32} (hm : (OfNat.ofNat n : Nat) < 2147483648) (h0 : ¬ x < 0) (h1 : ¬ (OfNat.ofNat n : Int32) < x) : ∃ m : Nat, m ≤ (OfNat.ofNat n : Nat) ∧ x = nI m := I_upto hm h0 h1
theorem rtZ_0 : rtZ 0 h = some (0, h) := by unfold rtZ; rw [if_pos (Or.inl rfl)]
theorem rtZ_1 : rtZ 1 h = some (1, h) := by unfold rtZ; rw [if_pos (Or.inr rfl)]
theorem bind_some' {α β : Type} (a : α) (f : α → Option β) : (some a).bind f = f a := rfl
theorem FU_eq : FU = 69999 + 1 := rfl
theorem wrA_eq {i : Int32} (h1 : gK h a = (1, n)) (h2 : i = nI j) (h3 : j < n) (h4 : n < 2147483648) : wrA h a i v = some (sI h a j v) := by
  unfold wrA isA
  rw [h1, h2, inb_nI h3 h4, tn_nI (by omega)]
  rfl
theorem rdA_eq {i : Int32} (h1 : gK h a = (1, n)) (h2 : i = nI j) (h3 : j < n) (h4 : n < 2147483648) : rdA h a i = some (gI h a j) := by
  unfold rdA isA
  rw [h1, h2, inb_nI h3 h4, tn_nI (by omega)]
  rfl
theorem rdS_eq {i : Int32} (h1 : a = (gX h).2.2.1) (h2 : i = nI j) (h3 : j < (gX h).2.2.2.1) (h4 : (gX h).2.2.2.1 < 2147483648) : rdS h a i = some ((gX h).2.2.2.2 j) := by
  unfold rdS
  rw [h2, inb_nI h3 h4, tn_nI (by omega), if_pos ⟨h1, rfl⟩]
end PURE
/-- a call of both: they answer alike, what stood stands -/
def Both (I : PH → Prop) (h : PH) (fc : PH → Option (Int32 × PH)) (fm : PH → Option (Int32 × PH)) : Prop :=
  ∃ r h1 h2, fc h = some (r, h1) ∧ gX h1 = gX h ∧ (∀ q, gK h q = (0, 9) → gK h1 q = (0, 9)) ∧ fm h1 = some (r, h2) ∧ gX h2 = gX h ∧ I h2
