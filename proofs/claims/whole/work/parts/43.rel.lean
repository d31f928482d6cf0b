/-! ===== WHAT STANDS BETWEEN THE CLASS AND THE REFERENCE ===== -/
/-- slots: a cell, from, to -/
abbrev SL : Type := List (Nat × Nat × Nat)
def inL (L : SL) (o j : Nat) : Bool := L.any (fun q => q.1 == o && (decide (q.2.1 ≤ j) && decide (j < q.2.2)))
def disj (L M : SL) : Bool := L.all (fun p => M.all (fun q => !(p.1 == q.1) || decide (p.2.2 ≤ q.2.1) || decide (q.2.2 ≤ p.2.1)))
theorem disj_ok {L M : SL} (h : disj L M = true) {o j : Nat} (hm : inL M o j = true) : inL L o j = false := by
  unfold disj at h
  unfold inL at hm ⊢
  rw [List.all_eq_true] at h
  rw [List.any_eq_true] at hm
  obtain ⟨q, hq, hq2⟩ := hm
  rw [Bool.eq_false_iff]
  intro hl
  rw [List.any_eq_true] at hl
  obtain ⟨p, hp, hp2⟩ := hl
  have h1 := h p hp
  rw [List.all_eq_true] at h1
  have h2 := h1 q hq
  simp only [Bool.and_eq_true, beq_iff_eq, decide_eq_true_eq, Bool.or_eq_true, Bool.not_eq_true', beq_eq_false_iff_ne] at hq2 hp2 h2
  omega
/-- nothing changed but ints in the slots of a list -/
def Sn (L : SL) (b : Nat) (h h2 : PH) : Prop := gK h2 = gK h ∧ gR h2 = gR h ∧ gN h2 = gN h ∧ gX h2 = gX h ∧ ∀ o j, inL L o j = false → gI h2 (b + o) j = gI h (b + o) j
theorem Sn.rf {L : SL} {b : Nat} {h : PH} : Sn L b h h := ⟨rfl, rfl, rfl, rfl, fun _ _ _ => rfl⟩
theorem Sn.tr {L : SL} {b : Nat} {h h2 h3 : PH} (s : Sn L b h h2) (t : Sn L b h2 h3) : Sn L b h h3 := ⟨t.1.trans s.1, t.2.1.trans s.2.1, t.2.2.1.trans s.2.2.1, t.2.2.2.1.trans s.2.2.2.1, fun o j ho => (t.2.2.2.2 o j ho).trans (s.2.2.2.2 o j ho)⟩
theorem inL_app {L M : SL} {o j : Nat} (h : inL (L ++ M) o j = false) : inL L o j = false ∧ inL M o j = false := by
  unfold inL at *
  rw [List.any_append] at h
  simpa using h
theorem Sn.app {L M : SL} {b : Nat} {h h2 h3 : PH} (s : Sn L b h h2) (t : Sn M b h2 h3) : Sn (L ++ M) b h h3 := ⟨t.1.trans s.1, t.2.1.trans s.2.1, t.2.2.1.trans s.2.2.1, t.2.2.2.1.trans s.2.2.2.1, fun o j ho => (t.2.2.2.2 o j (inL_app ho).2).trans (s.2.2.2.2 o j (inL_app ho).1)⟩
theorem Sn.put {L : SL} {b : Nat} {h h2 : PH} (s : Sn L b h h2) (o k : Nat) (v : Int32) (ho : inL L o k = true) : Sn L b h (sI h2 (b + o) k v) := by
  refine ⟨s.1, s.2.1, s.2.2.1, s.2.2.2.1, fun q j hq => ?_⟩
  rw [gI_sI, if_neg]
  · exact s.2.2.2.2 q j hq
  · rintro ⟨e1, e2⟩
    obtain rfl : q = o := by omega
    subst e2
    rw [ho] at hq
    cases hq
theorem Sn.I {L : SL} {b : Nat} {h h2 : PH} (s : Sn L b h h2) {o j : Nat} (ho : inL L o j = false) : gI h2 (b + o) j = gI h (b + o) j := s.2.2.2.2 o j ho
theorem Shp.sn {L : SL} {b : Nat} {h h2 : PH} (s : Shp h b) (t : Sn L b h h2) : Shp h2 b := ⟨fun o ho => by rw [t.1]; exact s.1 o ho, fun o k q e => by rw [t.2.1]; exact s.2 o k q e⟩
theorem inL_in {L : SL} {o j lo hi : Nat} (h : (o, lo, hi) ∈ L) (h1 : lo ≤ j) (h2 : j < hi) : inL L o j = true := by
  unfold inL
  rw [List.any_eq_true]
  exact ⟨(o, lo, hi), h, by simp [h1, h2]⟩
/-- a set of the numbers below n, as bits -/
def bs : Nat → (Nat → Bool) → Nat
  | 0, _ => 0
  | n + 1, p => bs n p + (if p n then 2 ^ n else 0)
/-- the numbers of travellers and officers, and what is told of them once for all -/
def StatOK (nt no : Nat) (ca gr ns so : Nat → Int32) : Prop := nt ≤ 12 ∧ no ≤ 6 ∧ (∀ t, t < nt → (∃ x, x ≤ 5 ∧ ca t = nI x) ∧ ∃ x, x ≤ 9 ∧ gr t = nI x) ∧ ∀ o, o < no → (∃ x, x ≤ 9 ∧ ns o = nI x) ∧ ∃ x, x ≤ 9 ∧ so o = nI x
/-- a row of what hours change -/
def RowOK (nt no : Nat) (g : Nat → Int32) : Prop := (∃ x, x ≤ 20000 ∧ g 0 = nI x) ∧ (∃ x, x ≤ 150 ∧ g 2 = nI x) ∧ (∃ x, x < 16 ∧ g 6 = nI x) ∧ (∀ t, t < nt → (∃ x, x ≤ 9999 ∧ g (7 + t) = nI x) ∧ (∃ x, x ≤ 99 ∧ g (19 + t) = nI x) ∧ (∃ x, x ≤ 4 ∧ g (31 + t) = nI x) ∧ (g (43 + t) = 0 ∨ g (43 + t) = 1) ∧ (g (55 + t) = 0 ∨ g (55 + t) = 1)) ∧ ∀ o, o < no → (∃ x, x < 4 ∧ g (67 + o) = nI x) ∧ ∃ x, x ≤ 9 ∧ g (73 + o) = nI x
/-- a realm of the class (its fields, its nine arrays) and a row of the reference -/
def RlR (F ca gr co we att ga ns so ti : Nat → Int32) (nt no : Nat) (mca mgr mns mso g : Nat → Int32) : Prop :=
  F 1 = nI nt ∧ F 9 = nI no ∧ F 0 = g 1 ∧ F 15 = g 3 ∧ F 16 = g 4 ∧ F 17 = g 5 ∧ F 18 = g 0 ∧ F 19 = g 2 ∧ F 14 = (15 &&& (g 6 ^^^ (-1))) ∧ F 7 = nI (bs nt (fun t => g (43 + t) == 1)) ∧ F 8 = nI (bs nt (fun t => g (55 + t) == 1)) ∧
  (∀ t, t < nt → ca t = mca t ∧ gr t = mgr t ∧ co t = g (7 + t) ∧ we t = g (19 + t) ∧ att t = g (31 + t) - 1) ∧
  ∀ o, o < no → ga o = g (67 + o) ∧ ns o = mns o ∧ so o = mso o ∧ ti o = g (73 + o)
/-- the realm at a place r of the heap -/
def RealmAt (h : PH) (b r nt no : Nat) (mca mgr mns mso g : Nat → Int32) : Prop := RlR (gI h (b + r)) (gI h (b + (r + 1))) (gI h (b + (r + 2))) (gI h (b + (r + 3))) (gI h (b + (r + 4))) (gI h (b + (r + 5))) (gI h (b + (r + 6))) (gI h (b + (r + 7))) (gI h (b + (r + 8))) (gI h (b + (r + 9))) nt no mca mgr mns mso g
