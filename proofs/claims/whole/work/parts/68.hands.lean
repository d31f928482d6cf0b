/-! ===== hands ===== -/
theorem b64_on : ∀ s, s < 64 → ∀ j, j < 6 → s.testBit j = true → s ^^^ 2 ^ j < s ∧ (s ^^^ 2 ^ j).testBit j = false ∧ (s ^^^ 2 ^ j) ||| 2 ^ j = s ∧ s ^^^ (s &&& 2 ^ j) = s ^^^ 2 ^ j ∧ s ||| 2 ^ j = s := by decide +kernel
theorem b64_off : ∀ s, s < 64 → ∀ j, j < 6 → s.testBit j = false → s ||| 2 ^ j < 64 ∧ (s ||| 2 ^ j).testBit j = true ∧ (s ||| 2 ^ j) ^^^ 2 ^ j = s ∧ s ||| 2 ^ j ≠ s := by decide +kernel
/-- what a child's going adds to a set by the hand b, as far as the sets have been gone through -/
def hct (A : Nat) (w : Nat → Nat) (i j s b : Nat) : Nat := if A.testBit b && s.testBit b && (decide (63 < (s ^^^ 2 ^ b) + i) || (decide ((s ^^^ 2 ^ b) + i = 63) && decide (b < j))) then w (s ^^^ 2 ^ b) else 0
def hvc (A : Nat) (w : Nat → Nat) (i j s : Nat) : Nat := w s + hct A w i j s 0 + hct A w i j s 1 + hct A w i j s 2 + hct A w i j s 3 + hct A w i j s 4 + hct A w i j s 5
def hdt (A : Nat) (w : Nat → Nat) (s b : Nat) : Nat := if (A &&& s).testBit b then w (s ^^^ 2 ^ b) else 0
/-- in how many ways, one child more -/
def hnx (A : Nat) (w : Nat → Nat) (s : Nat) : Nat := w s + hdt A w s 0 + hdt A w s 1 + hdt A w s 2 + hdt A w s 3 + hdt A w s 4 + hdt A w s 5
theorem hct_ne {A : Nat} {w : Nat → Nat} {i j s b : Nat} (hb : b ≠ j) : hct A w i (j + 1) s b = hct A w i j s b := by
  unfold hct
  have e : decide (b < j + 1) = decide (b < j) := by
    by_cases q : b < j
    · rw [decide_eq_true q, decide_eq_true (by omega)]
    · rw [decide_eq_false q, decide_eq_false (by omega)]
  rw [e]
def hex (A : Nat) (w : Nat → Nat) (i j s : Nat) : Nat := if A.testBit j && s.testBit j && decide ((s ^^^ 2 ^ j) + i = 63) then w (s ^^^ 2 ^ j) else 0
theorem hct_eq {A : Nat} {w : Nat → Nat} {i j s : Nat} : hct A w i (j + 1) s j = hct A w i j s j + hex A w i j s := by
  unfold hct hex
  rw [decide_eq_true (show j < j + 1 by omega), decide_eq_false (show ¬ j < j by omega)]
  by_cases q1 : 63 < (s ^^^ 2 ^ j) + i
  · rw [decide_eq_true q1, decide_eq_false (show ¬ (s ^^^ 2 ^ j) + i = 63 by omega)]
    simp
  · rw [decide_eq_false q1]
    simp
theorem hvc_st {A : Nat} {w : Nat → Nat} {i j s : Nat} (hj : j < 6) : hvc A w i (j + 1) s = hvc A w i j s + hex A w i j s := by
  unfold hvc
  have : j = 0 ∨ j = 1 ∨ j = 2 ∨ j = 3 ∨ j = 4 ∨ j = 5 := by omega
  rcases this with rfl | rfl | rfl | rfl | rfl | rfl
  · rw [hct_eq (j := 0), hct_ne (b := 1) (by decide), hct_ne (b := 2) (by decide), hct_ne (b := 3) (by decide), hct_ne (b := 4) (by decide), hct_ne (b := 5) (by decide)]; omega
  · rw [hct_eq (j := 1), hct_ne (b := 0) (by decide), hct_ne (b := 2) (by decide), hct_ne (b := 3) (by decide), hct_ne (b := 4) (by decide), hct_ne (b := 5) (by decide)]; omega
  · rw [hct_eq (j := 2), hct_ne (b := 0) (by decide), hct_ne (b := 1) (by decide), hct_ne (b := 3) (by decide), hct_ne (b := 4) (by decide), hct_ne (b := 5) (by decide)]; omega
  · rw [hct_eq (j := 3), hct_ne (b := 0) (by decide), hct_ne (b := 1) (by decide), hct_ne (b := 2) (by decide), hct_ne (b := 4) (by decide), hct_ne (b := 5) (by decide)]; omega
  · rw [hct_eq (j := 4), hct_ne (b := 0) (by decide), hct_ne (b := 1) (by decide), hct_ne (b := 2) (by decide), hct_ne (b := 3) (by decide), hct_ne (b := 5) (by decide)]; omega
  · rw [hct_eq (j := 5), hct_ne (b := 0) (by decide), hct_ne (b := 1) (by decide), hct_ne (b := 2) (by decide), hct_ne (b := 3) (by decide), hct_ne (b := 4) (by decide)]; omega
/-- a hand that is not given adds nothing -/
theorem hex_0 {A : Nat} {w : Nat → Nat} {i j s : Nat} (hs : s < 64) (hj : j < 6) (hi : i < 64) (q : A.testBit j = false ∨ (63 - i).testBit j = true ∨ s ≠ (63 - i) ||| 2 ^ j) : hex A w i j s = 0 := by
  unfold hex
  rw [if_neg]
  intro e
  simp only [Bool.and_eq_true, decide_eq_true_eq] at e
  obtain ⟨⟨e1, e2⟩, e3⟩ := e
  obtain ⟨a1, a2, a3, _⟩ := b64_on s hs j hj e2
  have e4 : 63 - i = s ^^^ 2 ^ j := by omega
  rw [e4] at q
  rcases q with q | q | q
  · rw [q] at e1; cases e1
  · rw [q] at a2; cases a2
  · exact q a3.symm
theorem hex_1 {A : Nat} {w : Nat → Nat} {i j : Nat} (hj : j < 6) (hi : i < 64) (q1 : A.testBit j = true) (q2 : (63 - i).testBit j = false) : hex A w i j ((63 - i) ||| 2 ^ j) = w (63 - i) := by
  obtain ⟨a1, a2, a3, _⟩ := b64_off (63 - i) (by omega) j hj q2
  unfold hex
  rw [a3, if_pos]
  simp only [Bool.and_eq_true, decide_eq_true_eq]
  exact ⟨⟨q1, a2⟩, by omega⟩
theorem hct_own {A : Nat} {w : Nat → Nat} {i j b : Nat} (hb : b < 6) (hi : i < 64) : hct A w i j (63 - i) b = 0 := by
  unfold hct
  rw [if_neg]
  intro e
  simp only [Bool.and_eq_true, Bool.or_eq_true, decide_eq_true_eq] at e
  obtain ⟨⟨e1, e2⟩, e3⟩ := e
  have a1 := (b64_on (63 - i) (by omega) b hb e2).1
  omega
theorem hvc_own {A : Nat} {w : Nat → Nat} {i j : Nat} (hi : i < 64) : hvc A w i j (63 - i) = w (63 - i) := by
  unfold hvc
  rw [hct_own (by decide) hi, hct_own (by decide) hi, hct_own (by decide) hi, hct_own (by decide) hi, hct_own (by decide) hi, hct_own (by decide) hi]
  omega
theorem hvc_up {A : Nat} {w : Nat → Nat} {i s : Nat} : hvc A w i 6 s = hvc A w (i + 1) 0 s := by
  have e : ∀ b, b < 6 → hct A w i 6 s b = hct A w (i + 1) 0 s b := fun b hb => by
    unfold hct
    rw [decide_eq_true hb, decide_eq_false (show ¬ b < 0 by omega)]
    have e : (decide (63 < (s ^^^ 2 ^ b) + i) || (decide ((s ^^^ 2 ^ b) + i = 63) && true)) = (decide (63 < (s ^^^ 2 ^ b) + (i + 1)) || (decide ((s ^^^ 2 ^ b) + (i + 1) = 63) && false)) := by
      rw [Bool.and_true, Bool.and_false, Bool.or_false]
      by_cases q : 63 < (s ^^^ 2 ^ b) + (i + 1)
      · rw [decide_eq_true q]
        by_cases q2 : 63 < (s ^^^ 2 ^ b) + i
        · rw [decide_eq_true q2]; rfl
        · rw [decide_eq_true (show (s ^^^ 2 ^ b) + i = 63 by omega), Bool.or_true]
      · rw [decide_eq_false q, decide_eq_false (show ¬ 63 < (s ^^^ 2 ^ b) + i by omega), decide_eq_false (show ¬ (s ^^^ 2 ^ b) + i = 63 by omega)]; rfl
    rw [e]
  unfold hvc
  rw [e 0 (by decide), e 1 (by decide), e 2 (by decide), e 3 (by decide), e 4 (by decide), e 5 (by decide)]
theorem hvc_0 {A : Nat} {w : Nat → Nat} {s : Nat} (hs : s < 64) : hvc A w 0 0 s = w s := by
  have e : ∀ b, b < 6 → hct A w 0 0 s b = 0 := fun b hb => by
    unfold hct
    rw [if_neg]
    intro e
    simp only [Bool.and_eq_true, Bool.or_eq_true, decide_eq_true_eq] at e
    obtain ⟨⟨e1, e2⟩, e3⟩ := e
    have a1 := (b64_on s hs b hb e2).1
    omega
  unfold hvc
  rw [e 0 (by decide), e 1 (by decide), e 2 (by decide), e 3 (by decide), e 4 (by decide), e 5 (by decide)]
  rfl
theorem hvc_end {A : Nat} {w : Nat → Nat} {s : Nat} : hvc A w 64 0 s = hnx A w s := by
  have e : ∀ b, hct A w 64 0 s b = hdt A w s b := fun b => by
    unfold hct hdt
    rw [decide_eq_true (show 63 < (s ^^^ 2 ^ b) + 64 by omega), Nat.testBit_and]
    simp
  unfold hvc hnx
  rw [e, e, e, e, e, e]
/-- children 0 .. c - 1 have gone -/
def hw (A : Nat → Nat) : Nat → Nat → Nat
  | 0, s => if s = 0 then 1 else 0
  | c + 1, s => hnx (A c) (hw A c) s
theorem hct_le {A : Nat} {w : Nat → Nat} {B i j s b : Nat} (hw : ∀ s, w s ≤ B) : hct A w i j s b ≤ B := by
  unfold hct
  split
  · exact hw _
  · omega
theorem hvc_le {A : Nat} {w : Nat → Nat} {B i j s : Nat} (hw : ∀ s, w s ≤ B) : hvc A w i j s ≤ 7 * B := by
  unfold hvc
  have := hw s
  have := hct_le (A := A) (i := i) (j := j) (s := s) (b := 0) hw
  have := hct_le (A := A) (i := i) (j := j) (s := s) (b := 1) hw
  have := hct_le (A := A) (i := i) (j := j) (s := s) (b := 2) hw
  have := hct_le (A := A) (i := i) (j := j) (s := s) (b := 3) hw
  have := hct_le (A := A) (i := i) (j := j) (s := s) (b := 4) hw
  have := hct_le (A := A) (i := i) (j := j) (s := s) (b := 5) hw
  omega
theorem hw_le (A : Nat → Nat) : ∀ c s, hw A c s ≤ 7 ^ c
  | 0, s => by rw [hw]; split <;> simp
  | c + 1, s => by
    rw [hw, ← hvc_end]
    have := hvc_le (A := A c) (i := 64) (j := 0) (s := s) (hw_le A c)
    rw [Nat.pow_succ]
    omega
theorem hw_le6 (A : Nat → Nat) (c s : Nat) (hc : c ≤ 6) : hw A c s ≤ 117649 := by
  have h1 := hw_le A c s
  have h2 : 7 ^ c ≤ 7 ^ 6 := Nat.pow_le_pow_right (by decide) hc
  have h3 : 7 ^ 6 = 117649 := by decide
  omega
/-- the sets that hold most, and in how many ways -/
def hms (w : Nat → Nat) (i m : Nat) : Nat := if w i = 0 then m else Nat.max m (pc i)
def hmr (w : Nat → Nat) (i : Nat) (s : Nat × Nat) : Nat × Nat := if w i = 0 then s else if pc i < s.1 then s else (pc i, if s.1 < pc i then w i else s.2 + w i)
def hsum (w : Nat → Nat) (m i : Nat) (s : Nat) : Nat := if pc i = m then s + w i else s
theorem hm_eq (w : Nat → Nat) (n : Nat) : fo (hmr w) 0 n (0, 0) = (fo (hms w) 0 n 0, fo (hsum w (fo (hms w) 0 n 0)) 0 n 0) := by
  have key := fo_rel (st := hmr w) (st' := fun i (q : Nat × (Nat → Nat)) => (hms w i q.1, fun m => hsum w m i (q.2 m))) (fun _ s q => s.1 = q.1 ∧ s.2 = q.2 q.1 ∧ ∀ m, q.1 < m → q.2 m = 0) n (fun i s q hi r => by
    obtain ⟨r1, r2, r3⟩ := r
    obtain ⟨q1, q2⟩ := q
    obtain ⟨s1, s2⟩ := s
    dsimp only at r1 r2 r3
    subst r1 r2
    unfold hmr hms hsum
    dsimp only
    by_cases z : w i = 0
    · rw [if_pos z, if_pos z, z]
      refine ⟨rfl, ?_, fun m hm => ?_⟩
      · split <;> rfl
      · rw [r3 m hm]; split <;> rfl
    · rw [if_neg z, if_neg z]
      by_cases z2 : pc i < s1
      · have e : Nat.max s1 (pc i) = s1 := Nat.max_eq_left (by omega)
        rw [if_pos z2, e]
        refine ⟨rfl, ?_, fun m hm => ?_⟩
        · rw [if_neg (by omega)]
        · rw [if_neg (by omega)]; exact r3 m hm
      · have e : Nat.max s1 (pc i) = pc i := Nat.max_eq_right (by omega)
        rw [if_neg z2, e]
        refine ⟨rfl, ?_, fun m hm => ?_⟩
        · rw [if_pos rfl]
          by_cases z3 : s1 < pc i
          · rw [if_pos z3, r3 _ z3, Nat.zero_add]
          · rw [if_neg z3, show s1 = pc i by omega]
        · rw [if_neg (by omega)]; exact r3 m (by omega)) n 0 (0, 0) (0, fun _ => 0) (by omega) ⟨rfl, rfl, fun _ _ => rfl⟩
  have f1 := fo_rel (st := fun i (q : Nat × (Nat → Nat)) => (hms w i q.1, fun m => hsum w m i (q.2 m))) (st' := hms w) (fun _ q m => q.1 = m) n (fun i q m _ e => by subst e; rfl) n 0 (0, fun _ => 0) 0 (by omega) rfl
  have f2 : ∀ m, (fo (fun i (q : Nat × (Nat → Nat)) => (hms w i q.1, fun m => hsum w m i (q.2 m))) 0 n (0, fun _ => 0)).2 m = fo (hsum w m) 0 n 0 := fun m => fo_rel (st := fun i (q : Nat × (Nat → Nat)) => (hms w i q.1, fun m => hsum w m i (q.2 m))) (st' := hsum w m) (fun _ q s => q.2 m = s) n (fun i q s _ e => by subst e; rfl) n 0 (0, fun _ => 0) 0 (by omega) rfl
  obtain ⟨k1, k2, _⟩ := key
  rw [f1] at k1
  rw [f2, f1] at k2
  exact Prod.ext k1 k2
theorem gset_nat {C : Nat → Int32} {a : Nat} : ∀ {n : Nat}, (∀ l, l < n → ∃ x y, x < 6 ∧ y < 6 ∧ C (2 * l) = nI x ∧ C (2 * l + 1) = nI y) → ∃ A, A < 64 ∧ gset C a n = nI A
  | 0, _ => ⟨0, by decide, nI_0.symm⟩
  | n + 1, h => by
    obtain ⟨A, a1, a2⟩ := gset_nat (a := a) (n := n) (fun l hl => h l (by omega))
    obtain ⟨x, y, h1, h2, h3, h4⟩ := h n (by omega)
    rw [gset]
    split
    · refine ⟨A ||| 2 ^ y, Nat.or_lt_two_pow (n := 6) a1 (Nat.pow_lt_pow_right (by decide) h2), ?_⟩
      rw [a2, h4, jshl1 y (by omega), fa_or]
    · exact ⟨A, a1, a2⟩
/-- an array of numbers -/
def Vec (h : PH) (o n : Nat) (f : Nat → Nat) : Prop := ∀ j, j < n → gI h o j = nI (f j)
theorem Vec.cg {h : PH} {o n : Nat} {f g : Nat → Nat} (t : Vec h o n f) (e : ∀ j, j < n → f j = g j) : Vec h o n g := fun j hj => by rw [← e j hj]; exact t j hj
theorem Vec.put {h : PH} {o n k x : Nat} {f g : Nat → Nat} (t : Vec h o n f) (e1 : g k = x) (e2 : ∀ j, j < n → j ≠ k → g j = f j) : Vec (sI h o k (nI x)) o n g := fun j hj => by
  by_cases q : j = k
  · subst q; rw [e1]; simp (disch := omega) only [gI_q, gI_n1, gI_n2]
  · simp (disch := omega) only [gI_q, gI_n1, gI_n2]; rw [e2 j hj q]; exact t j hj
