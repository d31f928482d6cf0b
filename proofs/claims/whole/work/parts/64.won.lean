/-! ===== won ===== -/
def iI (z : Int) : Int32 := Int32.ofInt z
theorem iI_add (a c : Int) : iI a + iI c = iI (a + c) := (Int32.ofInt_add a c).symm
theorem iI_sub (a c : Int) : iI a - iI c = iI (a - c) := (Int32.ofInt_sub a c).symm
theorem iI_nat (n : Nat) : nI n = iI n := rfl
theorem iI_toInt {z : Int} (h1 : -2147483648 ≤ z) (h2 : z < 2147483648) : (iI z).toInt = z := fb_ofI h1 h2
theorem iI_max {a c : Int} (a1 : -2147483648 ≤ a) (a2 : a < 2147483648) (c1 : -2147483648 ≤ c) (c2 : c < 2147483648) : jmax (iI a) (iI c) = iI (max a c) := by
  unfold jmax
  have e : (iI a < iI c) ↔ a < c := by rw [fa_lt, iI_toInt a1 a2, iI_toInt c1 c2]
  by_cases q : a < c
  · rw [if_pos (e.mpr q)]; congr 1; omega
  · rw [if_neg (fun z => q (e.mp z))]; congr 1; omega
theorem mo_greater {a : Nat} {h : PH} {x y : Int} (a1 : -2147483648 ≤ x) (a2 : x < 2147483648) (c1 : -2147483648 ≤ y) (c2 : y < 2147483648) : f_Mo_greater a (iI x) (iI y) h = some (iI (max x y), h) := by
  unfold f_Mo_greater
  have e : (iI x ≤ iI y) ↔ x ≤ y := by rw [fa_le, iI_toInt a1 a2, iI_toInt c1 c2]
  by_cases q : x ≤ y
  · rw [if_pos (e.mpr q)]; congr 3; omega
  · rw [if_neg (fun z => q (e.mp z))]; congr 3; omega
theorem mo_lesser {a : Nat} {h : PH} {x y : Int} (a1 : -2147483648 ≤ x) (a2 : x < 2147483648) (c1 : -2147483648 ≤ y) (c2 : y < 2147483648) : f_Mo_lesser a (iI x) (iI y) h = some (iI (min x y), h) := by
  unfold f_Mo_lesser
  have e : (iI y ≤ iI x) ↔ y ≤ x := by rw [fa_le, iI_toInt a1 a2, iI_toInt c1 c2]
  by_cases q : y ≤ x
  · rw [if_pos (e.mpr q)]; congr 3; omega
  · rw [if_neg (fun z => q (e.mp z))]; congr 3; omega
/-- a day of the class: with salt, without -/
def nx (k : Nat) (p : Int) (f : Nat → Int × Int) : Nat → Int × Int
  | 0 => f 0
  | j + 1 => if j + 1 ≤ k then (max (f (j + 1)).1 ((nx k p f j).2 - p), max (f (j + 1)).2 (max (f (j + 1)).1 ((nx k p f j).2 - p) + p)) else f (j + 1)
/-- a day of the reference -/
def rx (k : Nat) (p : Int) (f : Nat → Int × Int) : Nat → Int × Int
  | 0 => f 0
  | j + 1 => if j + 1 ≤ k then (max (f (j + 1)).1 ((rx k p f j).2 - p), max (f (j + 1)).2 ((f (j + 1)).1 + p)) else f (j + 1)
def mx (f : Nat → Int × Int) : Nat → Int
  | 0 => 0
  | m + 1 => max (mx f m) (f (m + 1)).2
def mw (f : Nat → Int × Int) : Nat → Int
  | 0 => -1000
  | m + 1 => max (mw f m) (f (m + 1)).1
def wonR (k : Nat) (f g : Nat → Int × Int) : Prop := (f 0).2 = 0 ∧ (g 0).2 = 0 ∧ ∀ m, m ≤ k → (f m).2 = mx g m ∧ (1 ≤ m → (f m).1 = mw g m)
theorem wonR_day {k : Nat} {p : Int} {f g : Nat → Int × Int} (p0 : 0 ≤ p) (p1 : p ≤ 99) (r : wonR k f g) : wonR k (nx k p f) (rx k p g) := by
  obtain ⟨r1, r2, r3⟩ := r
  have key : ∀ m, m ≤ k → (nx k p f m).2 = mx (rx k p g) m ∧ mx g m ≤ (nx k p f m).2 ∧ mw g m + p ≤ (nx k p f m).2 ∧ 0 ≤ (nx k p f m).2 ∧ max (mw (rx k p g) m) ((rx k p g m).2 - p) = max (mw g m) (mx (rx k p g) m - p) ∧ (1 ≤ m → (nx k p f m).1 = mw (rx k p g) m) := by
    intro m
    induction m with
    | zero =>
      intro _
      refine ⟨r1, ?_, ?_, ?_, ?_, fun z => absurd z (by omega)⟩
      · show (0 : Int) ≤ (f 0).2; omega
      · show -1000 + p ≤ (f 0).2; omega
      · show (0 : Int) ≤ (f 0).2; omega
      · show max (-1000) ((g 0).2 - p) = max (-1000) (0 - p); rw [r2]
    | succ m ih =>
      intro hm
      obtain ⟨i1, i2, i3, i4, i5, i6⟩ := ih (by omega)
      obtain ⟨q1, q2⟩ := r3 (m + 1) hm
      have q2 := q2 (by omega)
      have e1 : nx k p f (m + 1) = (max (f (m + 1)).1 ((nx k p f m).2 - p), max (f (m + 1)).2 (max (f (m + 1)).1 ((nx k p f m).2 - p) + p)) := by rw [nx, if_pos hm]
      have e2 : rx k p g (m + 1) = (max (g (m + 1)).1 ((rx k p g m).2 - p), max (g (m + 1)).2 ((g (m + 1)).1 + p)) := by rw [rx, if_pos hm]
      have e3 : mx g (m + 1) = max (mx g m) (g (m + 1)).2 := rfl
      have e4 : mw g (m + 1) = max (mw g m) (g (m + 1)).1 := rfl
      have e5 : mx (rx k p g) (m + 1) = max (mx (rx k p g) m) (rx k p g (m + 1)).2 := rfl
      have e6 : mw (rx k p g) (m + 1) = max (mw (rx k p g) m) (rx k p g (m + 1)).1 := rfl
      have e7 : (nx k p f (m + 1)).2 = max (f (m + 1)).2 (max (f (m + 1)).1 ((nx k p f m).2 - p) + p) := by rw [e1]
      have e8 : (nx k p f (m + 1)).1 = max (f (m + 1)).1 ((nx k p f m).2 - p) := by rw [e1]
      have e9 : (rx k p g (m + 1)).2 = max (g (m + 1)).2 ((g (m + 1)).1 + p) := by rw [e2]
      have e10 : (rx k p g (m + 1)).1 = max (g (m + 1)).1 ((rx k p g m).2 - p) := by rw [e2]
      rw [e5, e6, e7, e8, e9, e10, q1, q2, e3, e4, i1]
      generalize (rx k p g m).2 = A at *
      generalize mw (rx k p g) m = B at *
      generalize mx (rx k p g) m = C at *
      generalize mw g m = D at *
      generalize mx g m = E at *
      generalize (g (m + 1)).1 = F at *
      generalize (g (m + 1)).2 = G at *
      generalize (nx k p f m).2 = H at *
      subst i1
      refine ⟨?_, ?_, ?_, ?_, ?_, fun _ => ?_⟩ <;> omega
  refine ⟨r1, r2, fun m hm => ?_⟩
  obtain ⟨k1, _, _, _, _, k6⟩ := key m hm
  exact ⟨k1, k6⟩
def wst (nxt : Nat → Int → (Nat → Int × Int) → Nat → Int × Int) (k : Nat) (lo : Int) (P : Nat → Nat) : Nat → Nat → Int × Int
  | 0 => fun _ => (lo, 0)
  | d + 1 => nxt k (P d) (wst nxt k lo P d)
theorem wst_rel {k : Nat} {P : Nat → Nat} (hP : ∀ d, P d ≤ 99) : ∀ d, wonR k (wst nx k (-1000) P d) (wst rx k (-100000000) P d)
  | 0 => by
    have a1 : ∀ m, mx (fun _ => ((-100000000 : Int), (0 : Int))) m = 0 := fun m => by
      induction m with
      | zero => rfl
      | succ m ih => rw [mx, ih]; rfl
    have a2 : ∀ m, mw (fun _ => ((-100000000 : Int), (0 : Int))) m = -1000 := fun m => by
      induction m with
      | zero => rfl
      | succ m ih => rw [mw, ih]; rfl
    exact ⟨rfl, rfl, fun m _ => ⟨(a1 m).symm, fun _ => (a2 m).symm⟩⟩
  | d + 1 => wonR_day (by omega) (by have := hP d; omega) (wst_rel hP d)
