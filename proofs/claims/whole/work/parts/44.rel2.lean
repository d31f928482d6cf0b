/-! the parts of the relation: each on the contents of its cells; '.cg': only these slots matter -/
def RowN (F : Nat → Int32) (w n : Nat) : Prop := F 0 = nI w ∧ F 2 = nI n
def BookR (f g : Nat → Int32) : Prop := ∀ j, j < 600 → f j = g j
theorem BookR.cg {f g f' g' : Nat → Int32} (e1 : ∀ j, j < 600 → f' j = f j) (e2 : ∀ j, j < 600 → g' j = g j) (h : BookR f g) : BookR f' g' := fun j hj => by rw [e1 j hj, e2 j hj]; exact h j hj
/-- whose kin a traveller is by the first n lines -/
def kset (C : Nat → Int32) (t : Nat) : Nat → Int32
  | 0 => 0
  | n + 1 => if C (4 * n) = nI t then kset C t n ||| jshl 1 (C (4 * n + 1)) else if C (4 * n + 1) = nI t then kset C t n ||| jshl 1 (C (4 * n)) else kset C t n
theorem kset_cg {C C' : Nat → Int32} {t : Nat} : ∀ {n : Nat}, n ≤ 16 → (∀ j, j < 64 → C' j = C j) → kset C' t n = kset C t n
  | 0, _, _ => rfl
  | n + 1, hn, e => by
    unfold kset
    rw [kset_cg (by omega) e, e (4 * n) (by omega), e (4 * n + 1) (by omega)]
def KinR (nt : Nat) (F C : Nat → Int32) (many : Int32) (mk : Nat → Int32) : Prop := ∃ n, n ≤ 16 ∧ RowN F 4 n ∧ many = nI n ∧ (∀ l, l < n → ∃ x y, x < nt ∧ y < nt ∧ x ≠ y ∧ C (4 * l) = nI x ∧ C (4 * l + 1) = nI y) ∧ ∀ t, t < 12 → mk t = kset C t n
theorem KinR.cg {nt : Nat} {F C mk F' C' mk' : Nat → Int32} {many : Int32} (e1 : ∀ j, j < 3 → F' j = F j) (e2 : ∀ j, j < 64 → C' j = C j) (e3 : ∀ j, j < 12 → mk' j = mk j) (h : KinR nt F C many mk) : KinR nt F' C' many mk' := by
  obtain ⟨n, h1, h2, h3, h4, h5⟩ := h
  refine ⟨n, h1, ⟨by rw [e1 0 (by omega)]; exact h2.1, by rw [e1 2 (by omega)]; exact h2.2⟩, h3, fun l hl => ?_, fun t ht => ?_⟩
  · obtain ⟨x, y, a1, a2, a3, a4, a5⟩ := h4 l hl
    exact ⟨x, y, a1, a2, a3, by rw [e2 _ (by omega)]; exact a4, by rw [e2 _ (by omega)]; exact a5⟩
  · rw [e3 t ht, kset_cg h1 e2]; exact h5 t ht
/-- the reference's number of a deed -/
def dcode (w : Nat) : Nat := if w = 0 then 0 else if w = 1 then 5 else if w = 2 then 6 else if w = 3 then 4 else if w = 4 then 2 else 3
def ShiR (nt no : Nat) (F C : Nat → Int32) (many : Int32) (md : Nat → Int32) : Prop := ∃ n, n ≤ 16 ∧ RowN F 4 n ∧ many = nI n ∧ ∀ l, l < n → ∃ hr w who, hr ≤ 999 ∧ w ≤ 5 ∧ (w ≤ 2 → who < nt) ∧ (w = 3 → who < no) ∧ (4 ≤ w → who < 4) ∧ C (4 * l) = nI hr ∧ md (4 * l) = nI hr ∧ C (4 * l + 1) = nI w ∧ md (4 * l + 1) = nI (dcode w) ∧ C (4 * l + 2) = nI who ∧ md (4 * l + 2) = nI who ∧ ((w = 0 ∨ w = 3) → ∃ v, v < 4 ∧ C (4 * l + 3) = nI v ∧ md (4 * l + 3) = nI v)
theorem ShiR.cg {nt no : Nat} {F C md F' C' md' : Nat → Int32} {many : Int32} (e1 : ∀ j, j < 3 → F' j = F j) (e2 : ∀ j, j < 64 → C' j = C j) (e3 : ∀ j, j < 64 → md' j = md j) (h : ShiR nt no F C many md) : ShiR nt no F' C' many md' := by
  obtain ⟨n, h1, h2, h3, h4⟩ := h
  refine ⟨n, h1, ⟨by rw [e1 0 (by omega)]; exact h2.1, by rw [e1 2 (by omega)]; exact h2.2⟩, h3, fun l hl => ?_⟩
  obtain ⟨hr, w, who, a1, a2, a3, a4, a5, a6, a7, a8, a9, a10, a11, a12⟩ := h4 l hl
  refine ⟨hr, w, who, a1, a2, a3, a4, a5, by rw [e2 _ (by omega)]; exact a6, by rw [e3 _ (by omega)]; exact a7, by rw [e2 _ (by omega)]; exact a8, by rw [e3 _ (by omega)]; exact a9, by rw [e2 _ (by omega)]; exact a10, by rw [e3 _ (by omega)]; exact a11, fun q => ?_⟩
  obtain ⟨v, b1, b2, b3⟩ := a12 q
  exact ⟨v, b1, by rw [e2 _ (by omega)]; exact b2, by rw [e3 _ (by omega)]; exact b3⟩
def RoaR (F C : Nat → Int32) (many : Int32) (mr : Nat → Int32) : Prop := ∃ n, n ≤ 16 ∧ RowN F 4 n ∧ many = nI n ∧ ∀ l, l < n → ∃ x y u w, x < 10 ∧ y < 10 ∧ u ≤ 99 ∧ w ≤ 99 ∧ C (4 * l) = nI x ∧ mr (4 * l) = nI x ∧ C (4 * l + 1) = nI y ∧ mr (4 * l + 1) = nI y ∧ C (4 * l + 2) = nI u ∧ mr (4 * l + 2) = nI u ∧ C (4 * l + 3) = nI w ∧ mr (4 * l + 3) = nI w
theorem RoaR.cg {F C mr F' C' mr' : Nat → Int32} {many : Int32} (e1 : ∀ j, j < 3 → F' j = F j) (e2 : ∀ j, j < 64 → C' j = C j) (e3 : ∀ j, j < 64 → mr' j = mr j) (h : RoaR F C many mr) : RoaR F' C' many mr' := by
  obtain ⟨n, h1, h2, h3, h4⟩ := h
  refine ⟨n, h1, ⟨by rw [e1 0 (by omega)]; exact h2.1, by rw [e1 2 (by omega)]; exact h2.2⟩, h3, fun l hl => ?_⟩
  obtain ⟨x, y, u, w, a1, a2, a3, a4, a5, a6, a7, a8, a9, a10, a11, a12⟩ := h4 l hl
  exact ⟨x, y, u, w, a1, a2, a3, a4, by rw [e2 _ (by omega)]; exact a5, by rw [e3 _ (by omega)]; exact a6, by rw [e2 _ (by omega)]; exact a7, by rw [e3 _ (by omega)]; exact a8, by rw [e2 _ (by omega)]; exact a9, by rw [e3 _ (by omega)]; exact a10, by rw [e2 _ (by omega)]; exact a11, by rw [e3 _ (by omega)]; exact a12⟩
def OrdR (F C : Nat → Int32) (many : Int32) (m1 m2 m3 : Nat → Int32) : Prop := ∃ n, n ≤ 8 ∧ RowN F 3 n ∧ many = nI n ∧ ∀ l, l < n → ∃ x y u, x ≤ 99 ∧ y ≤ 9 ∧ 1 ≤ u ∧ u ≤ 9 ∧ C (3 * l) = nI x ∧ m1 l = nI x ∧ C (3 * l + 1) = nI y ∧ m2 l = nI y ∧ C (3 * l + 2) = nI u ∧ m3 l = nI u
theorem OrdR.cg {F C m1 m2 m3 F' C' m1' m2' m3' : Nat → Int32} {many : Int32} (e1 : ∀ j, j < 3 → F' j = F j) (e2 : ∀ j, j < 24 → C' j = C j) (e3 : ∀ j, j < 8 → m1' j = m1 j) (e4 : ∀ j, j < 8 → m2' j = m2 j) (e5 : ∀ j, j < 8 → m3' j = m3 j) (h : OrdR F C many m1 m2 m3) : OrdR F' C' many m1' m2' m3' := by
  obtain ⟨n, h1, h2, h3, h4⟩ := h
  refine ⟨n, h1, ⟨by rw [e1 0 (by omega)]; exact h2.1, by rw [e1 2 (by omega)]; exact h2.2⟩, h3, fun l hl => ?_⟩
  obtain ⟨x, y, u, a1, a2, a3, a4, a5, a6, a7, a8, a9, a10⟩ := h4 l hl
  exact ⟨x, y, u, a1, a2, a3, a4, by rw [e2 _ (by omega)]; exact a5, by rw [e3 _ (by omega)]; exact a6, by rw [e2 _ (by omega)]; exact a7, by rw [e4 _ (by omega)]; exact a8, by rw [e2 _ (by omega)]; exact a9, by rw [e5 _ (by omega)]; exact a10⟩
/-- whose hand a child can go in, by the first n couples -/
def gset (C : Nat → Int32) (a : Nat) : Nat → Int32
  | 0 => 0
  | n + 1 => if C (2 * n) = nI a then gset C a n ||| jshl 1 (C (2 * n + 1)) else gset C a n
theorem gset_cg {C C' : Nat → Int32} {t : Nat} : ∀ {n : Nat}, n ≤ 16 → (∀ j, j < 32 → C' j = C j) → gset C' t n = gset C t n
  | 0, _, _ => rfl
  | n + 1, hn, e => by
    unfold gset
    rw [gset_cg (by omega) e, e (2 * n) (by omega), e (2 * n + 1) (by omega)]
def HanR (F C : Nat → Int32) (many : Int32) (mg : Nat → Int32) : Prop := ∃ n, n ≤ 16 ∧ RowN F 2 n ∧ many = nI n ∧ (∀ l, l < n → ∃ x y, x < 6 ∧ y < 6 ∧ C (2 * l) = nI x ∧ C (2 * l + 1) = nI y) ∧ ∀ a, a < 6 → mg a = gset C a n
theorem HanR.cg {F C mg F' C' mg' : Nat → Int32} {many : Int32} (e1 : ∀ j, j < 3 → F' j = F j) (e2 : ∀ j, j < 32 → C' j = C j) (e3 : ∀ j, j < 6 → mg' j = mg j) (h : HanR F C many mg) : HanR F' C' many mg' := by
  obtain ⟨n, h1, h2, h3, h4, h5⟩ := h
  refine ⟨n, h1, ⟨by rw [e1 0 (by omega)]; exact h2.1, by rw [e1 2 (by omega)]; exact h2.2⟩, h3, fun l hl => ?_, fun t ht => ?_⟩
  · obtain ⟨x, y, a1, a2, a3, a4⟩ := h4 l hl
    exact ⟨x, y, a1, a2, by rw [e2 _ (by omega)]; exact a3, by rw [e2 _ (by omega)]; exact a4⟩
  · rw [e3 t ht, gset_cg h1 e2]; exact h5 t ht
/-- a list of numbers between two bounds, M of them at most -/
def LisR (M lo hi : Nat) (F C : Nat → Int32) (many : Int32) (m : Nat → Int32) : Prop := ∃ n, n ≤ M ∧ RowN F 1 n ∧ many = nI n ∧ ∀ l, l < n → ∃ x, lo ≤ x ∧ x ≤ hi ∧ C l = nI x ∧ m l = nI x
theorem LisR.cg {M lo hi : Nat} {F C m F' C' m' : Nat → Int32} {many : Int32} (e1 : ∀ j, j < 3 → F' j = F j) (e2 : ∀ j, j < M → C' j = C j) (e3 : ∀ j, j < M → m' j = m j) (h : LisR M lo hi F C many m) : LisR M lo hi F' C' many m' := by
  obtain ⟨n, h1, h2, h3, h4⟩ := h
  refine ⟨n, h1, ⟨by rw [e1 0 (by omega)]; exact h2.1, by rw [e1 2 (by omega)]; exact h2.2⟩, h3, fun l hl => ?_⟩
  obtain ⟨x, a1, a2, a3, a4⟩ := h4 l hl
  exact ⟨x, a1, a2, by rw [e2 _ (by omega)]; exact a3, by rw [e3 _ (by omega)]; exact a4⟩
/-- what was weighed: sets of the bags that there are -/
def WgdR (nb : Nat) (F C : Nat → Int32) (many : Int32) (m1 m2 : Nat → Int32) : Prop := ∃ n, n ≤ 6 ∧ RowN F 2 n ∧ many = nI n ∧ ∀ l, l < n → ∃ x y, x < 2 ^ nb ∧ y ≤ 9999 ∧ C (2 * l) = nI x ∧ m1 l = nI x ∧ C (2 * l + 1) = nI y ∧ m2 l = nI y
theorem WgdR.cg {nb : Nat} {F C m1 m2 F' C' m1' m2' : Nat → Int32} {many : Int32} (e1 : ∀ j, j < 3 → F' j = F j) (e2 : ∀ j, j < 12 → C' j = C j) (e3 : ∀ j, j < 6 → m1' j = m1 j) (e4 : ∀ j, j < 6 → m2' j = m2 j) (h : WgdR nb F C many m1 m2) : WgdR nb F' C' many m1' m2' := by
  obtain ⟨n, h1, h2, h3, h4⟩ := h
  refine ⟨n, h1, ⟨by rw [e1 0 (by omega)]; exact h2.1, by rw [e1 2 (by omega)]; exact h2.2⟩, h3, fun l hl => ?_⟩
  obtain ⟨x, y, a1, a2, a3, a4, a5, a6⟩ := h4 l hl
  exact ⟨x, y, a1, a2, by rw [e2 _ (by omega)]; exact a3, by rw [e3 _ (by omega)]; exact a4, by rw [e2 _ (by omega)]; exact a5, by rw [e4 _ (by omega)]; exact a6⟩
/-- figures that both hold alike -/
def FigR (N M : Nat) (hi1 hi2 : Nat) (f g : Nat → Int32) : Prop := ∀ j, j < N → ∃ x, x ≤ (if j < M then hi1 else hi2) ∧ f j = nI x ∧ g j = nI x
theorem FigR.cg {N M hi1 hi2 : Nat} {f g f' g' : Nat → Int32} (e1 : ∀ j, j < N → f' j = f j) (e2 : ∀ j, j < N → g' j = g j) (h : FigR N M hi1 hi2 f g) : FigR N M hi1 hi2 f' g' := fun j hj => by
  obtain ⟨x, a1, a2, a3⟩ := h j hj
  exact ⟨x, a1, by rw [e1 j hj]; exact a2, by rw [e2 j hj]; exact a3⟩
def YeaR (y w my mw : Int32) : Prop := ∃ n x, n ≤ 30 ∧ x < 2 ^ n ∧ y = nI n ∧ my = nI n ∧ w = nI x ∧ mw = nI x
theorem RlR.cg {F ca gr co we att ga ns so ti F' ca' gr' co' we' att' ga' ns' so' ti' : Nat → Int32} {nt no : Nat} {mca mgr mns mso g mca' mgr' mns' mso' g' : Nat → Int32} (hnt : nt ≤ 12) (hno : no ≤ 6) (e0 : ∀ j, j < 20 → F' j = F j) (e1 : ∀ j, j < 12 → ca' j = ca j) (e2 : ∀ j, j < 12 → gr' j = gr j) (e3 : ∀ j, j < 12 → co' j = co j) (e4 : ∀ j, j < 12 → we' j = we j) (e5 : ∀ j, j < 12 → att' j = att j) (e6 : ∀ j, j < 6 → ga' j = ga j) (e7 : ∀ j, j < 6 → ns' j = ns j) (e8 : ∀ j, j < 6 → so' j = so j) (e9 : ∀ j, j < 6 → ti' j = ti j)
    (m1 : ∀ j, j < 12 → mca' j = mca j) (m2 : ∀ j, j < 12 → mgr' j = mgr j) (m3 : ∀ j, j < 6 → mns' j = mns j) (m4 : ∀ j, j < 6 → mso' j = mso j) (m5 : ∀ j, j < 79 → g' j = g j) (h : RlR F ca gr co we att ga ns so ti nt no mca mgr mns mso g) : RlR F' ca' gr' co' we' att' ga' ns' so' ti' nt no mca' mgr' mns' mso' g' := by
  obtain ⟨h1, h2, h3, h4, h5, h6, h7, h8, h9, h10, h11, h12, h13⟩ := h
  have bsc : ∀ (k n : Nat), n ≤ 12 → k ≤ 55 → bs n (fun t => g' (k + t) == 1) = bs n (fun t => g (k + t) == 1) := by
    intro k n
    induction n with
    | zero => intro _ _; rfl
    | succ n ih =>
      intro hn hk
      unfold bs
      rw [ih (by omega) hk]
      simp only [m5 (k + n) (by omega)]
  refine ⟨by rw [e0 1 (by omega)]; exact h1, by rw [e0 9 (by omega)]; exact h2, by rw [e0 0 (by omega), m5 1 (by omega)]; exact h3, by rw [e0 15 (by omega), m5 3 (by omega)]; exact h4, by rw [e0 16 (by omega), m5 4 (by omega)]; exact h5, by rw [e0 17 (by omega), m5 5 (by omega)]; exact h6, by rw [e0 18 (by omega), m5 0 (by omega)]; exact h7, by rw [e0 19 (by omega), m5 2 (by omega)]; exact h8, by rw [e0 14 (by omega), m5 6 (by omega)]; exact h9, by rw [e0 7 (by omega), bsc 43 nt hnt (by omega)]; exact h10, by rw [e0 8 (by omega), bsc 55 nt hnt (by omega)]; exact h11, fun t ht => ?_, fun o ho => ?_⟩
  · obtain ⟨a1, a2, a3, a4, a5⟩ := h12 t ht
    exact ⟨by rw [e1 t (by omega), m1 t (by omega)]; exact a1, by rw [e2 t (by omega), m2 t (by omega)]; exact a2, by rw [e3 t (by omega), m5 _ (by omega)]; exact a3, by rw [e4 t (by omega), m5 _ (by omega)]; exact a4, by rw [e5 t (by omega), m5 _ (by omega)]; exact a5⟩
  · obtain ⟨a1, a2, a3, a4⟩ := h13 o ho
    exact ⟨by rw [e6 o (by omega), m5 _ (by omega)]; exact a1, by rw [e7 o (by omega), m3 o (by omega)]; exact a2, by rw [e8 o (by omega), m4 o (by omega)]; exact a3, by rw [e9 o (by omega), m5 _ (by omega)]; exact a4⟩
theorem StatOK.cg {nt no : Nat} {ca gr ns so ca' gr' ns' so' : Nat → Int32} (e1 : ∀ j, j < 12 → ca' j = ca j) (e2 : ∀ j, j < 12 → gr' j = gr j) (e3 : ∀ j, j < 6 → ns' j = ns j) (e4 : ∀ j, j < 6 → so' j = so j) (h : StatOK nt no ca gr ns so) : StatOK nt no ca' gr' ns' so' := by
  obtain ⟨h1, h2, h3, h4⟩ := h
  exact ⟨h1, h2, fun t ht => by rw [e1 t (by omega), e2 t (by omega)]; exact h3 t ht, fun o ho => by rw [e3 o (by omega), e4 o (by omega)]; exact h4 o ho⟩
theorem RowOK.cg {nt no : Nat} {g g' : Nat → Int32} (hnt : nt ≤ 12) (hno : no ≤ 6) (e : ∀ j, j < 79 → g' j = g j) (h : RowOK nt no g) : RowOK nt no g' := by
  obtain ⟨h1, h2, h3, h4, h5⟩ := h
  exact ⟨by rw [e 0 (by omega)]; exact h1, by rw [e 2 (by omega)]; exact h2, by rw [e 6 (by omega)]; exact h3, fun t ht => by rw [e _ (by omega), e _ (by omega), e _ (by omega), e _ (by omega), e _ (by omega)]; exact h4 t ht, fun o ho => by rw [e _ (by omega), e _ (by omega)]; exact h5 o ho⟩
/-! the law: its codes, with a stack of types beside them (0 an int, 1 a condition, 2 a number that isn't 0) -/
def ck1 (op arg : Int32) (S : List Nat) : Option (List Nat) :=
  if op = 0 then (if arg = nI arg.toNatClampNeg ∧ arg.toNatClampNeg ≤ 9999 then some ((if arg = 0 then 0 else 2) :: S) else none)
  else if op = 1 then (if arg = nI arg.toNatClampNeg ∧ arg.toNatClampNeg < 10 then some (0 :: S) else none)
  else match S with
    | y :: x :: r =>
      if op = 2 ∨ op = 3 ∨ op = 4 then (if x ≠ 1 ∧ y ≠ 1 then some (0 :: r) else none)
      else if op = 5 then (if x ≠ 1 ∧ y = 2 then some (0 :: r) else none)
      else if op = 6 ∨ op = 7 ∨ op = 8 then (if x ≠ 1 ∧ y ≠ 1 then some (1 :: r) else none)
      else if op = 9 then (if y = 1 then some (1 :: x :: r) else none)
      else if op = 10 ∨ op = 11 then (if x = 1 ∧ y = 1 then some (1 :: r) else none)
      else none
    | [y] => if op = 9 ∧ y = 1 then some [1] else none
    | [] => none
def segT (mo ma : Nat → Int32) : Nat → Nat → List Nat → Option (List Nat)
  | 0, _, S => some S
  | n + 1, f, S => (ck1 (mo f) (ma f) S).bind fun S' => if S'.length ≤ 30 then segT mo ma n (f + 1) S' else none
theorem segT_cg {mo ma mo' ma' : Nat → Int32} : ∀ {n f : Nat} {S : List Nat}, (∀ i, f ≤ i → i < f + n → mo' i = mo i ∧ ma' i = ma i) → segT mo' ma' n f S = segT mo ma n f S
  | 0, _, _, _ => rfl
  | n + 1, f, S, e => by
    unfold segT
    rw [(e f (Nat.le_refl _) (by omega)).1, (e f (Nat.le_refl _) (by omega)).2]
    congr 1
    funext S'
    split
    · exact segT_cg (fun i h1 h2 => e i (by omega) (by omega))
    · rfl
/-- the class's code of the reference's -/
def enc (op arg : Int32) : Int32 := if op = 0 then arg else if op = 1 then -1 - arg else if op = 9 then -20 else if op = 10 then -18 else if op = 11 then -19 else -9 - op
def LawR (used : Int32) (F C code : Nat → Int32) (many : Int32) (mw mf mn mt mo ma : Nat → Int32) : Prop := ∃ n u, n ≤ 16 ∧ u ≤ 400 ∧ RowN F 4 n ∧ used = nI u ∧ many = nI n ∧ (∀ i, i < u → code i = enc (mo i) (ma i)) ∧ ∀ l, l < n → ∃ w f t e, w ≤ 2 ∧ f ≤ t ∧ t ≤ e ∧ e ≤ u ∧ C (4 * l) = nI w ∧ mw l = nI w ∧ C (4 * l + 1) = nI f ∧ mf l = nI f ∧ C (4 * l + 2) = nI t ∧ mn l = nI t ∧ C (4 * l + 3) = nI e ∧ mt l = nI e ∧ (∃ x, x ≠ 1 ∧ segT mo ma (t - f) f [] = some [x]) ∧ (t = e ∨ segT mo ma (e - t) t [] = some [1])
theorem LawR.cg {used many : Int32} {F C code mw mf mn mt mo ma F' C' code' mw' mf' mn' mt' mo' ma' : Nat → Int32} (e1 : ∀ j, j < 3 → F' j = F j) (e2 : ∀ j, j < 64 → C' j = C j) (e3 : ∀ j, j < 400 → code' j = code j) (e4 : ∀ j, j < 16 → mw' j = mw j) (e5 : ∀ j, j < 16 → mf' j = mf j) (e6 : ∀ j, j < 16 → mn' j = mn j) (e7 : ∀ j, j < 16 → mt' j = mt j) (e8 : ∀ j, j < 400 → mo' j = mo j) (e9 : ∀ j, j < 400 → ma' j = ma j) (h : LawR used F C code many mw mf mn mt mo ma) : LawR used F' C' code' many mw' mf' mn' mt' mo' ma' := by
  obtain ⟨n, u, h1, h2, h3, h4, h5, h6, h7⟩ := h
  refine ⟨n, u, h1, h2, ⟨by rw [e1 0 (by omega)]; exact h3.1, by rw [e1 2 (by omega)]; exact h3.2⟩, h4, h5, fun i hi => by rw [e3 i (by omega), e8 i (by omega), e9 i (by omega)]; exact h6 i hi, fun l hl => ?_⟩
  obtain ⟨w, f, t, e, a1, a2, a3, a4, b1, b2, b3, b4, b5, b6, b7, b8, c1, c2⟩ := h7 l hl
  refine ⟨w, f, t, e, a1, a2, a3, a4, by rw [e2 _ (by omega)]; exact b1, by rw [e4 _ (by omega)]; exact b2, by rw [e2 _ (by omega)]; exact b3, by rw [e5 _ (by omega)]; exact b4, by rw [e2 _ (by omega)]; exact b5, by rw [e6 _ (by omega)]; exact b6, by rw [e2 _ (by omega)]; exact b7, by rw [e7 _ (by omega)]; exact b8, ?_, ?_⟩
  · obtain ⟨x, x1, x2⟩ := c1
    exact ⟨x, x1, by rw [segT_cg (fun i z1 z2 => ⟨e8 i (by omega), e9 i (by omega)⟩)]; exact x2⟩
  · rcases c2 with c2 | c2
    · exact Or.inl c2
    · exact Or.inr (by rw [segT_cg (fun i z1 z2 => ⟨e8 i (by omega), e9 i (by omega)⟩)]; exact c2)
