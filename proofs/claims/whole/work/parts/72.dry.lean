/-! ===== driest ===== -/
/-- as before but for the two rows and which of them is which -/
def Sd (p q b : Nat) (h s : PH) : Prop := gK s = gK h ∧ gN s = gN h ∧ gX s = gX h ∧ (∀ a k, ¬ (a = b + 124 ∧ (k = 4 ∨ k = 5)) → gR s a k = gR h a k) ∧ gR s (b + 124) 4 = some (b + p) ∧ gR s (b + 124) 5 = some (b + q) ∧ ∀ o j, inL [(129, 0, 10), (130, 0, 10)] o j = false → gI s (b + o) j = gI h (b + o) j
def PQ (p q : Nat) : Prop := (p = 129 ∧ q = 130) ∨ (p = 130 ∧ q = 129)
theorem PQ.sw {p q : Nat} (h : PQ p q) : PQ q p := h.elim (fun z => Or.inr ⟨z.2, z.1⟩) (fun z => Or.inl ⟨z.2, z.1⟩)
theorem Sd.put {p q b : Nat} {h s : PH} (t : Sd p q b h s) (o k : Nat) (v : Int32) (ho : o = 129 ∨ o = 130) (hk : k < 10) : Sd p q b h (sI s (b + o) k v) := by
  obtain ⟨t1, t2, t3, t4, t5, t6, t7⟩ := t
  refine ⟨t1, t2, t3, t4, t5, t6, fun o' j h1 => ?_⟩
  by_cases z : o' = o ∧ j = k
  · obtain ⟨rfl, rfl⟩ := z
    rcases ho with rfl | rfl
    · rw [inL_in (lo := 0) (hi := 10) (by decide) (by omega) hk] at h1; cases h1
    · rw [inL_in (lo := 0) (hi := 10) (by decide) (by omega) hk] at h1; cases h1
  · rw [gI_sI, if_neg (fun y => z ⟨by omega, y.2⟩)]
    exact t7 o' j h1
theorem Sd.swap {p q b : Nat} {h s : PH} (t : Sd p q b h s) : Sd q p b h (sR (sR s (b + 124) 4 (some (b + q))) (b + 124) 5 (some (b + p))) := by
  obtain ⟨t1, t2, t3, t4, t5, t6, t7⟩ := t
  refine ⟨t1, t2, t3, fun a k hk => ?_, ?_, ?_, t7⟩
  · rw [gR_sR, gR_sR, if_neg (fun z => hk ⟨z.1, Or.inr z.2⟩), if_neg (fun z => hk ⟨z.1, Or.inl z.2⟩)]
    exact t4 a k hk
  · rw [gR_sR, gR_sR, if_neg (fun z => absurd z.2 (by decide)), if_pos ⟨rfl, rfl⟩]
  · rw [gR_sR, if_pos ⟨rfl, rfl⟩]
theorem RT_desk {o k q : Nat} (h : RT o k = some q) : ¬ (o = 124 ∧ (k = 4 ∨ k = 5)) := by
  rintro ⟨rfl, rfl | rfl⟩
  · have e : RT 124 4 = none := rfl
    rw [e] at h; cases h
  · have e : RT 124 5 = none := rfl
    rw [e] at h; cases h
theorem Inv.sd {p q b : Nat} {h s : PH} (pq : PQ p q) (t : Sd p q b h s) (I : Inv b h) : Inv b s := by
  obtain ⟨t1, t2, t3, t4, t5, t6, t7⟩ := t
  have I2 : Inv b (s.1, h.2.1, s.2.2) := Inv.cg (L := [(129, 0, 10), (130, 0, 10)]) ⟨t1, rfl, t2, t3, t7⟩ (by decide) I
  obtain ⟨s, cd, c_stat, c_realm, c_book, c_law, c_kin, c_shi, c_roa, c_ord, c_han, c_wei, c_bag, c_pri, c_cnt, c_led, c_yea, c_log, c_rdr, c_msc, c_img⟩ := I2
  refine ⟨⟨s.1, fun o k q hr => ?_⟩, ?_, c_stat, c_realm, c_book, c_law, c_kin, c_shi, c_roa, c_ord, c_han, c_wei, c_bag, c_pri, c_cnt, c_led, c_yea, c_log, c_rdr, c_msc, ?_⟩
  · rw [t4 (b + o) k (fun z => RT_desk hr ⟨by omega, z.2⟩)]
    exact s.2 o k q hr
  · rcases pq with ⟨rfl, rfl⟩ | ⟨rfl, rfl⟩
    · exact Or.inl ⟨t5, t6⟩
    · exact Or.inr ⟨t5, t6⟩
  · rcases c_img with ⟨c1, c2, c3⟩ | ⟨c1, c2, c3, c4, c5, c6⟩
    · exact Or.inl ⟨by rw [t4 b 5 (fun z => absurd z.1 (by omega))]; exact c1, c2, c3⟩
    · exact Or.inr ⟨by rw [t4 b 5 (fun z => absurd z.1 (by omega))]; exact c1, c2, c3, c4, fun o k q ho hr => by rw [t4 _ k (fun z => absurd z.1 (by omega))]; exact c5 o k q ho hr, c6⟩
/-- a wetness, or none: the class, the reference -/
def ec : Option Nat → Int32
  | none => -1
  | some x => nI x
def er : Option Nat → Int32
  | none => 100000000
  | some x => nI x
def Ov (h : PH) (o : Nat) (e : Option Nat → Int32) (n : Nat) (L : Nat → Option Nat) : Prop := ∀ j, j < n → gI h o j = e (L j)
/-- is it the first road between these two -/
def fr (X Y : Nat → Nat) (k : Nat) : Int32 := fox (fun o (_ : Unit) => decide (X o = X k ∧ Y o = Y k)) (fun _ _ => (0 : Int32)) (fun _ s => s) (fun _ => (1 : Int32)) 0 k ()
def rw1 (U W : Nat → Nat) (k x : Nat) : Nat := Nat.min 99 (x - U k + W k)
def mn (o : Option Nat) (w : Nat) : Nat := match o with
  | none => w
  | some y => Nat.min y w
def gs (X Y U W : Nat → Nat) (L : Nat → Option Nat) (k : Nat) (T : Nat → Option Nat) : Nat → Option Nat := if fr X Y k = 0 then T else match L (X k) with
  | none => T
  | some x => fun p => if p = Y k then some (mn (T p) (rw1 U W k x)) else T p
/-- all roads are gone -/
def nxL (X Y U W : Nat → Nat) (n : Nat) (L : Nat → Option Nat) : Nat → Option Nat := fo (gs X Y U W L) 0 n (fun _ => none)
def Ls (X Y U W : Nat → Nat) (n : Nat) (L0 : Nat → Option Nat) : Nat → Nat → Option Nat
  | 0 => L0
  | r + 1 => nxL X Y U W n (Ls X Y U W n L0 r)
def LB (L : Nat → Option Nat) : Prop := ∀ p x, L p = some x → x ≤ 99
theorem gs_LB {X Y U W : Nat → Nat} {L T : Nat → Option Nat} {k : Nat} (h : LB T) : LB (gs X Y U W L k T) := by
  unfold gs
  split
  · exact h
  · split
    · exact h
    · intro p x hx
      dsimp only at hx
      by_cases q : p = Y k
      · rw [if_pos q] at hx
        have hr : ∀ z, rw1 U W k z ≤ 99 := fun z => Nat.min_le_left _ _
        cases hT : T p with
        | none => rw [hT] at hx; unfold mn at hx; cases hx; exact hr _
        | some y => rw [hT] at hx; unfold mn at hx; cases hx; exact Nat.le_trans (Nat.min_le_right _ _) (hr _)
      · rw [if_neg q] at hx; exact h p x hx
theorem nxL_LB {X Y U W : Nat → Nat} {n : Nat} {L : Nat → Option Nat} (i : Nat) : LB (fo (gs X Y U W L) 0 i (fun _ => none)) :=
  fo_inv (fun _ T => LB T) i (fun k T _ hT => gs_LB hT) i 0 _ (by omega) (fun p x hx => by cases hx)
theorem Ls_LB {X Y U W : Nat → Nat} {n : Nat} {L0 : Nat → Option Nat} (h : LB L0) : ∀ r, LB (Ls X Y U W n L0 r)
  | 0 => h
  | r + 1 => nxL_LB (n := n) n
/-- the best so far and when -/
def bfu (r : Nat) (s : Option Nat × Int32) (here : Option Nat) : Option Nat × Int32 := match here with
  | none => s
  | some x => match s.1 with
    | none => (some x, nI r)
    | some y => if x < y then (some x, nI r) else s
def bf (L : Nat → Nat → Option Nat) (to : Nat) : Nat → Option Nat × Int32
  | 0 => (none, -1)
  | r + 1 => bfu r (bf L to r) (L r to)
theorem bf_B {L : Nat → Nat → Option Nat} {to : Nat} (h : ∀ r, LB (L r)) : ∀ r, (∀ x, (bf L to r).1 = some x → x ≤ 99) ∧ ((bf L to r).1 = none → (bf L to r).2 = -1)
  | 0 => ⟨fun x hx => (by cases hx), fun _ => rfl⟩
  | r + 1 => by
    obtain ⟨i1, i2⟩ := bf_B (to := to) h r
    rw [bf]
    unfold bfu
    cases q : L r to with
    | none => exact ⟨i1, i2⟩
    | some x =>
      have hx := h r to x q
      dsimp only
      cases q2 : (bf L to r).1 with
      | none => exact ⟨fun y hy => by cases hy; exact hx, fun z => by cases z⟩
      | some y =>
        dsimp only
        by_cases q3 : x < y
        · rw [if_pos q3]; exact ⟨fun y hy => by cases hy; exact hx, fun z => by cases z⟩
        · rw [if_neg q3]; exact ⟨i1, i2⟩
theorem nI_m1 {x : Nat} (hx : x ≤ 99) : ¬ nI x = -1 := fun e => by
  have h1 : (nI x).toInt = (x : Int) := iI_toInt (z := (x : Int)) (by omega) (by omega)
  rw [e] at h1
  have h2 : (-1 : Int32).toInt = -1 := rfl
  omega
theorem nI_far {x : Nat} (hx : x ≤ 99) : ¬ nI x = 100000000 := fun e => by
  have : x = 100000000 := (nI_eqL (n := 100000000) (by omega) (by decide)).mp e
  omega
theorem dry_c {x u w : Nat} (hx : x ≤ 99) (hu : u ≤ 99) (hw : w ≤ 99) : jmin 99 (jmax 0 (nI x - nI u) + nI w) = nI (Nat.min 99 (x - u + w)) := by
  have e0 : (0 : Int32) = iI 0 := by decide
  have e1 : jmax 0 (nI x - nI u) = nI (x - u) := by
    rw [e0, iI_nat, iI_nat, iI_sub, iI_max (by omega) (by omega) (by omega) (by omega), iI_nat]
    congr 1
    omega
  rw [e1, nI_add]
  exact jminN (a := 99) (by omega) (by omega)
theorem dry_m {a : Nat} {h : PH} {x u : Nat} (hx : x ≤ 99) (hu : u ≤ 99) : f_Mo_greater a 0 (nI x - nI u) h = some (nI (x - u), h) := by
  have e0 : (0 : Int32) = iI 0 := by decide
  have e2 : nI (x - u) = iI (max 0 ((x : Int) - u)) := by
    rw [iI_nat]; congr 1; omega
  rw [e0, e2, iI_nat, iI_nat, iI_sub, mo_greater (by omega) (by omega) (by omega) (by omega)]
theorem dry_m2 {a : Nat} {h : PH} {y : Nat} (hy : y ≤ 10000) : f_Mo_lesser a 99 (nI y) h = some (nI (Nat.min 99 y), h) := mo_lesserN (x := 99) (by omega) (by omega)
