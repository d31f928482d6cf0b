/-! ===== crates ===== -/
theorem sI_sI (h : PH) (a k : Nat) (v w : Int32) : sI (sI h a k v) a k w = sI h a k w := by
  unfold sI
  refine Prod.ext ?_ rfl
  funext c j
  show (if c = a ∧ j = k then w else if c = a ∧ j = k then v else h.1 c j) = if c = a ∧ j = k then w else h.1 c j
  by_cases q : c = a ∧ j = k
  · rw [if_pos q, if_pos q]
  · rw [if_neg q, if_neg q, if_neg q]
theorem dv100 {a : Nat} (ha : a < 2147483648) : dvI (nI a) 100 = some (nI (a / 100)) := by
  unfold dvI
  rw [if_neg (by decide)]
  exact congrArg some (pk_div (d := 100) (by omega) (by omega) (by omega))
theorem rm100 {a : Nat} (ha : a < 2147483648) : rmI (nI a) 100 = some (nI (a % 100)) := by
  unfold rmI
  rw [if_neg (by decide)]
  exact congrArg some (pk_rem (d := 100) (by omega) (by omega) (by omega))
theorem b256_on : ∀ s, s < 256 → ∀ j, j < 8 → s.testBit j = true → s ^^^ 2 ^ j < s ∧ s ^^^ (s &&& 2 ^ j) = s ^^^ 2 ^ j := by decide +kernel
/-- one weight more: the class, the reference -/
def wcl (c a v : Nat) : Nat := if a % 100 + v ≤ c then a + v else a / 100 * 100 + 100 + v
def wrf (c a v : Nat) : Nat := if 0 < a / 100 ∧ a % 100 + v ≤ c then 100 * (a / 100) + a % 100 + v else 100 * (a / 100 + 1) + v
theorem wcl_wrf {c a v : Nat} (ha : 100 ≤ a) : wcl c a v = wrf c a v := by
  unfold wcl wrf
  by_cases q : a % 100 + v ≤ c
  · rw [if_pos q, if_pos ⟨by omega, q⟩]; omega
  · rw [if_neg q, if_neg (fun z => q z.2)]; omega
theorem wcl_0 {c v : Nat} (h1 : 1 ≤ c) (h2 : c ≤ 99) (h3 : 1 ≤ v) : wcl c c v = 100 + v ∧ wrf c 0 v = 100 + v := by
  unfold wcl wrf
  rw [if_neg (by omega), if_neg (by omega)]
  omega
theorem wrf_bd {c a v : Nat} (hv : v ≤ 40) : 100 ≤ wrf c a v ∧ wrf c a v ≤ a + 140 := by
  unfold wrf
  split <;> omega
def dpS (W : Nat → Nat → Nat) (X : Nat → Nat) (f : Nat → Nat) (t k a : Nat) : Nat := if t.testBit k then Nat.min a (W (f (t ^^^ 2 ^ k)) (X k)) else a
def dpv (W : Nat → Nat → Nat) (X : Nat → Nat) (n m : Nat) (f : Nat → Nat) (t : Nat) : Nat := fo (dpS W X f t) 0 n m
def dpU (W : Nat → Nat → Nat) (X : Nat → Nat) (n m : Nat) (t : Nat) (f : Nat → Nat) (j : Nat) : Nat := if j = t then dpv W X n m f t else f j
/-- the sets 1 .. t - 1 are done -/
def dpg (W : Nat → Nat → Nat) (X : Nat → Nat) (n m z t : Nat) : Nat → Nat := fo (dpU W X n m) 1 (t - 1) (fun _ => z)
theorem dpg_st (W : Nat → Nat → Nat) (X : Nat → Nat) (n m z : Nat) {t : Nat} (ht : 1 ≤ t) : dpg W X n m z (t + 1) = dpU W X n m t (dpg W X n m z t) := by
  unfold dpg
  obtain ⟨d, rfl⟩ : ∃ d, t = d + 1 := ⟨t - 1, by omega⟩
  rw [Nat.add_sub_cancel, Nat.add_sub_cancel, fo_succ, Nat.add_comm 1 d]
theorem some_bit : ∀ n t : Nat, 1 ≤ t → t < 2 ^ n → ∃ k, k < n ∧ t.testBit k = true := fun n t h1 h2 => by
  have hne : t ≠ 0 := by omega
  obtain ⟨k, hk⟩ := Nat.exists_testBit_of_ne_zero hne
  refine ⟨k, ?_, hk⟩
  by_cases q : k < n
  · exact q
  · have : t < 2 ^ k := Nat.lt_of_lt_of_le h2 (Nat.pow_le_pow_right (by decide) (by omega))
    rw [Nat.testBit_lt_two_pow this] at hk
    cases hk
theorem dp_rel {c n : Nat} {X : Nat → Nat} (c1 : 1 ≤ c) (c2 : c ≤ 99) (hn : n ≤ 8) (hX : ∀ k, k < n → 1 ≤ X k ∧ X k ≤ 40) : ∀ t, 1 ≤ t → t ≤ 2 ^ n → dpg (wcl c) X n 1000000 c t 0 = c ∧ dpg (wrf c) X n 100000000 0 t 0 = 0 ∧ ∀ j, 1 ≤ j → j < t → dpg (wcl c) X n 1000000 c t j = dpg (wrf c) X n 100000000 0 t j ∧ 100 ≤ dpg (wrf c) X n 100000000 0 t j ∧ dpg (wrf c) X n 100000000 0 t j ≤ 140 * (j + 1) := by
  intro t ht
  induction t with
  | zero => omega
  | succ t ih =>
    intro ht2
    rcases Nat.eq_zero_or_pos t with q | q
    · subst q
      exact ⟨rfl, rfl, fun j h1 h2 => absurd h2 (by omega)⟩
    · obtain ⟨i1, i2, i3⟩ := ih q (by omega)
      have p256 : 2 ^ n ≤ 256 := by
        have : 2 ^ n ≤ 2 ^ 8 := Nat.pow_le_pow_right (by decide) hn
        omega
      rw [dpg_st _ _ _ _ _ q, dpg_st _ _ _ _ _ q]
      have key : dpv (wcl c) X n 1000000 (dpg (wcl c) X n 1000000 c t) t = dpv (wrf c) X n 100000000 (dpg (wrf c) X n 100000000 0 t) t ∧ 100 ≤ dpv (wrf c) X n 100000000 (dpg (wrf c) X n 100000000 0 t) t ∧ dpv (wrf c) X n 100000000 (dpg (wrf c) X n 100000000 0 t) t ≤ 140 * (t + 1) := by
        have key := fo_rel (st := dpS (wcl c) X (dpg (wcl c) X n 1000000 c t) t) (st' := dpS (wrf c) X (dpg (wrf c) X n 100000000 0 t) t) (fun k a a' => (a = 1000000 ∧ a' = 100000000 ∧ ∀ k', k' < k → t.testBit k' = false) ∨ (a = a' ∧ 100 ≤ a' ∧ a' ≤ 140 * (t + 1))) n (fun k a a' hk p => by
          unfold dpS
          cases z : t.testBit k
          · rw [if_neg (by decide), if_neg (by decide)]
            rcases p with ⟨p1, p2, p3⟩ | p
            · refine Or.inl ⟨p1, p2, fun k' hk' => ?_⟩
              by_cases y : k' = k
              · subst y; exact z
              · exact p3 k' (by omega)
            · exact Or.inr p
          · rw [if_pos rfl, if_pos rfl]
            obtain ⟨o1, _⟩ := b256_on t (by omega) k (by omega) z
            have eW : wcl c (dpg (wcl c) X n 1000000 c t (t ^^^ 2 ^ k)) (X k) = wrf c (dpg (wrf c) X n 100000000 0 t (t ^^^ 2 ^ k)) (X k) ∧ 100 ≤ wrf c (dpg (wrf c) X n 100000000 0 t (t ^^^ 2 ^ k)) (X k) ∧ wrf c (dpg (wrf c) X n 100000000 0 t (t ^^^ 2 ^ k)) (X k) ≤ 140 * (t + 1) := by
              have hx := hX k hk
              rcases Nat.eq_zero_or_pos (t ^^^ 2 ^ k) with y | y
              · rw [y, i1, i2]
                obtain ⟨w1, w2⟩ := wcl_0 c1 c2 hx.1
                rw [w1, w2]
                omega
              · obtain ⟨e1, e2, e3⟩ := i3 _ y o1
                have bd := wrf_bd (c := c) (a := dpg (wrf c) X n 100000000 0 t (t ^^^ 2 ^ k)) hx.2
                rw [e1]
                refine ⟨wcl_wrf e2, bd.1, ?_⟩
                omega
            obtain ⟨w1, w2, w3⟩ := eW
            rw [w1]
            generalize wrf c (dpg (wrf c) X n 100000000 0 t (t ^^^ 2 ^ k)) (X k) = y at *
            refine Or.inr ?_
            have mm : ∀ a, Nat.min a y = min a y := fun _ => rfl
            rw [mm, mm]
            rcases p with ⟨p1, p2, p3⟩ | ⟨p1, p2, p3⟩
            · subst p1 p2; omega
            · subst p1; omega) n 0 1000000 100000000 (by omega) (Or.inl ⟨rfl, rfl, fun k' hk' => absurd hk' (by omega)⟩)
        rcases key with ⟨_, _, k3⟩ | k
        · obtain ⟨k, hk, hb⟩ := some_bit n t q (by omega)
          rw [k3 k hk] at hb
          cases hb
        · exact k
      refine ⟨?_, ?_, fun j h1 h2 => ?_⟩
      · unfold dpU; rw [if_neg (by omega)]; exact i1
      · unfold dpU; rw [if_neg (by omega)]; exact i2
      · unfold dpU
        by_cases y : j = t
        · rw [if_pos y, if_pos y, y]; exact key
        · rw [if_neg y, if_neg y]; exact i3 j h1 (by omega)
theorem dp_cbd {c n : Nat} {X : Nat → Nat} (c1 : 1 ≤ c) (c2 : c ≤ 99) (hn : n ≤ 8) (hX : ∀ k, k < n → 1 ≤ X k ∧ X k ≤ 40) {t j : Nat} (ht : 1 ≤ t) (ht2 : t ≤ 2 ^ n) (hj : j < t) : dpg (wcl c) X n 1000000 c t j ≤ 40000 ∧ dpg (wrf c) X n 100000000 0 t j ≤ 40000 := by
  have p256 : 2 ^ n ≤ 256 := by
    have : 2 ^ n ≤ 2 ^ 8 := Nat.pow_le_pow_right (by decide) hn
    omega
  obtain ⟨i1, i2, i3⟩ := dp_rel c1 c2 hn hX t ht ht2
  rcases Nat.eq_zero_or_pos j with q | q
  · subst q; rw [i1, i2]; omega
  · obtain ⟨a1, a2, a3⟩ := i3 j q hj
    rw [a1]; omega
/-! the most that go into one -/
def sg (g : Nat → Bool) (f : Nat → Nat) : Nat → Nat
  | 0 => 0
  | n + 1 => sg g f n + if g n then f n else 0
theorem sg_cg {g g' : Nat → Bool} {f : Nat → Nat} : ∀ {n : Nat}, (∀ j, j < n → g j = g' j) → sg g f n = sg g' f n
  | 0, _ => rfl
  | n + 1, h => by rw [sg, sg, sg_cg (fun j hj => h j (by omega)), h n (by omega)]
theorem sg_put {g : Nat → Bool} {f : Nat → Nat} {i : Nat} (hg : g i = false) : ∀ {n : Nat}, sg (fun j => if j = i then true else g j) f n = sg g f n + if i < n then f i else 0
  | 0 => by rw [sg, sg, if_neg (by omega)]
  | n + 1 => by
    rw [sg, sg, sg_put hg]
    by_cases q : n = i
    · subst q
      have e1 : ¬ n < n := by omega
      have e2 : n < n + 1 := by omega
      simp only [e1, e2, hg, if_true, if_false, Bool.false_eq_true]
      try omega
    · by_cases q2 : i < n
      · have e2 : i < n + 1 := by omega
        simp only [q, q2, e2, if_true, if_false]
        omega
      · have e2 : ¬ i < n + 1 := by omega
        simp only [q, q2, e2, if_false]
        omega
theorem sg_le {g : Nat → Bool} {f : Nat → Nat} {B : Nat} : ∀ {n : Nat}, (∀ j, j < n → f j ≤ B) → sg g f n ≤ B * n
  | 0, _ => Nat.zero_le _
  | n + 1, h => by
    have := sg_le (g := g) (fun j hj => h j (by omega)) (n := n)
    have h2 := h n (by omega)
    rw [sg, Nat.mul_succ]
    split <;> omega
theorem sg_ex {s g : Nat → Bool} {X : Nat → Nat} {u : Nat} : ∀ {n : Nat}, (∀ j, j < n → (g j = true → X j ≤ u) ∧ (g j = false → u ≤ X j)) → u * sg s (fun _ => 1) n + sg g X n ≤ sg s X n + u * sg g (fun _ => 1) n
  | 0, _ => by simp [sg]
  | n + 1, h => by
    have ih := sg_ex (s := s) (fun j hj => h j (by omega)) (n := n)
    have h2 := h n (by omega)
    rw [sg, sg, sg, sg]
    cases q1 : s n <;> cases q2 : g n
    · simp only [Nat.mul_add, Bool.false_eq_true, if_false, Nat.mul_zero]; omega
    · have := h2.1 q2
      simp only [Nat.mul_add, Bool.false_eq_true, if_false, if_true, Nat.mul_zero, Nat.mul_one]; omega
    · have := h2.2 q2
      simp only [Nat.mul_add, Bool.false_eq_true, if_false, if_true, Nat.mul_zero, Nat.mul_one]; omega
    · simp only [Nat.mul_add, if_true, Nat.mul_one]; omega
theorem sg_all {s g : Nat → Bool} {f : Nat → Nat} : ∀ {n : Nat}, (∀ j, j < n → g j = true) → sg s f n ≤ sg g f n
  | 0, _ => Nat.le_refl _
  | n + 1, h => by
    have ih := sg_all (s := s) (f := f) (fun j hj => h j (by omega)) (n := n)
    rw [sg, sg, h n (by omega), if_pos rfl]
    split <;> omega
theorem pc_sg : ∀ n, n ≤ 8 → ∀ s, s < 256 → s < 2 ^ n → pc s = sg s.testBit (fun _ => 1) n := by decide +kernel
/-- how far the light ones have been put in -/
def Fit (X : Nat → Nat) (n c v i room fit : Nat) : Prop := ∃ g : Nat → Bool, fit = sg g (fun _ => 1) n ∧ room + sg g X n = c ∧ ((∀ j, j < n → (g j = true ↔ (X j < v ∨ (X j = v ∧ j < i)))) ∨ ∃ u, u ≤ v ∧ room < u ∧ ∀ j, j < n → (g j = true → X j ≤ u) ∧ (g j = false → u ≤ X j))
def ftS (X : Nat → Nat) (v i : Nat) (s : Nat × Nat) : Nat × Nat := if X i = v ∧ v ≤ s.1 then (s.1 - v, s.2 + 1) else s
theorem Fit.st {X : Nat → Nat} {n c v i : Nat} {s : Nat × Nat} (hi : i < n) (F : Fit X n c v i s.1 s.2) : Fit X n c v (i + 1) (ftS X v i s).1 (ftS X v i s).2 := by
  obtain ⟨g, f1, f2, f3⟩ := F
  unfold ftS
  by_cases q : X i = v
  · by_cases q2 : v ≤ s.1
    · rw [if_pos ⟨q, q2⟩]
      rcases f3 with f3 | ⟨u, u1, u2, _⟩
      · have gi : g i = false := by
          cases z : g i
          · rfl
          · have := (f3 i hi).mp z; omega
        refine ⟨fun j => if j = i then true else g j, ?_, ?_, Or.inl (fun j hj => ?_)⟩
        · rw [sg_put gi, if_pos hi, f1]
        · rw [sg_put gi, if_pos hi, q]
          show s.1 - v + _ = c
          omega
        · show (if j = i then true else g j) = true ↔ _
          by_cases y : j = i
          · subst y
            rw [if_pos rfl]
            exact ⟨fun _ => Or.inr ⟨q, by omega⟩, fun _ => rfl⟩
          · rw [if_neg y, f3 j hj]
            omega
      · omega
    · rw [if_neg (fun z => q2 z.2)]
      refine ⟨g, f1, f2, Or.inr ?_⟩
      rcases f3 with f3 | ⟨u, u1, u2, u3⟩
      · refine ⟨v, Nat.le_refl _, by omega, fun j hj => ⟨fun z => ?_, fun z => ?_⟩⟩
        · have := (f3 j hj).mp z; omega
        · by_cases y : X j < v
          · have := (f3 j hj).mpr (Or.inl y)
            rw [this] at z; cases z
          · omega
      · exact ⟨u, u1, u2, u3⟩
  · rw [if_neg (fun z => q z.1)]
    refine ⟨g, f1, f2, f3.imp (fun f3 j hj => ?_) id⟩
    rw [f3 j hj]
    by_cases y : j = i
    · subst y; omega
    · omega
theorem Fit.up {X : Nat → Nat} {n c v room fit : Nat} (F : Fit X n c v n room fit) : Fit X n c (v + 1) 0 room fit := by
  obtain ⟨g, f1, f2, f3⟩ := F
  refine ⟨g, f1, f2, f3.imp (fun f3 j hj => ?_) (fun ⟨u, u1, u2, u3⟩ => ⟨u, by omega, u2, u3⟩)⟩
  rw [f3 j hj]
  omega
def miS (X : Nat → Nat) (n c : Nat) (s m : Nat) : Nat := if sg s.testBit X n ≤ c then Nat.max m (pc s) else m
theorem Fit.end' {X : Nat → Nat} {n c room fit : Nat} (hn : n ≤ 8) (hX : ∀ k, k < n → 1 ≤ X k ∧ X k ≤ 40) (F : Fit X n c 41 0 room fit) : fo (miS X n c) 0 (2 ^ n) 0 = fit := by
  have p256 : 2 ^ n ≤ 256 := by
    have : 2 ^ n ≤ 2 ^ 8 := Nat.pow_le_pow_right (by decide) hn
    omega
  obtain ⟨g, f1, f2, f3⟩ := F
  have up : ∀ s, s < 2 ^ n → sg s.testBit X n ≤ c → pc s ≤ fit := fun s hs hc => by
    rw [pc_sg n hn s (by omega) hs, f1]
    rcases f3 with f3 | ⟨u, u1, u2, u3⟩
    · exact sg_all (fun j hj => (f3 j hj).mpr (Or.inl (by have := hX j hj; omega)))
    · have := sg_ex (s := s.testBit) u3
      have h2 : u * sg s.testBit (fun _ => 1) n < u * (sg g (fun _ => 1) n + 1) := by
        rw [Nat.mul_add, Nat.mul_one]; omega
      have := Nat.lt_of_mul_lt_mul_left h2
      omega
  have G1 : bs n g < 2 ^ n := bs_lt g n
  have G2 : ∀ j, j < n → (bs n g).testBit j = g j := fun j hj => by
    rw [bs_bit, decide_eq_true hj, Bool.true_and]
  have G3 : sg (bs n g).testBit X n ≤ c := by rw [sg_cg G2]; omega
  have G4 : pc (bs n g) = fit := by rw [pc_sg n hn _ (by omega) G1, sg_cg G2, f1]
  have a1 := fo_inv (st := miS X n c) (fun _ m => m ≤ fit) (2 ^ n) (fun s m hs hm => by
    unfold miS
    split
    · next q => exact Nat.max_le.mpr ⟨hm, up s hs q⟩
    · exact hm) (2 ^ n) 0 0 (by omega) (Nat.zero_le _)
  have a2 := fo_inv (st := miS X n c) (fun i m => bs n g < i → fit ≤ m) (2 ^ n) (fun s m hs hm hG => by
    unfold miS
    by_cases y : s = bs n g
    · subst y
      rw [if_pos G3, G4]
      exact Nat.le_max_right _ _
    · have := hm (by omega)
      split
      · exact Nat.le_trans this (Nat.le_max_left _ _)
      · exact this) (2 ^ n) 0 0 (by omega) (fun z => absurd z (by omega)) G1
  omega
