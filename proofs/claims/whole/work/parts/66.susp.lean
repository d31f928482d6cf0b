/-! ===== suspects ===== -/
/-- how many of the first k bits are set -/
def pcn : Nat → Nat → Nat
  | 0, _ => 0
  | k + 1, n => n % 2 + pcn k (n / 2)
theorem pcn_le : ∀ k n, pcn k n ≤ k
  | 0, _ => Nat.le_refl _
  | k + 1, n => by have := pcn_le k (n / 2); rw [pcn]; omega
def pc (n : Nat) : Nat := pcn 10 n
theorem pc_le (n : Nat) : pc n ≤ 10 := pcn_le 10 n
def bc1 (x : Int32) : Int32 := x - ((jush x 1) &&& 1431655765)
def bc2 (y : Int32) : Int32 := (y &&& 858993459) + ((jush y 2) &&& 858993459)
def bc3 (y : Int32) : Int32 := (y + jush y 4) &&& 252645135
def bc4 (y : Int32) : Int32 := y + jush y 8
def bc5 (y : Int32) : Int32 := (y + jush y 16) &&& 63
theorem bitc_tab : ∀ n, n < 1024 → bc5 (bc4 (bc3 (bc2 (bc1 (nI n))))) = nI (pc n) := by decide +kernel
theorem bitc {n : Nat} (hn : n < 1024) (h : PH) : f_Int_bitCount (nI n) h = some (nI (pc n), h) := by
  rw [← bitc_tab n hn]; rfl
theorem ones_tab : ∀ n, n < 1024 → n = 0 ∨ (n &&& (n - 1) < n ∧ pc (n &&& (n - 1)) + 1 = pc n) := by decide +kernel
theorem ones4 (h : PH) : ∀ m n s M, n ≤ m → n < 1024 → m < M → f_Mo_onesOf_4 M (nI s) (nI n) h = some (nI (s + pc n), h) := by
  intro m
  induction m with
  | zero =>
    intro n s M hm hn hM
    obtain ⟨N, rfl⟩ : ∃ N, M = N + 1 := ⟨M - 1, by omega⟩
    obtain rfl : n = 0 := by omega
    rw [f_Mo_onesOf_4, if_pos nI_0]; rfl
  | succ m ih =>
    intro n s M hm hn hM
    obtain ⟨N, rfl⟩ : ∃ N, M = N + 1 := ⟨M - 1, by omega⟩
    by_cases q : n = 0
    · subst q
      rw [f_Mo_onesOf_4, if_pos nI_0]; rfl
    · have z : ¬ nI n = 0 := fun e => q ((nI_eqL (n := 0) (by omega) (by decide)).mp e)
      rcases ones_tab n hn with e | ⟨e1, e2⟩
      · exact absurd e q
      · have e3 : nI n - 1 = nI (n - 1) := pk_sub (a := n) (b := 1) (by omega)
        rw [f_Mo_onesOf_4, if_neg z, e3, fa_and, nI_addL, ih _ _ N (by omega) (by omega) (by omega), ← e2]
        congr 3
        show s + 1 + pc (n &&& (n - 1)) = _
        omega
theorem ones {n : Nat} (hn : n < 1024) (a : Nat) (h : PH) : f_Mo_onesOf a (nI n) h = some (nI (pc n), h) := by
  unfold f_Mo_onesOf
  have := ones4 h n n 0 FU (Nat.le_refl _) hn (by rw [FU_eq]; omega)
  rw [nI_0, Nat.zero_add] at this
  exact this
theorem andnot (x y : Int32) : x &&& (y ^^^ (-1)) = x ^^^ (x &&& y) := by
  apply Int32.toBitVec_inj.mp
  have e : ((-1 : Int32)).toBitVec = BitVec.allOnes 32 := by decide
  rw [Int32.toBitVec_and, Int32.toBitVec_xor, Int32.toBitVec_xor, Int32.toBitVec_and, e]
  apply BitVec.eq_of_getLsbD_eq
  intro i hi
  rw [BitVec.getLsbD_and, BitVec.getLsbD_xor, BitVec.getLsbD_xor, BitVec.getLsbD_and, BitVec.getLsbD_allOnes, decide_eq_true hi]
  cases x.toBitVec.getLsbD i <;> cases y.toBitVec.getLsbD i <;> rfl
theorem nI_xor (a c : Nat) : nI a ^^^ nI c = nI (a ^^^ c) := by
  apply Int32.toBitVec_inj.mp
  rw [Int32.toBitVec_xor]
  show BitVec.ofNat 32 a ^^^ BitVec.ofNat 32 c = BitVec.ofNat 32 (a ^^^ c)
  apply BitVec.eq_of_getLsbD_eq
  intro i hi
  rw [BitVec.getLsbD_xor, BitVec.getLsbD_ofNat, BitVec.getLsbD_ofNat, BitVec.getLsbD_ofNat, Nat.testBit_xor, decide_eq_true hi]
  simp
/-- the most that are left by a set -/
def mst (A i : Nat) : Nat := Nat.max (pc (A &&& i)) (pc (A ^^^ (A &&& i)))
def sp1 (A : Nat) (i : Nat) (s : Int32 × Nat) : Int32 × Nat := if (pc i = 2 ∨ pc i = 3) ∧ mst A i * 4 + pc i < s.2 then (nI i, mst A i * 4 + pc i) else s
def sp2 (A k : Nat) (i : Nat) (s : Int32 × Nat) : Int32 × Nat := if pc i = k then (if mst A i < s.2 then nI i else s.1, Nat.min s.2 (mst A i)) else s
theorem sp_one (A n : Nat) : ∀ (c a2 a3 : Int32 × Nat), c = fo (sp1 A) 0 n (-1, 1000000) → a2 = fo (sp2 A 2) 0 n (-1, 100000000) → a3 = fo (sp2 A 3) 0 n (-1, 100000000) → c.1 = if a3.2 < a2.2 then a3.1 else a2.1 := by
  intro c a2 a3 hc h2 h3
  have M20 : ∀ i, mst A i ≤ 10 := fun i => by
    unfold mst
    have := pc_le (A &&& i)
    have := pc_le (A ^^^ (A &&& i))
    exact Nat.max_le.mpr ⟨by omega, by omega⟩
  have key := fo_rel (st := fun i (s : (Int32 × Nat) × (Int32 × Nat)) => (sp2 A 2 i s.1, sp2 A 3 i s.2)) (st' := sp1 A) (fun _ s s' => s.1.2 ≤ 100000000 ∧ s.2.2 ≤ 100000000 ∧ (s.1.2 = 100000000 → s.1.1 = -1) ∧ s' = if s.2.2 < s.1.2 then (s.2.1, s.2.2 * 4 + 3) else if s.1.2 < 100000000 then (s.1.1, s.1.2 * 4 + 2) else (-1, 1000000)) n (fun i s s' hi q => by
    obtain ⟨⟨b2, l2⟩, b3, l3⟩ := s
    obtain ⟨q1, q2, q0, q3⟩ := q
    dsimp only at q1 q2 q0 q3 ⊢
    subst q3
    have hm := M20 i
    unfold sp1 sp2
    dsimp only
    generalize mst A i = m at *
    generalize pc i = p at *
    by_cases p2 : p = 2
    · subst p2
      have p23 : ¬ (2 : Nat) = 3 := by decide
      rw [if_pos rfl, if_neg p23]
      dsimp only
      have em : Nat.min l2 m = if m < l2 then m else l2 := by
        by_cases z : m < l2
        · rw [if_pos z]; exact Nat.min_eq_right (by omega)
        · rw [if_neg z]; exact Nat.min_eq_left (by omega)
      rw [em]
      by_cases z : m < l2
      · rw [if_pos z, if_pos z]
        refine ⟨by omega, q2, fun e => absurd e (by omega), ?_⟩
        by_cases z2 : l3 < l2
        · rw [if_pos z2]
          dsimp only
          by_cases z3 : l3 < m
          · rw [if_pos z3, if_neg (by omega)]
          · rw [if_neg z3, if_pos ⟨Or.inl rfl, by omega⟩, if_pos (by omega)]
        · rw [if_neg z2]
          by_cases z4 : l2 < 100000000
          · rw [if_pos z4]
            dsimp only
            rw [if_pos ⟨Or.inl rfl, by omega⟩, if_neg (by omega), if_pos (by omega)]
          · rw [if_neg z4]
            dsimp only
            rw [if_pos ⟨Or.inl rfl, by omega⟩, if_neg (by omega), if_pos (by omega)]
      · rw [if_neg z, if_neg z]
        refine ⟨q1, q2, q0, ?_⟩
        by_cases z2 : l3 < l2
        · rw [if_pos z2]
          dsimp only
          rw [if_neg (by omega)]
        · rw [if_neg z2]
          by_cases z4 : l2 < 100000000
          · rw [if_pos z4]
            dsimp only
            rw [if_neg (by omega)]
          · exact absurd hm (by omega)
    · by_cases p3 : p = 3
      · subst p3
        rw [if_neg p2, if_pos rfl]
        dsimp only
        have em : Nat.min l3 m = if m < l3 then m else l3 := by
          by_cases z : m < l3
          · rw [if_pos z]; exact Nat.min_eq_right (by omega)
          · rw [if_neg z]; exact Nat.min_eq_left (by omega)
        rw [em]
        by_cases z : m < l3
        · rw [if_pos z, if_pos z]
          refine ⟨q1, by omega, q0, ?_⟩
          by_cases z2 : l3 < l2
          · have z6 : m < l2 := by omega
            rw [if_pos z2, if_pos z6]
            dsimp only
            rw [if_pos ⟨Or.inr rfl, by omega⟩]
          · rw [if_neg z2]
            by_cases z5 : m < l2
            · rw [if_pos z5]
              by_cases z4 : l2 < 100000000
              · rw [if_pos z4]
                dsimp only
                rw [if_pos ⟨Or.inr rfl, by omega⟩]
              · rw [if_neg z4]
                dsimp only
                rw [if_pos ⟨Or.inr rfl, by omega⟩]
            · rw [if_neg z5]
              by_cases z4 : l2 < 100000000
              · rw [if_pos z4]
                dsimp only
                rw [if_neg (by omega)]
              · exact absurd hm (by omega)
        · rw [if_neg z, if_neg z]
          refine ⟨q1, q2, q0, ?_⟩
          by_cases z2 : l3 < l2
          · rw [if_pos z2]
            dsimp only
            rw [if_neg (by omega)]
          · rw [if_neg z2]
            by_cases z4 : l2 < 100000000
            · rw [if_pos z4]
              dsimp only
              rw [if_neg (by omega)]
            · exact absurd hm (by omega)
      · rw [if_neg p2, if_neg p3, if_neg (by omega)]
        exact ⟨q1, q2, q0, rfl⟩) n 0 ((-1, 100000000), (-1, 100000000)) (-1, 1000000) (by omega) ⟨Nat.le_refl _, Nat.le_refl _, fun _ => rfl, rfl⟩
  have f2 := fo_rel (st := fun i (s : (Int32 × Nat) × (Int32 × Nat)) => (sp2 A 2 i s.1, sp2 A 3 i s.2)) (st' := sp2 A 2) (fun _ s s' => s.1 = s') n (fun i s s' _ e => by subst e; rfl) n 0 ((-1, 100000000), (-1, 100000000)) (-1, 100000000) (by omega) rfl
  have f3 := fo_rel (st := fun i (s : (Int32 × Nat) × (Int32 × Nat)) => (sp2 A 2 i s.1, sp2 A 3 i s.2)) (st' := sp2 A 3) (fun _ s s' => s.2 = s') n (fun i s s' _ e => by subst e; rfl) n 0 ((-1, 100000000), (-1, 100000000)) (-1, 100000000) (by omega) rfl
  rw [f2, f3, ← hc, ← h2, ← h3] at key
  obtain ⟨k1, k2, k0, k3⟩ := key
  rw [k3]
  by_cases z2 : a3.2 < a2.2
  · rw [if_pos z2, if_pos z2]
  · rw [if_neg z2, if_neg z2]
    by_cases z4 : a2.2 < 100000000
    · rw [if_pos z4]
    · rw [if_neg z4, k0 (by omega)]
theorem sp_two (A n : Nat) (x : Int32) (l : Nat) (hl : l ≤ 100000000) : (fo (sp2 A 3) 0 n (x, l)).1 = if (fo (sp2 A 3) 0 n (-1, 100000000)).2 < l then (fo (sp2 A 3) 0 n (-1, 100000000)).1 else x := by
  have key := fo_rel (st := sp2 A 3) (st' := sp2 A 3) (fun _ s s' => s = (if s'.2 < l then s'.1 else x, Nat.min l s'.2)) n (fun i s s' _ q => by
    obtain ⟨b3, l3⟩ := s'
    dsimp only at q
    subst q
    unfold sp2
    dsimp only
    generalize mst A i = m
    by_cases p : pc i = 3
    · rw [if_pos p, if_pos p]
      dsimp only
      have em : Nat.min l3 m = if m < l3 then m else l3 := by
        by_cases z : m < l3
        · rw [if_pos z]; exact Nat.min_eq_right (by omega)
        · rw [if_neg z]; exact Nat.min_eq_left (by omega)
      have em2 : Nat.min (Nat.min l l3) m = Nat.min l (Nat.min l3 m) := Nat.min_assoc l l3 m
      rw [em2]
      have em3 : (m < Nat.min l l3) ↔ (m < l ∧ m < l3) := Nat.lt_min
      rw [em]
      by_cases z : m < l3
      · rw [if_pos z, if_pos z]
        by_cases z2 : m < l
        · rw [if_pos (em3.mpr ⟨z2, z⟩), if_pos z2]
        · rw [if_neg (fun q => z2 (em3.mp q).1), if_neg z2, if_neg (by omega)]
      · rw [if_neg z, if_neg z, if_neg (fun q => z (em3.mp q).2)]
    · rw [if_neg p, if_neg p]) n 0 (x, l) (-1, 100000000) (by omega) (by
      have : ¬ 100000000 < l := by omega
      dsimp only
      rw [if_neg this]
      congr 1
      exact (Nat.min_eq_left hl).symm)
  rw [key]
/-- what a weighing must show if the bag is the one -/
def wsm (X : Nat → Nat) (n s i : Nat) : Nat := fo (fun o a => if s.testBit o then a + X o else a) 0 n i
theorem wsm_le {X : Nat → Nat} {n s i : Nat} (hX : ∀ o, o < n → X o ≤ 99) (hn : n ≤ 10) (hi : i ≤ 7) : wsm X n s i ≤ 1000 := by
  have := fo_inv (st := fun o a => if s.testBit o then a + X o else a) (fun j a => a ≤ 7 + 99 * j) n (fun j a hj ha => by
    have := hX j hj
    split <;> omega) n 0 i (by omega) (by omega)
  unfold wsm
  omega
def alw (X S Y : Nat → Nat) (n m t : Nat) : Int32 := fox (fun k (_ : Unit) => decide (wsm X n (S k) (if (S k).testBit t then 7 else 0) ≠ Y k)) (fun _ _ => (0 : Int32)) (fun _ s => s) (fun _ => (1 : Int32)) 0 m ()
theorem mo_has {a n k : Nat} {h : PH} (hk : k < 32) (hn : n < 2147483648) : f_Mo_has a (nI n) (nI k) h = some (if n.testBit k then 1 else 0, h) := by
  unfold f_Mo_has
  by_cases q : n.testBit k = true
  · rw [if_pos ((jbit1 hk hn).mpr q), if_pos q, rtZ_1]
  · rw [if_neg (fun e => q ((jbit1 hk hn).mp e)), if_neg q, rtZ_0]
