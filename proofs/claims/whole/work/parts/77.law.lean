/-! ===== what the codes of a law come to ===== -/
def tw (op x y : Int32) : Int32 := if op = 2 then x + y else if op = 3 then x - y else if op = 4 then x * y else if op = 5 then x / y else if op = 6 then (if y ≤ x then 0 else 1) else if op = 7 then (if x = y then 1 else 0) else if op = 8 then (if x ≤ y then 0 else 1) else if op = 10 then x * y else if x + y ≤ 0 then 0 else 1
def ev1 (op arg : Int32) (A : Nat → Int32) (V : List Int32) : List Int32 :=
  if op = 0 then arg :: V else if op = 1 then A arg.toNatClampNeg :: V else if op = 9 then (match V with
    | y :: r => (1 - y) :: r
    | [] => []) else (match V with
    | y :: x :: r => tw op x y :: r
    | r => r)
def evs (mo ma A : Nat → Int32) : Nat → Nat → List Int32 → List Int32
  | 0, _, V => V
  | n + 1, f, V => evs mo ma A n (f + 1) (ev1 (mo f) (ma f) A V)
/-- values that keep to types -/
def TV : List Nat → List Int32 → Prop
  | [], [] => True
  | s :: S, v :: V => ((s = 1 → v = 0 ∨ v = 1) ∧ (s = 2 → ¬ v = 0)) ∧ TV S V
  | _, _ => False
theorem TV.len : ∀ {S : List Nat} {V : List Int32}, TV S V → V.length = S.length
  | [], [], _ => rfl
  | s :: S, v :: V, h => by rw [List.length_cons, List.length_cons, TV.len h.2]
/-- a stack in an array: the latest last -/
def Stk (h : PH) (o : Nat) : List Int32 → Prop
  | [] => True
  | v :: V => gI h o V.length = v ∧ Stk h o V
theorem Stk.put {h : PH} {o k : Nat} {v : Int32} : ∀ {V : List Int32}, V.length ≤ k → Stk h o V → Stk (sI h o k v) o V
  | [], _, _ => trivial
  | x :: V, hk, s => by
    rw [List.length_cons] at hk
    exact ⟨by rw [gI_n2 (by omega)]; exact s.1, Stk.put (by omega) s.2⟩
theorem tw_ty {op x y : Int32} (h : op = 6 ∨ op = 7 ∨ op = 8 ∨ op = 11) : tw op x y = 0 ∨ tw op x y = 1 := by
  unfold tw
  rcases h with rfl | rfl | rfl | rfl
  · simp only [show ¬ (6 : Int32) = 2 by decide, show ¬ (6 : Int32) = 3 by decide, show ¬ (6 : Int32) = 4 by decide, show ¬ (6 : Int32) = 5 by decide, if_false, if_true]
    split
    · exact Or.inl rfl
    · exact Or.inr rfl
  · simp only [show ¬ (7 : Int32) = 2 by decide, show ¬ (7 : Int32) = 3 by decide, show ¬ (7 : Int32) = 4 by decide, show ¬ (7 : Int32) = 5 by decide, show ¬ (7 : Int32) = 6 by decide, if_false, if_true]
    split
    · exact Or.inr rfl
    · exact Or.inl rfl
  · simp only [show ¬ (8 : Int32) = 2 by decide, show ¬ (8 : Int32) = 3 by decide, show ¬ (8 : Int32) = 4 by decide, show ¬ (8 : Int32) = 5 by decide, show ¬ (8 : Int32) = 6 by decide, show ¬ (8 : Int32) = 7 by decide, if_false, if_true]
    split
    · exact Or.inl rfl
    · exact Or.inr rfl
  · simp only [show ¬ (11 : Int32) = 2 by decide, show ¬ (11 : Int32) = 3 by decide, show ¬ (11 : Int32) = 4 by decide, show ¬ (11 : Int32) = 5 by decide, show ¬ (11 : Int32) = 6 by decide, show ¬ (11 : Int32) = 7 by decide, show ¬ (11 : Int32) = 8 by decide, show ¬ (11 : Int32) = 10 by decide, if_false]
    split
    · exact Or.inl rfl
    · exact Or.inr rfl
/-- what a code may be, and what it finds -/
def Ck (op arg : Int32) (S : List Nat) (S' : List Nat) : Prop :=
  (∃ a : Nat, op = 0 ∧ arg = nI a ∧ a ≤ 9999 ∧ S' = (if arg = 0 then 0 else 2) :: S) ∨
  (∃ a : Nat, op = 1 ∧ arg = nI a ∧ a < 10 ∧ S' = 0 :: S) ∨
  (∃ r : List Nat, op = 9 ∧ S = 1 :: r ∧ S' = 1 :: r) ∨
  ∃ (t x y : Nat) (r : List Nat), (op = 2 ∨ op = 3 ∨ op = 4 ∨ (op = 5 ∧ y = 2) ∨ op = 6 ∨ op = 7 ∨ op = 8 ∨ ((op = 10 ∨ op = 11) ∧ x = 1 ∧ y = 1)) ∧ (t = 0 ∨ (t = 1 ∧ (op = 6 ∨ op = 7 ∨ op = 8 ∨ op = 10 ∨ op = 11))) ∧ S = y :: x :: r ∧ S' = t :: r
theorem Ck.num {op arg : Int32} {S S' : List Nat} (a : Nat) (h0 : op = 0) (ha : arg = nI a) (hb : a ≤ 9999) (e : S' = (if arg = 0 then 0 else 2) :: S) : Ck op arg S S' := Or.inl ⟨a, h0, ha, hb, e⟩
theorem Ck.ask {op arg : Int32} {S S' : List Nat} (a : Nat) (h0 : op = 1) (ha : arg = nI a) (hb : a < 10) (e : S' = 0 :: S) : Ck op arg S S' := Or.inr (Or.inl ⟨a, h0, ha, hb, e⟩)
theorem Ck.not {op arg : Int32} {S S' : List Nat} (r : List Nat) (h0 : op = 9) (hS : S = 1 :: r) (e : S' = 1 :: r) : Ck op arg S S' := Or.inr (Or.inr (Or.inl ⟨r, h0, hS, e⟩))
theorem Ck.two {op arg : Int32} {S S' : List Nat} (t x y : Nat) (r : List Nat) (h0 : op = 2 ∨ op = 3 ∨ op = 4 ∨ (op = 5 ∧ y = 2) ∨ op = 6 ∨ op = 7 ∨ op = 8 ∨ ((op = 10 ∨ op = 11) ∧ x = 1 ∧ y = 1)) (ht : t = 0 ∨ (t = 1 ∧ (op = 6 ∨ op = 7 ∨ op = 8 ∨ op = 10 ∨ op = 11))) (hS : S = y :: x :: r) (e : S' = t :: r) : Ck op arg S S' := Or.inr (Or.inr (Or.inr ⟨t, x, y, r, h0, ht, hS, e⟩))
theorem ck_of {op arg : Int32} {S S' : List Nat} (h : ck1 op arg S = some S') : Ck op arg S S' := by
  unfold ck1 at h
  by_cases q0 : op = 0
  · rw [if_pos q0] at h
    by_cases q : arg = nI arg.toNatClampNeg ∧ arg.toNatClampNeg ≤ 9999
    · rw [if_pos q] at h
      exact Ck.num _ q0 q.1 q.2 (Option.some.inj h).symm
    · rw [if_neg q] at h; cases h
  · rw [if_neg q0] at h
    by_cases q1 : op = 1
    · rw [if_pos q1] at h
      by_cases q : arg = nI arg.toNatClampNeg ∧ arg.toNatClampNeg < 10
      · rw [if_pos q] at h
        exact Ck.ask _ q1 q.1 q.2 (Option.some.inj h).symm
      · rw [if_neg q] at h; cases h
    · rw [if_neg q1] at h
      match S, h with
      | [], h => cases h
      | [y], h =>
        dsimp only at h
        by_cases q : op = 9 ∧ y = 1
        · rw [if_pos q] at h
          exact Ck.not [] q.1 (by rw [q.2]) (Option.some.inj h).symm
        · rw [if_neg q] at h; cases h
      | y :: x :: r, h =>
        dsimp only at h
        by_cases q2 : op = 2 ∨ op = 3 ∨ op = 4
        · rw [if_pos q2] at h
          by_cases q : x ≠ 1 ∧ y ≠ 1
          · rw [if_pos q] at h
            refine Ck.two 0 x y r ?_ (Or.inl rfl) rfl (Option.some.inj h).symm
            rcases q2 with z | z | z
            · exact Or.inl z
            · exact Or.inr (Or.inl z)
            · exact Or.inr (Or.inr (Or.inl z))
          · rw [if_neg q] at h; cases h
        · rw [if_neg q2] at h
          by_cases q5 : op = 5
          · rw [if_pos q5] at h
            by_cases q : x ≠ 1 ∧ y = 2
            · rw [if_pos q] at h
              exact Ck.two 0 x y r (Or.inr (Or.inr (Or.inr (Or.inl ⟨q5, q.2⟩)))) (Or.inl rfl) rfl (Option.some.inj h).symm
            · rw [if_neg q] at h; cases h
          · rw [if_neg q5] at h
            by_cases q6 : op = 6 ∨ op = 7 ∨ op = 8
            · rw [if_pos q6] at h
              by_cases q : x ≠ 1 ∧ y ≠ 1
              · rw [if_pos q] at h
                refine Ck.two 1 x y r ?_ (Or.inr ⟨rfl, ?_⟩) rfl (Option.some.inj h).symm
                · rcases q6 with z | z | z
                  · exact Or.inr (Or.inr (Or.inr (Or.inr (Or.inl z))))
                  · exact Or.inr (Or.inr (Or.inr (Or.inr (Or.inr (Or.inl z)))))
                  · exact Or.inr (Or.inr (Or.inr (Or.inr (Or.inr (Or.inr (Or.inl z))))))
                · rcases q6 with z | z | z
                  · exact Or.inl z
                  · exact Or.inr (Or.inl z)
                  · exact Or.inr (Or.inr (Or.inl z))
              · rw [if_neg q] at h; cases h
            · rw [if_neg q6] at h
              by_cases q9 : op = 9
              · rw [if_pos q9] at h
                by_cases q : y = 1
                · rw [if_pos q] at h
                  exact Ck.not (x :: r) q9 (by rw [q]) (Option.some.inj h).symm
                · rw [if_neg q] at h; cases h
              · rw [if_neg q9] at h
                by_cases q10 : op = 10 ∨ op = 11
                · rw [if_pos q10] at h
                  by_cases q : x = 1 ∧ y = 1
                  · rw [if_pos q] at h
                    refine Ck.two 1 x y r (Or.inr (Or.inr (Or.inr (Or.inr (Or.inr (Or.inr (Or.inr ⟨q10, q.1, q.2⟩))))))) (Or.inr ⟨rfl, Or.inr (Or.inr (Or.inr q10))⟩) rfl (Option.some.inj h).symm
                  · rw [if_neg q] at h; cases h
                · rw [if_neg q10] at h; cases h
theorem tw_and {x y : Int32} (hx : x = 0 ∨ x = 1) (hy : y = 0 ∨ y = 1) : (tw 10 x y = 0 ∨ tw 10 x y = 1) ∧ x &&& y = tw 10 x y ∧ x ||| y = tw 11 x y := by
  rcases hx with rfl | rfl <;> rcases hy with rfl | rfl <;> decide
/-- a step keeps the types -/
theorem ev_TV {op arg : Int32} {S S' : List Nat} {A : Nat → Int32} {V : List Int32} (c : Ck op arg S S') (t : TV S V) : TV S' (ev1 op arg A V) := by
  rcases c with ⟨a, h0, ha, hb, e⟩ | ⟨a, h0, ha, hb, e⟩ | ⟨r, h0, hS, e⟩ | ⟨tt, x, y, r, h0, ht, hS, e⟩
  · subst h0 e
    unfold ev1
    rw [if_pos rfl]
    refine ⟨⟨fun z => ?_, fun z => ?_⟩, t⟩
    · by_cases q : arg = 0
      · exact Or.inl q
      · rw [if_neg q] at z; cases z
    · by_cases q : arg = 0
      · rw [if_pos q] at z; cases z
      · exact q
  · subst h0 e
    unfold ev1
    rw [if_neg (by decide), if_pos rfl]
    exact ⟨⟨fun z => (by cases z), fun z => (by cases z)⟩, t⟩
  · subst h0 hS e
    unfold ev1
    rw [if_neg (by decide), if_neg (by decide), if_pos rfl]
    match V, t with
    | v :: V, t =>
      refine ⟨⟨fun _ => ?_, fun z => by cases z⟩, t.2⟩
      rcases t.1.1 rfl with q | q
      · rw [q]; exact Or.inr (by decide)
      · rw [q]; exact Or.inl (by decide)
  · subst hS e
    match V, t with
    | vy :: vx :: V, t =>
      have ne : ¬ op = 0 ∧ ¬ op = 1 ∧ ¬ op = 9 := by
        rcases h0 with z | z | z | z | z | z | z | z
        · subst z; decide
        · subst z; decide
        · subst z; decide
        · rw [z.1]; decide
        · subst z; decide
        · subst z; decide
        · subst z; decide
        · rcases z.1 with z | z <;> rw [z] <;> decide
      unfold ev1
      rw [if_neg ne.1, if_neg ne.2.1, if_neg ne.2.2]
      refine ⟨⟨fun z => ?_, fun z => ?_⟩, t.2.2⟩
      · rcases ht with q | ⟨_, q⟩
        · rw [q] at z; cases z
        · rcases q with q | q | q | q | q
          · exact tw_ty (Or.inl q)
          · exact tw_ty (Or.inr (Or.inl q))
          · exact tw_ty (Or.inr (Or.inr (Or.inl q)))
          · subst q
            have : x = 1 ∧ y = 1 := by
              rcases h0 with z | z | z | z | z | z | z | z
              · exact absurd z (by decide)
              · exact absurd z (by decide)
              · exact absurd z (by decide)
              · exact absurd z.1 (by decide)
              · exact absurd z (by decide)
              · exact absurd z (by decide)
              · exact absurd z (by decide)
              · exact z.2
            exact (tw_and (t.2.1.1 this.1) (t.1.1 this.2)).1
          · exact tw_ty (Or.inr (Or.inr (Or.inr q)))
      · rcases ht with q | ⟨q, _⟩
        · rw [q] at z; cases z
        · rw [q] at z; cases z
theorem evs_TV {mo ma A : Nat → Int32} : ∀ {n f : Nat} {S S' : List Nat} {V : List Int32}, segT mo ma n f S = some S' → TV S V → TV S' (evs mo ma A n f V)
  | 0, _, S, S', V, h, t => by
    unfold segT at h
    rw [← Option.some.inj h]
    exact t
  | n + 1, f, S, S', V, h, t => by
    unfold segT at h
    cases hc : ck1 (mo f) (ma f) S with
    | none => rw [hc] at h; cases h
    | some S1 =>
      rw [hc] at h
      have h : (if S1.length ≤ 30 then segT mo ma n (f + 1) S1 else none) = some S' := h
      by_cases q : S1.length ≤ 30
      · rw [if_pos q] at h
        show TV S' (evs mo ma A n (f + 1) (ev1 (mo f) (ma f) A V))
        exact evs_TV h (ev_TV (ck_of hc) t)
      · rw [if_neg q] at h; cases h
theorem jn {op arg x y : Int32} {tx ty : Nat} (h0 : op = 2 ∨ op = 3 ∨ op = 4 ∨ (op = 5 ∧ ty = 2) ∨ op = 6 ∨ op = 7 ∨ op = 8 ∨ ((op = 10 ∨ op = 11) ∧ tx = 1 ∧ ty = 1)) (hx : tx = 1 → x = 0 ∨ x = 1) (hy : ty = 1 → y = 0 ∨ y = 1) (hz : ty = 2 → ¬ y = 0) : (enc op arg < -10 ∧ ¬ enc op arg = -20 ∧ ∀ h, f_Law_joined (enc op arg) x y h = some (tw op x y, h)) ∧ ¬ op = 0 ∧ ¬ op = 1 ∧ ¬ op = 9 ∧ ∀ a h, f_Mo_twoOf a op x y h = some (tw op x y, h) := by
  rcases h0 with rfl | rfl | rfl | ⟨rfl, z⟩ | rfl | rfl | rfl | ⟨rfl | rfl, z1, z2⟩
  · have e : enc 2 arg = -11 := by simp [enc]
    rw [e]
    exact ⟨⟨by decide, by decide, fun h => by simp [f_Law_joined, tw]⟩, by decide, by decide, by decide, fun a h => by simp [f_Mo_twoOf, tw]⟩
  · have e : enc 3 arg = -12 := by simp [enc]
    rw [e]
    exact ⟨⟨by decide, by decide, fun h => by simp [f_Law_joined, tw]⟩, by decide, by decide, by decide, fun a h => by simp [f_Mo_twoOf, tw]⟩
  · have e : enc 4 arg = -13 := by simp [enc]
    rw [e]
    exact ⟨⟨by decide, by decide, fun h => by simp [f_Law_joined, tw]⟩, by decide, by decide, by decide, fun a h => by simp [f_Mo_twoOf, tw]⟩
  · have e : enc 5 arg = -14 := by simp [enc]
    have y0 := hz z
    rw [e]
    exact ⟨⟨by decide, by decide, fun h => by simp [f_Law_joined, tw, dvI, y0]⟩, by decide, by decide, by decide, fun a h => by simp [f_Mo_twoOf, tw, dvI, y0]⟩
  · have e : enc 6 arg = -15 := by simp [enc]
    rw [e]
    refine ⟨⟨by decide, by decide, fun h => ?_⟩, by decide, by decide, by decide, fun a h => ?_⟩
    · by_cases q : y ≤ x <;> simp [f_Law_joined, tw, q]
    · by_cases q : y ≤ x <;> simp [f_Mo_twoOf, tw, q]
  · have e : enc 7 arg = -16 := by simp [enc]
    rw [e]
    refine ⟨⟨by decide, by decide, fun h => ?_⟩, by decide, by decide, by decide, fun a h => ?_⟩
    · by_cases q : x = y <;> simp [f_Law_joined, tw, q]
    · by_cases q : x = y <;> simp [f_Mo_twoOf, tw, q]
  · have e : enc 8 arg = -17 := by simp [enc]
    rw [e]
    refine ⟨⟨by decide, by decide, fun h => ?_⟩, by decide, by decide, by decide, fun a h => ?_⟩
    · by_cases q : x ≤ y <;> simp [f_Law_joined, tw, q]
    · by_cases q : x ≤ y <;> simp [f_Mo_twoOf, tw, q]
  · have e : enc 10 arg = -18 := by simp [enc]
    have q := tw_and (hx z1) (hy z2)
    rw [e, ← q.2.1]
    refine ⟨⟨by decide, by decide, fun h => by simp [f_Law_joined]⟩, by decide, by decide, by decide, fun a h => ?_⟩
    rw [q.2.1]
    simp [f_Mo_twoOf, tw]
  · have e : enc 11 arg = -19 := by simp [enc]
    have q := tw_and (hx z1) (hy z2)
    rw [e]
    refine ⟨⟨by decide, by decide, fun h => by simp [f_Law_joined, q.2.2]⟩, by decide, by decide, by decide, fun a h => ?_⟩
    by_cases q : x + y ≤ 0 <;> simp [f_Mo_twoOf, tw, q]
theorem enc_num {a : Nat} (ha : a ≤ 9999) : enc 0 (nI a) = nI a ∧ ¬ nI a < -10 ∧ ¬ nI a < 0 := by
  refine ⟨by simp [enc], fun z => ?_, nI_pos (by omega)⟩
  rw [fa_lt, iI_nat, iI_toInt (by omega) (by omega)] at z
  have e : (-10 : Int32).toInt = -10 := rfl
  omega
theorem enc_ask {a : Nat} (ha : a < 10) : ¬ enc 1 (nI a) < -10 ∧ enc 1 (nI a) < 0 ∧ -1 - enc 1 (nI a) = nI a := by
  have e : enc 1 (nI a) = iI (-1 - a) := by
    have z : (-1 : Int32) = iI (-1) := by decide
    have : enc 1 (nI a) = -1 - nI a := by simp [enc]
    rw [this, z, iI_nat, iI_sub]
  rw [e]
  have z : (-1 : Int32) = iI (-1) := by decide
  have z0 : (0 : Int32).toInt = 0 := rfl
  have z1 : (-10 : Int32).toInt = -10 := rfl
  refine ⟨fun q => ?_, ?_, ?_⟩
  · rw [fa_lt, iI_toInt (by omega) (by omega)] at q; omega
  · rw [fa_lt, iI_toInt (by omega) (by omega)]; omega
  · rw [z, iI_sub, iI_nat]; congr 1; omega
theorem nI_m1' {l : Nat} : nI (l + 1) + -1 = nI l := by
  have z : (-1 : Int32) = iI (-1) := by decide
  rw [z, iI_nat, iI_add, iI_nat]; congr 1; omega
theorem cl_seg {h : PH} {b u : Nat} {mo ma A : Nat → Int32} (K13 : gK h (b + 13) = (0, 2)) (K16 : gK h (b + 16) = (1, 400)) (K17 : gK h (b + 17) = (1, 10)) (K18 : gK h (b + 18) = (1, 32)) (R1 : gR h (b + 13) 1 = some (b + 16)) (R3 : gR h (b + 13) 3 = some (b + 17)) (R4 : gR h (b + 13) 4 = some (b + 18)) (hu : gI h (b + 13) 2 = nI u) (u4 : u ≤ 400) (hcode : ∀ i, i < u → gI h (b + 16) i = enc (mo i) (ma i)) (hA : ∀ a, a < 10 → gI h (b + 17) a = A a) :
    ∀ n f S S' V M (hh : PH), segT mo ma n f S = some S' → TV S V → S.length ≤ 30 → n < M → f + n ≤ u → Sn [(18, 0, 32)] b h hh → Stk hh (b + 18) V → ∃ h', Sn [(18, 0, 32)] b h h' ∧ Stk h' (b + 18) (evs mo ma A n f V) ∧ f_Law_reckon_9 M (b + 13) (nI (f + n)) (nI V.length) (nI f) hh = f_Law_reckon_153 (b + 13) (nI (evs mo ma A n f V).length) h' := by
  intro n
  induction n with
  | zero =>
    intro f S S' V M hh hs tv hl hM hf t st
    obtain ⟨N, rfl⟩ : ∃ N, M = N + 1 := ⟨M - 1, by omega⟩
    refine ⟨hh, t, st, ?_⟩
    rw [f_Law_reckon_9, if_pos ((nI_le' (by omega) (by omega)).mpr (by omega))]
    rfl
  | succ n ih =>
    intro f S S' V M hh hs tv hl hM hf t st
    obtain ⟨N, rfl⟩ : ∃ N, M = N + 1 := ⟨M - 1, by omega⟩
    unfold segT at hs
    cases hc : ck1 (mo f) (ma f) S with
    | none => rw [hc] at hs; cases hs
    | some S1 =>
      rw [hc] at hs
      have hs : (if S1.length ≤ 30 then segT mo ma n (f + 1) S1 else none) = some S' := hs
      by_cases q : S1.length ≤ 30
      case neg => rw [if_neg q] at hs; cases hs
      rw [if_pos q] at hs
      have ck := ck_of hc
      have tv1 := ev_TV (A := A) ck tv
      have kk : gK hh (b + 13) = (0, 2) ∧ gK hh (b + 16) = (1, 400) ∧ gK hh (b + 17) = (1, 10) ∧ gK hh (b + 18) = (1, 32) := ⟨by rw [t.1]; exact K13, by rw [t.1]; exact K16, by rw [t.1]; exact K17, by rw [t.1]; exact K18⟩
      have rr : gR hh (b + 13) 1 = some (b + 16) ∧ gR hh (b + 13) 3 = some (b + 17) ∧ gR hh (b + 13) 4 = some (b + 18) := ⟨by rw [t.2.1]; exact R1, by rw [t.2.1]; exact R3, by rw [t.2.1]; exact R4⟩
      have uu : gI hh (b + 13) 2 = nI u := by rw [t.I (by decide)]; exact hu
      have cc : gI hh (b + 16) f = enc (mo f) (ma f) := by rw [t.2.2.2.2 16 f (by simp [inL])]; exact hcode f (by omega)
      have aa : ∀ a, a < 10 → gI hh (b + 17) a = A a := fun a ha => by rw [t.2.2.2.2 17 a (by simp [inL])]; exact hA a ha
      have e1 : ¬ f + (n + 1) ≤ f := by omega
      have e2 : ¬ u ≤ f := by omega
      have e3 : f < 400 := by omega
      have lV := tv.len
      have lV1 := tv1.len
      have ef : f + (n + 1) = f + 1 + n := by omega
      have e20 : (-20 : Int32) < -10 := by decide
      rcases ck with ⟨a, h0, ha, hb, e⟩ | ⟨a, h0, ha, hb, e⟩ | ⟨r, h0, hS, e⟩ | ⟨tt, x, y, r, h0, ht, hS, e⟩
      · obtain ⟨n1, n2, n3⟩ := enc_num hb
        have ev : ev1 (mo f) (ma f) A V = nI a :: V := by unfold ev1; rw [if_pos h0, ha]
        rw [ev] at tv1 lV1
        rw [List.length_cons] at lV1
        have e4 : ¬ 32 ≤ V.length := by omega
        have e5 : V.length < 32 := by omega
        obtain ⟨h', t', st', r'⟩ := ih (f + 1) S1 S' (nI a :: V) N (sI hh (b + 18) V.length (nI a)) hs tv1 q (by omega) (by omega) (t.put 18 _ _ (inL_in (lo := 0) (hi := 32) (by decide) (by omega) e5)) ⟨gI_q rfl rfl, st.put (Nat.le_refl _)⟩
        rw [← ev] at st'
        refine ⟨h', t', st', ?_⟩
        have main : f_Law_reckon_9 (N + 1) (b + 13) (nI (f + (n + 1))) (nI V.length) (nI f) hh = f_Law_reckon_9 N (b + 13) (nI (f + (n + 1))) (nI (V.length + 1)) (nI (f + 1)) (sI hh (b + 18) V.length (nI a)) := by
          rw [f_Law_reckon_9]
          simp (disch := omega) only [f_Law_reckon_73, lnA, ↓ob_eq, ob_so, ldI, ldR, ldO, stI, stZ, stR, isO, wrA_n, rdA_n, wrA_l, rdA_l, gK_sI, gR_sI, gX_sI, gN_sI, gK_cp, gR_cp, gX_cp, gN_cp, rtZ_0, rtZ_1, if_true, reduceIte, and_self, true_and, and_true, kk, rr, uu, cc, h0, ha, n1, n2, n3, e1, e2, e3, e4, e5, nI_le', nI_addL, if_false]
        rw [ef] at main ⊢
        show _ = f_Law_reckon_153 (b + 13) (nI (evs mo ma A n (f + 1) (ev1 (mo f) (ma f) A V)).length) h'
        rw [ev]
        exact main.trans r'
      · obtain ⟨n1, n2, n3⟩ := enc_ask hb
        have ev : ev1 (mo f) (ma f) A V = A a :: V := by unfold ev1; rw [h0, if_neg (by decide), if_pos rfl, ha, tn_nI (by omega)]
        rw [ev] at tv1 lV1
        rw [List.length_cons] at lV1
        have e4 : ¬ 32 ≤ V.length := by omega
        have e5 : V.length < 32 := by omega
        obtain ⟨h', t', st', r'⟩ := ih (f + 1) S1 S' (A a :: V) N (sI hh (b + 18) V.length (A a)) hs tv1 q (by omega) (by omega) (t.put 18 _ _ (inL_in (lo := 0) (hi := 32) (by decide) (by omega) e5)) ⟨gI_q rfl rfl, st.put (Nat.le_refl _)⟩
        rw [← ev] at st'
        refine ⟨h', t', st', ?_⟩
        have main : f_Law_reckon_9 (N + 1) (b + 13) (nI (f + (n + 1))) (nI V.length) (nI f) hh = f_Law_reckon_9 N (b + 13) (nI (f + (n + 1))) (nI (V.length + 1)) (nI (f + 1)) (sI hh (b + 18) V.length (A a)) := by
          rw [f_Law_reckon_9]
          simp (disch := omega) only [f_Law_reckon_73, lnA, ↓ob_eq, ob_so, ldI, ldR, ldO, stI, stZ, stR, isO, wrA_n, rdA_n, wrA_l, rdA_l, gK_sI, gR_sI, gX_sI, gN_sI, gK_cp, gR_cp, gX_cp, gN_cp, rtZ_0, rtZ_1, if_true, reduceIte, and_self, true_and, and_true, kk, rr, uu, cc, h0, ha, n1, n2, n3, hb, aa a hb, e1, e2, e3, e4, e5, nI_le', nI_addL, if_false]
        rw [ef] at main ⊢
        show _ = f_Law_reckon_153 (b + 13) (nI (evs mo ma A n (f + 1) (ev1 (mo f) (ma f) A V)).length) h'
        rw [ev]
        exact main.trans r'
      · subst hS
        match V, tv, st, lV, tv1, lV1 with
        | v :: V, tv, st, lV, tv1, lV1 =>
          have ev : ev1 (mo f) (ma f) A (v :: V) = (1 - v) :: V := by unfold ev1; rw [h0, if_neg (by decide), if_neg (by decide), if_pos rfl]
          have l1 : (v :: V).length = V.length + 1 := rfl
          rw [ev] at tv1 lV1
          rw [List.length_cons] at lV1 lV hl
          rw [List.length_cons] at lV
          have e5 : V.length < 32 := by omega
          have e6 : ¬ nI (V.length + 1) ≤ 0 := fun z => by
            have this : V.length + 1 ≤ 0 := (nI_leL (n := 0) (by omega) (by decide)).mp z
            omega
          obtain ⟨h', t', st', r'⟩ := ih (f + 1) S1 S' ((1 - v) :: V) N (sI hh (b + 18) V.length (1 - v)) hs tv1 q (by omega) (by omega) (t.put 18 _ _ (inL_in (lo := 0) (hi := 32) (by decide) (by omega) e5)) ⟨gI_q rfl rfl, st.2.put (Nat.le_refl _)⟩
          rw [← ev] at st'
          refine ⟨h', t', st', ?_⟩
          have en : enc 9 (ma f) = -20 := by simp [enc]
          have main : f_Law_reckon_9 (N + 1) (b + 13) (nI (f + (n + 1))) (nI (v :: V).length) (nI f) hh = f_Law_reckon_9 N (b + 13) (nI (f + (n + 1))) (nI (V.length + 1)) (nI (f + 1)) (sI hh (b + 18) V.length (1 - v)) := by
            rw [l1, f_Law_reckon_9]
            simp (disch := omega) only [↓ob_eq, ob_so, ldI, ldR, ldO, stI, stZ, stR, isO, wrA_n, rdA_n, wrA_l, rdA_l, gK_sI, gR_sI, gX_sI, gN_sI, gK_cp, gR_cp, gX_cp, gN_cp, rtZ_0, rtZ_1, if_true, reduceIte, and_self, true_and, and_true, kk, rr, uu, cc, h0, en, e20, e1, e2, e3, e5, e6, nI_pm1, st.1, nI_le', nI_addL, if_false]
          rw [ef] at main ⊢
          show _ = f_Law_reckon_153 (b + 13) (nI (evs mo ma A n (f + 1) (ev1 (mo f) (ma f) A (v :: V))).length) h'
          rw [ev]
          exact main.trans r'
      · subst hS
        match V, tv, st, lV, tv1, lV1 with
        | vy :: vx :: V, tv, st, lV, tv1, lV1 =>
          obtain ⟨⟨j1, j2, j3⟩, o1, o2, o3, o4⟩ := jn (arg := ma f) h0 tv.2.1.1 tv.1.1 tv.1.2
          have ev : ev1 (mo f) (ma f) A (vy :: vx :: V) = tw (mo f) vx vy :: V := by unfold ev1; rw [if_neg o1, if_neg o2, if_neg o3]
          have l1 : (vy :: vx :: V).length = V.length + 1 + 1 := rfl
          rw [ev] at tv1 lV1
          rw [List.length_cons, List.length_cons] at lV hl
          rw [List.length_cons, List.length_cons] at lV
          have e5 : V.length < 32 := by omega
          have e7 : V.length + 1 < 32 := by omega
          have e6 : ¬ nI (V.length + 1 + 1) ≤ 1 := fun z => by
            have this : V.length + 1 + 1 ≤ 1 := (nI_leL (n := 1) (by omega) (by decide)).mp z
            omega
          have s1 : gI hh (b + 18) (V.length + 1) = vy := st.1
          have s2 : gI hh (b + 18) V.length = vx := st.2.1
          obtain ⟨h', t', st', r'⟩ := ih (f + 1) S1 S' (tw (mo f) vx vy :: V) N (sI hh (b + 18) V.length (tw (mo f) vx vy)) hs tv1 q (by omega) (by omega) (t.put 18 _ _ (inL_in (lo := 0) (hi := 32) (by decide) (by omega) e5)) ⟨gI_q rfl rfl, st.2.2.put (Nat.le_refl _)⟩
          rw [← ev] at st'
          refine ⟨h', t', st', ?_⟩
          have main : f_Law_reckon_9 (N + 1) (b + 13) (nI (f + (n + 1))) (nI (vy :: vx :: V).length) (nI f) hh = f_Law_reckon_9 N (b + 13) (nI (f + (n + 1))) (nI (V.length + 1)) (nI (f + 1)) (sI hh (b + 18) V.length (tw (mo f) vx vy)) := by
            rw [l1, f_Law_reckon_9]
            simp (disch := omega) only [↓ob_eq, ob_so, ldI, ldR, ldO, stI, stZ, stR, isO, wrA_n, rdA_n, wrA_l, rdA_l, gK_sI, gR_sI, gX_sI, gN_sI, gK_cp, gR_cp, gX_cp, gN_cp, rtZ_0, rtZ_1, if_true, reduceIte, and_self, true_and, and_true, kk, rr, uu, cc, j1, j2, j3, e1, e2, e3, e5, e6, e7, nI_m1', nI_pm1, s1, s2, nI_le', nI_addL, if_false]
          rw [ef] at main ⊢
          show _ = f_Law_reckon_153 (b + 13) (nI (evs mo ma A n (f + 1) (ev1 (mo f) (ma f) A (vy :: vx :: V))).length) h'
          rw [ev]
          exact main.trans r'
theorem mo_seg {h : PH} {b : Nat} {mo ma A : Nat → Int32} (K131 : gK h (b + 131) = (0, 9)) (K147 : gK h (b + 147) = (1, 1200)) (K148 : gK h (b + 148) = (1, 1200)) (K153 : gK h (b + 153) = (1, 10)) (K154 : gK h (b + 154) = (1, 420)) (R25 : gR h (b + 131) 25 = some (b + 147)) (R26 : gR h (b + 131) 26 = some (b + 148)) (R42 : gR h (b + 131) 42 = some (b + 153)) (R43 : gR h (b + 131) 43 = some (b + 154)) (hmo : ∀ i, i < 400 → gI h (b + 147) i = mo i) (hma : ∀ i, i < 400 → gI h (b + 148) i = ma i) (hA : ∀ a, a < 10 → gI h (b + 153) a = A a) :
    ∀ n f S S' V M (hh : PH), segT mo ma n f S = some S' → TV S V → S.length ≤ 30 → n < M → f + n ≤ 400 → Sn [(154, 0, 420)] b h hh → Stk hh (b + 154) V → ∃ h', Sn [(154, 0, 420)] b h h' ∧ Stk h' (b + 154) (evs mo ma A n f V) ∧ f_Mo_runs_12 M (b + 131) 0 (nI (f + n)) (nI V.length) (nI f) hh = some (gI h' (b + 154) 0, h') := by
  intro n
  induction n with
  | zero =>
    intro f S S' V M hh hs tv hl hM hf t st
    obtain ⟨N, rfl⟩ : ∃ N, M = N + 1 := ⟨M - 1, by omega⟩
    refine ⟨hh, t, st, ?_⟩
    have kk : gK hh (b + 131) = (0, 9) ∧ gK hh (b + 154) = (1, 420) := ⟨by rw [t.1]; exact K131, by rw [t.1]; exact K154⟩
    have rr : gR hh (b + 131) 43 = some (b + 154) := by rw [t.2.1]; exact R43
    have z0 : (400 : Int32) * 0 + nI (f + 0) = nI f := by
      rw [Int32.mul_zero, Int32.zero_add]; rfl
    have r0 : rdA hh (b + 154) 0 = some (gI hh (b + 154) 0) := by
      have := rdA_n (h := hh) (a := b + 154) (j := 0) (by omega)
      rw [kk.2, if_pos ⟨rfl, by decide⟩, nI_0] at this
      exact this
    rw [f_Mo_runs_12, z0, if_pos ((nI_le' (by omega) (by omega)).mpr (Nat.le_refl _))]
    simp only [r0, ↓ob_eq, ob_so, ldI, ldR, ldO, stI, stZ, stR, isO, wrA_n, rdA_n, wrA_l, rdA_l, gK_sI, gR_sI, gX_sI, gN_sI, gK_cp, gR_cp, gX_cp, gN_cp, rtZ_0, rtZ_1, if_true, reduceIte, and_self, true_and, and_true, kk, rr]
  | succ n ih =>
    intro f S S' V M hh hs tv hl hM hf t st
    obtain ⟨N, rfl⟩ : ∃ N, M = N + 1 := ⟨M - 1, by omega⟩
    unfold segT at hs
    cases hc : ck1 (mo f) (ma f) S with
    | none => rw [hc] at hs; cases hs
    | some S1 =>
      rw [hc] at hs
      have hs : (if S1.length ≤ 30 then segT mo ma n (f + 1) S1 else none) = some S' := hs
      by_cases q : S1.length ≤ 30
      case neg => rw [if_neg q] at hs; cases hs
      rw [if_pos q] at hs
      have ck := ck_of hc
      have tv1 := ev_TV (A := A) ck tv
      have kk : gK hh (b + 131) = (0, 9) ∧ gK hh (b + 147) = (1, 1200) ∧ gK hh (b + 148) = (1, 1200) ∧ gK hh (b + 153) = (1, 10) ∧ gK hh (b + 154) = (1, 420) := ⟨by rw [t.1]; exact K131, by rw [t.1]; exact K147, by rw [t.1]; exact K148, by rw [t.1]; exact K153, by rw [t.1]; exact K154⟩
      have rr : gR hh (b + 131) 25 = some (b + 147) ∧ gR hh (b + 131) 26 = some (b + 148) ∧ gR hh (b + 131) 42 = some (b + 153) ∧ gR hh (b + 131) 43 = some (b + 154) := ⟨by rw [t.2.1]; exact R25, by rw [t.2.1]; exact R26, by rw [t.2.1]; exact R42, by rw [t.2.1]; exact R43⟩
      have co : gI hh (b + 147) f = mo f := by rw [t.2.2.2.2 147 f (by simp [inL])]; exact hmo f (by omega)
      have ca : gI hh (b + 148) f = ma f := by rw [t.2.2.2.2 148 f (by simp [inL])]; exact hma f (by omega)
      have aa : ∀ a, a < 10 → gI hh (b + 153) a = A a := fun a ha => by rw [t.2.2.2.2 153 a (by simp [inL])]; exact hA a ha
      have z0 : (400 : Int32) * 0 + nI (f + (n + 1)) = nI (f + (n + 1)) := by
        rw [Int32.mul_zero, Int32.zero_add]
      have e1 : ¬ f + (n + 1) ≤ f := by omega
      have e3 : f < 1200 := by omega
      have lV := tv.len
      have lV1 := tv1.len
      have ef : f + (n + 1) = f + 1 + n := by omega
      have e10 : ¬ (1 : Int32) = 0 := by decide
      have e90 : ¬ (9 : Int32) = 0 := by decide
      have e91 : ¬ (9 : Int32) = 1 := by decide
      rcases ck with ⟨a, h0, ha, hb, e⟩ | ⟨a, h0, ha, hb, e⟩ | ⟨r, h0, hS, e⟩ | ⟨tt, x, y, r, h0, ht, hS, e⟩
      · have ev : ev1 (mo f) (ma f) A V = nI a :: V := by unfold ev1; rw [if_pos h0, ha]
        rw [ev] at tv1 lV1
        rw [List.length_cons] at lV1
        have e5 : V.length < 420 := by omega
        obtain ⟨h', t', st', r'⟩ := ih (f + 1) S1 S' (nI a :: V) N (sI hh (b + 154) V.length (nI a)) hs tv1 q (by omega) (by omega) (t.put 154 _ _ (inL_in (lo := 0) (hi := 420) (by decide) (by omega) e5)) ⟨gI_q rfl rfl, st.put (Nat.le_refl _)⟩
        rw [← ev] at st'
        refine ⟨h', t', st', ?_⟩
        have main : f_Mo_runs_12 (N + 1) (b + 131) 0 (nI (f + (n + 1))) (nI V.length) (nI f) hh = f_Mo_runs_12 N (b + 131) 0 (nI (f + (n + 1))) (nI (V.length + 1)) (nI (f + 1)) (sI hh (b + 154) V.length (nI a)) := by
          rw [f_Mo_runs_12, z0]
          simp (disch := omega) only [f_Mo_runs_45, f_Mo_runs_83, ↓ob_eq, ob_so, ldI, ldR, ldO, stI, stZ, stR, isO, wrA_n, rdA_n, wrA_l, rdA_l, gK_sI, gR_sI, gX_sI, gN_sI, gK_cp, gR_cp, gX_cp, gN_cp, rtZ_0, rtZ_1, if_true, reduceIte, and_self, true_and, and_true, kk, rr, co, ca, h0, ha, e1, e3, e5, nI_le', nI_addL, if_false]
        rw [ef] at main ⊢
        exact main.trans r'
      · have ev : ev1 (mo f) (ma f) A V = A a :: V := by unfold ev1; rw [h0, if_neg (by decide), if_pos rfl, ha, tn_nI (by omega)]
        rw [ev] at tv1 lV1
        rw [List.length_cons] at lV1
        have e5 : V.length < 420 := by omega
        obtain ⟨h', t', st', r'⟩ := ih (f + 1) S1 S' (A a :: V) N (sI hh (b + 154) V.length (A a)) hs tv1 q (by omega) (by omega) (t.put 154 _ _ (inL_in (lo := 0) (hi := 420) (by decide) (by omega) e5)) ⟨gI_q rfl rfl, st.put (Nat.le_refl _)⟩
        rw [← ev] at st'
        refine ⟨h', t', st', ?_⟩
        have main : f_Mo_runs_12 (N + 1) (b + 131) 0 (nI (f + (n + 1))) (nI V.length) (nI f) hh = f_Mo_runs_12 N (b + 131) 0 (nI (f + (n + 1))) (nI (V.length + 1)) (nI (f + 1)) (sI hh (b + 154) V.length (A a)) := by
          rw [f_Mo_runs_12, z0]
          simp (disch := omega) only [f_Mo_runs_45, f_Mo_runs_83, ↓ob_eq, ob_so, ldI, ldR, ldO, stI, stZ, stR, isO, wrA_n, rdA_n, wrA_l, rdA_l, gK_sI, gR_sI, gX_sI, gN_sI, gK_cp, gR_cp, gX_cp, gN_cp, rtZ_0, rtZ_1, if_true, reduceIte, and_self, true_and, and_true, kk, rr, co, ca, h0, ha, hb, aa a hb, e1, e3, e5, e10, nI_le', nI_addL, if_false]
        rw [ef] at main ⊢
        exact main.trans r'
      · subst hS
        match V, tv, st, lV, tv1, lV1 with
        | v :: V, tv, st, lV, tv1, lV1 =>
          have ev : ev1 (mo f) (ma f) A (v :: V) = (1 - v) :: V := by unfold ev1; rw [h0, if_neg (by decide), if_neg (by decide), if_pos rfl]
          have l1 : (v :: V).length = V.length + 1 := rfl
          rw [ev] at tv1 lV1
          rw [List.length_cons] at lV1 lV hl
          rw [List.length_cons] at lV
          have e5 : V.length < 420 := by omega
          obtain ⟨h', t', st', r'⟩ := ih (f + 1) S1 S' ((1 - v) :: V) N (sI hh (b + 154) V.length (1 - v)) hs tv1 q (by omega) (by omega) (t.put 154 _ _ (inL_in (lo := 0) (hi := 420) (by decide) (by omega) e5)) ⟨gI_q rfl rfl, st.2.put (Nat.le_refl _)⟩
          rw [← ev] at st'
          refine ⟨h', t', st', ?_⟩
          have main : f_Mo_runs_12 (N + 1) (b + 131) 0 (nI (f + (n + 1))) (nI (v :: V).length) (nI f) hh = f_Mo_runs_12 N (b + 131) 0 (nI (f + (n + 1))) (nI (V.length + 1)) (nI (f + 1)) (sI hh (b + 154) V.length (1 - v)) := by
            rw [l1, f_Mo_runs_12, z0]
            simp (disch := omega) only [↓ob_eq, ob_so, ldI, ldR, ldO, stI, stZ, stR, isO, wrA_n, rdA_n, wrA_l, rdA_l, gK_sI, gR_sI, gX_sI, gN_sI, gK_cp, gR_cp, gX_cp, gN_cp, rtZ_0, rtZ_1, if_true, reduceIte, and_self, true_and, and_true, kk, rr, co, h0, e1, e3, e5, e90, e91, nI_pm1, st.1, nI_le', nI_addL, if_false]
          rw [ef] at main ⊢
          exact main.trans r'
      · subst hS
        match V, tv, st, lV, tv1, lV1 with
        | vy :: vx :: V, tv, st, lV, tv1, lV1 =>
          obtain ⟨⟨j1, j2, j3⟩, o1, o2, o3, o4⟩ := jn (arg := ma f) h0 tv.2.1.1 tv.1.1 tv.1.2
          have ev : ev1 (mo f) (ma f) A (vy :: vx :: V) = tw (mo f) vx vy :: V := by unfold ev1; rw [if_neg o1, if_neg o2, if_neg o3]
          have l1 : (vy :: vx :: V).length = V.length + 1 + 1 := rfl
          rw [ev] at tv1 lV1
          rw [List.length_cons, List.length_cons] at lV hl
          rw [List.length_cons, List.length_cons] at lV
          have e5 : V.length < 420 := by omega
          have e7 : V.length + 1 < 420 := by omega
          have s1 : gI hh (b + 154) (V.length + 1) = vy := st.1
          have s2 : gI hh (b + 154) V.length = vx := st.2.1
          obtain ⟨h', t', st', r'⟩ := ih (f + 1) S1 S' (tw (mo f) vx vy :: V) N (sI hh (b + 154) V.length (tw (mo f) vx vy)) hs tv1 q (by omega) (by omega) (t.put 154 _ _ (inL_in (lo := 0) (hi := 420) (by decide) (by omega) e5)) ⟨gI_q rfl rfl, st.2.2.put (Nat.le_refl _)⟩
          rw [← ev] at st'
          refine ⟨h', t', st', ?_⟩
          have main : f_Mo_runs_12 (N + 1) (b + 131) 0 (nI (f + (n + 1))) (nI (vy :: vx :: V).length) (nI f) hh = f_Mo_runs_12 N (b + 131) 0 (nI (f + (n + 1))) (nI (V.length + 1)) (nI (f + 1)) (sI hh (b + 154) V.length (tw (mo f) vx vy)) := by
            rw [l1, f_Mo_runs_12, z0]
            simp (disch := omega) only [↓ob_eq, ob_so, ldI, ldR, ldO, stI, stZ, stR, isO, wrA_n, rdA_n, wrA_l, rdA_l, gK_sI, gR_sI, gX_sI, gN_sI, gK_cp, gR_cp, gX_cp, gN_cp, rtZ_0, rtZ_1, if_true, reduceIte, and_self, true_and, and_true, kk, rr, co, o1, o2, o3, o4, e1, e3, e5, e7, nI_pm1, s1, s2, nI_le', nI_addL, if_false]
          rw [ef] at main ⊢
          exact main.trans r'
