/-! ===== texts: how a law is read, in thought ===== -/
abbrev XCS : Type := List (Int32 × Int32)
abbrev XPR : Type := Except (Nat × Nat) (Nat × XCS)
def isNm (t : Int32) : Bool := decide (t = nI t.toNatClampNeg ∧ t.toNatClampNeg ≤ 9999)
def isAs (t : Int32) : Bool := decide (t = nI t.toNatClampNeg ∧ 20003 ≤ t.toNatClampNeg ∧ t.toNatClampNeg ≤ 20012)
/-- what a token can be -/
def TkK (c : Int32) : Prop := c = -1 ∨ c = -2 ∨ (∃ x, x ≤ 9999 ∧ c = nI x) ∨ (∃ x, x ≤ 255 ∧ c = nI (10000 + x)) ∨ ∃ w, w < 29 ∧ c = nI (20000 + w)
theorem TkR.k {t v c : Int32} (h : TkR t v c) : TkK c := by
  rcases h with ⟨h, -⟩ | ⟨h, -⟩ | ⟨x, h1, h2, -⟩ | ⟨x, h1, h2, -⟩ | ⟨x, h1, h2, -⟩
  · exact Or.inl h
  · exact Or.inr (Or.inl h)
  · exact Or.inr (Or.inr (Or.inl ⟨x, h1, h2⟩))
  · exact Or.inr (Or.inr (Or.inr (Or.inl ⟨x, h1, h2⟩)))
  · exact Or.inr (Or.inr (Or.inr (Or.inr ⟨x, h1, h2⟩)))
theorem tkV_k {B : Nat → Nat} {n p : Nat} (hn : n ≤ 400) (hB : ∀ j, j < 400 → B j ≤ 255) (c : p < n) : tkV B n p = -2 ∨ (∃ x, x ≤ 9999 ∧ tkV B n p = nI x) ∨ (∃ x, x ≤ 255 ∧ tkV B n p = nI (10000 + x)) ∨ ∃ w, w < 29 ∧ tkV B n p = nI (20000 + w) := by
  unfold tkV
  have te := tkE_le (B := B) c
  by_cases c1 : txL (B p) = true
  · rw [if_pos c1]
    cases e : fix (sgI B (tkE B n p - p) p) cwd 0 with
    | none => exact Or.inl rfl
    | some w => exact Or.inr (Or.inr (Or.inr ⟨w, (fix_prm e).1, rfl⟩))
  · rw [if_neg c1]
    have c1 : txL (B p) = false := by simpa using c1
    by_cases c2 : txD (B p) = true
    · rw [if_pos c2]
      by_cases c3 : tkE B n p - p ≤ 4
      · rw [if_pos c3]
        have hD := tkE_D (n := n) c2 c1
        have h2 : nmv B p (tkE B n p - p) < 10 ^ (tkE B n p - p) := nmv_lt _ (fun j a y => hD j a (by omega))
        have h3 : (10 : Nat) ^ (tkE B n p - p) ≤ 10000 := pow10_4 _ c3
        exact Or.inr (Or.inl ⟨_, by omega, rfl⟩)
      · rw [if_neg c3]; exact Or.inl rfl
    · rw [if_neg c2]
      exact Or.inr (Or.inr (Or.inl ⟨B p, hB p (by omega), rfl⟩))
theorem tkA_k {B : Nat → Nat} {n : Nat} (hn : n ≤ 400) (hB : ∀ j, j < 400 → B j ≤ 255) (i : Nat) : TkK (tkA B n i) := by
  unfold tkA
  by_cases c : psN B n i < n
  · rw [if_pos c]
    exact Or.inr (tkV_k hn hB c)
  · rw [if_neg c]; exact Or.inl rfl
theorem tk_ne {B : Nat → Nat} {n i : Nat} (hn : n ≤ 400) (hB : ∀ j, j < 400 → B j ≤ 255) (h : psN B n i < n) : tkA B n i ≠ -1 := by
  unfold tkA
  rw [if_pos h]
  rcases tkV_k hn hB h with e | ⟨x, x1, e⟩ | ⟨x, x1, e⟩ | ⟨x, x1, e⟩
  · rw [e]; decide
  · rw [e]; exact nI_ne_m1 (by omega)
  · rw [e]; exact nI_ne_m1 (by omega)
  · rw [e]; exact nI_ne_m1 (by omega)
theorem isNm_x {x : Nat} (hx : x ≤ 9999) : isNm (nI x) = true := by
  unfold isNm
  rw [tn_nI (by omega)]
  simp [hx]
theorem isNm_o {x : Nat} (h1 : 9999 < x) (hx : x < 2147483648) : isNm (nI x) = false := by
  unfold isNm
  rw [tn_nI hx]
  simp; omega
theorem isNm_g {t : Int32} (h : isNm t = true) : ∃ x, x ≤ 9999 ∧ t = nI x := by
  unfold isNm at h
  simp at h
  exact ⟨_, h.2, h.1⟩
theorem isAs_x {a : Nat} (ha : a < 10) : isAs (nI (20003 + a)) = true := by
  unfold isAs
  rw [tn_nI (by omega)]
  simp; omega
theorem isAs_g {t : Int32} (h : isAs t = true) : ∃ a, a < 10 ∧ t = nI (20003 + a) := by
  unfold isAs at h
  simp only [decide_eq_true_eq] at h
  exact ⟨t.toNatClampNeg - 20003, by omega, by rw [show 20003 + (t.toNatClampNeg - 20003) = t.toNatClampNeg by omega]; exact h.1⟩
theorem isAs_o {x : Nat} (h1 : x < 20003 ∨ 20012 < x) (hx : x < 2147483648) : isAs (nI x) = false := by
  unfold isAs
  rw [tn_nI hx]
  simp; omega
section SPEC
variable (T : Nat → Int32)
def unS (i : Nat) (cs : XCS) : XPR := if isNm (T i) = true then .ok (i + 1, cs ++ [(0, T i)]) else if isAs (T i) = true then .ok (i + 1, cs ++ [(1, T i - 20003)]) else .error (1, i)
def dvS (i : Nat) (cs : XCS) : XPR := if isNm (T i) = true then (if T i = 0 then .error (2, i) else .ok (i + 1, cs ++ [(0, T i)])) else .error (1, i)
def flu (w : Int32) (cs : XCS) : XCS := if w = 0 then cs else cs ++ [(w, 0)]
def suL : Nat → Int32 → Nat → XCS → XPR
  | 0, _, i, _ => .error (0, i)
  | k + 1, w, i, cs =>
    if T i = 10042 then (match unS T (i + 1) cs with | .ok r => suL k w r.1 (r.2 ++ [(4, 0)]) | .error e => .error e)
    else if T i = 10047 then (match dvS T (i + 1) cs with | .ok r => suL k w r.1 (r.2 ++ [(5, 0)]) | .error e => .error e)
    else if T i = 10043 then (match unS T (i + 1) (flu w cs) with | .ok r => suL k 2 r.1 r.2 | .error e => .error e)
    else if T i = 10045 then (match unS T (i + 1) (flu w cs) with | .ok r => suL k 3 r.1 r.2 | .error e => .error e)
    else .ok (i, flu w cs)
def suS (K i : Nat) (cs : XCS) : XPR := match unS T i cs with | .ok r => suL T K 0 r.1 r.2 | .error e => .error e
def cmO (t : Int32) : Int32 := if t = 10060 then 6 else if t = 10061 then 7 else if t = 10062 then 8 else 0
def cmS (K i : Nat) (cs : XCS) : XPR := match suS T K i cs with
  | .ok r => if cmO (T r.1) = 0 then .error (1, r.1) else (match suS T K (r.1 + 1) r.2 with | .ok q => .ok (q.1, q.2 ++ [(cmO (T r.1), 0)]) | .error e => .error e)
  | .error e => .error e
def emb (x : Bool) (op : Int32) (cs : XCS) : XCS := if x = true then cs ++ [(op, 0)] else cs
def chL (sg : Nat → XCS → XPR) : Nat → Bool → Bool → Nat → XCS → XPR
  | 0, _, _, i, _ => .error (0, i)
  | k + 1, a, o, i, cs => match sg i cs with
    | .ok r => if T r.1 = 20021 then chL sg k true o (r.1 + 1) (emb a 10 r.2) else if T r.1 = 20020 then chL sg k false true (r.1 + 1) (emb o 11 (emb a 10 r.2)) else .ok (r.1, emb o 11 (emb a 10 r.2))
    | .error e => .error e
def siS (K : Nat) : Nat → Nat → XCS → XPR
  | 0, i, cs => if T i = 20022 then .error (3, i) else if T i = 10040 then .error (3, i) else cmS T K i cs
  | d + 1, i, cs => if T i = 20022 then (match siS K d (i + 1) cs with | .ok r => .ok (r.1, r.2 ++ [(9, 0)]) | .error e => .error e)
    else if T i = 10040 then (match chL T (siS K d) K false false (i + 1) cs with | .ok r => if T r.1 = 10041 then .ok (r.1 + 1, r.2) else .error (1, r.1) | .error e => .error e)
    else cmS T K i cs
def chS (K d i : Nat) (cs : XCS) : XPR := chL T (siS T K d) K false false i cs
end SPEC
/-! the codes are of a kind -/
def sqT : XCS → List Nat → Option (List Nat)
  | [], S => some S
  | c :: r, S => (ck1 c.1 c.2 S).bind fun S' => if S'.length ≤ 30 then sqT r S' else none
theorem sqT_app : ∀ (x y : XCS) (S S' : List Nat), sqT x S = some S' → sqT (x ++ y) S = sqT y S'
  | [], y, S, S', h => by cases h; rfl
  | c :: r, y, S, S', h => by
    unfold sqT at h
    cases e : ck1 c.1 c.2 S with
    | none => rw [e] at h; cases h
    | some Z =>
      rw [e, bind_some'] at h
      split at h
      · next q =>
        show ((ck1 c.1 c.2 S).bind fun S' => if S'.length ≤ 30 then sqT (r ++ y) S' else none) = sqT y S'
        rw [e, bind_some', if_pos q]
        exact sqT_app r y Z S' h
      · cases h
theorem sqT_1 {o a : Int32} {S S' : List Nat} (h : ck1 o a S = some S') (hl : S'.length ≤ 30) : sqT [(o, a)] S = some S' := by
  unfold sqT
  rw [h, bind_some', if_pos hl]; rfl
theorem sqT_seg {mo ma : Nat → Int32} : ∀ (x : XCS) (f : Nat) (S : List Nat), (∀ j, j < x.length → mo (f + j) = (x.getD j (0, 0)).1 ∧ ma (f + j) = (x.getD j (0, 0)).2) → segT mo ma x.length f S = sqT x S
  | [], f, S, h => rfl
  | c :: r, f, S, h => by
    have h0 := h 0 (by simp)
    simp only [Nat.add_zero, List.getD_cons_zero] at h0
    rw [List.length_cons]
    unfold segT sqT
    rw [h0.1, h0.2]
    congr 1
    funext S'
    split
    · refine sqT_seg r (f + 1) S' (fun j hj => ?_)
      have := h (j + 1) (by simp only [List.length_cons]; omega)
      rw [List.getD_cons_succ] at this
      rw [show f + 1 + j = f + (j + 1) by omega]
      exact this
    · rfl
theorem ck_num {x : Nat} (hx : x ≤ 9999) (S : List Nat) : ck1 0 (nI x) S = some ((if nI x = 0 then 0 else 2) :: S) := by
  unfold ck1
  rw [if_pos rfl, tn_nI (by omega), if_pos ⟨rfl, hx⟩]
theorem ck_ask {a : Nat} (ha : a < 10) (S : List Nat) : ck1 1 (nI a) S = some (0 :: S) := by
  unfold ck1
  rw [if_neg (by decide), if_pos rfl, tn_nI (by omega), if_pos ⟨rfl, ha⟩]
theorem ck_ar {o : Int32} (ho : o = 2 ∨ o = 3 ∨ o = 4) {x y : Nat} (hx : x ≠ 1) (hy : y ≠ 1) (S : List Nat) : ck1 o 0 (y :: x :: S) = some (0 :: S) := by
  unfold ck1
  rw [if_neg (by rcases ho with rfl | rfl | rfl <;> decide), if_neg (by rcases ho with rfl | rfl | rfl <;> decide)]
  dsimp only
  rw [if_pos ho, if_pos ⟨hx, hy⟩]
theorem ck_dv {x : Nat} (hx : x ≠ 1) (S : List Nat) : ck1 5 0 (2 :: x :: S) = some (0 :: S) := by
  unfold ck1
  rw [if_neg (by decide), if_neg (by decide)]
  dsimp only
  rw [if_neg (by decide), if_pos rfl, if_pos ⟨hx, rfl⟩]
theorem ck_cm {o : Int32} (ho : o = 6 ∨ o = 7 ∨ o = 8) {x y : Nat} (hx : x ≠ 1) (hy : y ≠ 1) (S : List Nat) : ck1 o 0 (y :: x :: S) = some (1 :: S) := by
  unfold ck1
  rw [if_neg (by rcases ho with rfl | rfl | rfl <;> decide), if_neg (by rcases ho with rfl | rfl | rfl <;> decide)]
  dsimp only
  rw [if_neg (by rcases ho with rfl | rfl | rfl <;> decide), if_neg (by rcases ho with rfl | rfl | rfl <;> decide), if_pos ho, if_pos ⟨hx, hy⟩]
theorem ck_no (S : List Nat) : ck1 9 0 (1 :: S) = some (1 :: S) := by
  unfold ck1
  rw [if_neg (by decide), if_neg (by decide)]
  cases S with
  | nil => rfl
  | cons x r =>
    dsimp only
    rw [if_neg (by decide), if_neg (by decide), if_neg (by decide), if_pos rfl, if_pos rfl]
theorem ck_an {o : Int32} (ho : o = 10 ∨ o = 11) (S : List Nat) : ck1 o 0 (1 :: 1 :: S) = some (1 :: S) := by
  unfold ck1
  rw [if_neg (by rcases ho with rfl | rfl <;> decide), if_neg (by rcases ho with rfl | rfl <;> decide)]
  dsimp only
  rw [if_neg (by rcases ho with rfl | rfl <;> decide), if_neg (by rcases ho with rfl | rfl <;> decide), if_neg (by rcases ho with rfl | rfl <;> decide), if_neg (by rcases ho with rfl | rfl <;> decide), if_pos ho, if_pos ⟨rfl, rfl⟩]
/-! what comes of it -/
/-- told: how far, what was written, and of what kind it is -/
def XGd (c i : Nat) (cs : XCS) (Y : XCS → Prop) (r : XPR) : Prop := match r with
  | .ok p => i < p.1 ∧ p.1 ≤ c ∧ ∃ w, p.2 = cs ++ w ∧ w.length ≤ p.1 - i ∧ Y w
  | .error p => p.2 ≤ c
def YE (w : XCS) : Prop := ∀ S : List Nat, S.length ≤ 27 → ∃ x, x ≠ 1 ∧ sqT w S = some (x :: S)
def YB (m : Nat) (w : XCS) : Prop := ∀ S : List Nat, S.length ≤ m → sqT w S = some (1 :: S)
theorem isNm_m1 : isNm (-1) = false := by decide
theorem isAs_m1 : isAs (-1) = false := by decide
section GOOD
variable {T : Nat → Int32} {c : Nat}
theorem un_gd (hc : T c = -1) {i : Nat} {cs : XCS} (hi : i ≤ c) : XGd c i cs (fun w => w.length = 1 ∧ ∀ S : List Nat, S.length ≤ 29 → ∃ x, x ≠ 1 ∧ sqT w S = some (x :: S)) (unS T i cs) := by
  unfold unS
  by_cases c1 : isNm (T i) = true
  · rw [if_pos c1]
    obtain ⟨x, x1, x2⟩ := isNm_g c1
    have : i ≠ c := fun e => by rw [e, hc, isNm_m1] at c1; cases c1
    refine ⟨Nat.lt_succ_self _, by show i + 1 ≤ c; omega, _, rfl, by show 1 ≤ i + 1 - i; omega, rfl, fun S hS => ?_⟩
    refine ⟨_, ?_, sqT_1 (by rw [x2]; exact ck_num x1 S) (by simp only [List.length_cons]; omega)⟩
    split <;> decide
  · rw [if_neg c1]
    by_cases c2 : isAs (T i) = true
    · rw [if_pos c2]
      obtain ⟨a, x1, x2⟩ := isAs_g c2
      have : i ≠ c := fun e => by rw [e, hc, isAs_m1] at c2; cases c2
      refine ⟨Nat.lt_succ_self _, by show i + 1 ≤ c; omega, _, rfl, by show 1 ≤ i + 1 - i; omega, rfl, fun S hS => ?_⟩
      refine ⟨0, by decide, sqT_1 (by rw [x2, show nI (20003 + a) - 20003 = nI a by rw [show nI (20003 + a) - 20003 = nI (20003 + a - 20003) from nI_subL _ (by show 20003 ≤ _; omega), show 20003 + a - 20003 = a by omega]]; exact ck_ask x1 S) (by simp only [List.length_cons]; omega)⟩
    · rw [if_neg c2]; exact hi
theorem dv_gd (hc : T c = -1) {i : Nat} {cs : XCS} (hi : i ≤ c) : XGd c i cs (fun w => w.length = 1 ∧ ∀ S : List Nat, S.length ≤ 29 → sqT w S = some (2 :: S)) (dvS T i cs) := by
  unfold dvS
  by_cases c1 : isNm (T i) = true
  · rw [if_pos c1]
    obtain ⟨x, x1, x2⟩ := isNm_g c1
    have : i ≠ c := fun e => by rw [e, hc, isNm_m1] at c1; cases c1
    by_cases c2 : T i = 0
    · rw [if_pos c2]; exact hi
    · rw [if_neg c2]
      refine ⟨Nat.lt_succ_self _, by show i + 1 ≤ c; omega, _, rfl, by show 1 ≤ i + 1 - i; omega, rfl, fun S hS => ?_⟩
      have := ck_num x1 S
      rw [← x2, if_neg c2] at this
      exact sqT_1 this (by simp only [List.length_cons]; omega)
  · rw [if_neg c1]; exact hi
/-- the codes behind a first value, with what waits -/
def YL (w : Int32) (v : XCS) : Prop := ∀ (S : List Nat) (x y : Nat), S.length ≤ 27 → x ≠ 1 → y ≠ 1 → ∃ z, z ≠ 1 ∧ sqT v (if w = 0 then x :: S else y :: x :: S) = some (z :: S)
def GdL (c i : Nat) (w : Int32) (cs : XCS) (r : XPR) : Prop := match r with
  | .ok p => i ≤ p.1 ∧ p.1 ≤ c ∧ ∃ v, p.2 = cs ++ v ∧ v.length ≤ p.1 - i + (if w = 0 then 0 else 1) ∧ YL w v
  | .error p => p.2 ≤ c
theorem flu_y {w : Int32} (hw : w = 0 ∨ w = 2 ∨ w = 3) {cs : XCS} : ∃ v, flu w cs = cs ++ v ∧ v.length = (if w = 0 then 0 else 1) ∧ YL w v := by
  unfold flu
  by_cases c : w = 0
  · rw [if_pos c]
    refine ⟨[], by simp, by rw [if_pos c]; rfl, fun S x y hS hx hy => ⟨x, hx, by rw [if_pos c]; rfl⟩⟩
  · rw [if_neg c]
    refine ⟨_, rfl, by rw [if_neg c]; rfl, fun S x y hS hx hy => ⟨0, by decide, ?_⟩⟩
    rw [if_neg c]
    exact sqT_1 (ck_ar (by rcases hw with h | h | h; exact absurd h c; exact Or.inl h; exact Or.inr (Or.inl h)) hx hy S) (by simp only [List.length_cons]; omega)
theorem ne_end {t : Int32} {i : Nat} (hc : T c = -1) (ht : T i = t) (hn : t ≠ -1) (hi : i ≤ c) : i < c := by
  rcases Nat.lt_or_ge i c with q | q
  · exact q
  · exfalso
    obtain rfl : i = c := by omega
    exact hn (by rw [← ht, hc])
theorem su_gd (hc : T c = -1) : ∀ (k : Nat) (w : Int32) (i : Nat) (cs : XCS), (w = 0 ∨ w = 2 ∨ w = 3) → i ≤ c → GdL c i w cs (suL T k w i cs)
  | 0, w, i, cs, hw, hi => hi
  | k + 1, w, i, cs, hw, hi => by
    unfold suL
    have prod : ∀ (o : Int32) (r : XPR), i < c → (∀ p, r = .ok p → i + 1 < p.1 ∧ p.1 ≤ c ∧ ∃ v, p.2 = cs ++ v ∧ v.length = 1 ∧ ∀ S x, x ≠ 1 → S.length ≤ 28 → sqT (v ++ [(o, 0)]) (x :: S) = some (0 :: S)) → (∀ p, r = .error p → p.2 ≤ c) → GdL c i w cs (match r with | .ok r => suL T k w r.1 (r.2 ++ [(o, 0)]) | .error e => .error e) := by
      intro o r hic h1 h2
      cases r with
      | error e => exact h2 e rfl
      | ok p =>
        obtain ⟨a1, a2, v, a3, a4, a5⟩ := h1 p rfl
        dsimp only
        have g := su_gd hc k w p.1 (p.2 ++ [(o, 0)]) hw a2
        cases e : suL T k w p.1 (p.2 ++ [(o, 0)]) with
        | error e2 => rw [e] at g; exact g
        | ok q =>
          rw [e] at g
          obtain ⟨g1, g2, u, g3, g4, g5⟩ := g
          refine ⟨by omega, g2, v ++ [(o, 0)] ++ u, by rw [g3, a3]; simp, ?_, fun S x y hS hx hy => ?_⟩
          · simp only [List.length_append, List.length_cons, List.length_nil]; omega
          · obtain ⟨z, z1, z2⟩ := g5 S (if w = 0 then 0 else x) (if w = 0 then y else 0) hS (by split; decide; exact hx) (by split; exact hy; decide)
            refine ⟨z, z1, ?_⟩
            by_cases c0 : w = 0
            · rw [if_pos c0] at z2 ⊢
              rw [if_pos c0] at z2
              rw [sqT_app _ u _ _ (a5 S x hx (by omega))]
              exact z2
            · rw [if_neg c0] at z2 ⊢
              rw [if_neg c0, if_neg c0] at z2
              rw [sqT_app _ u _ _ (a5 (x :: S) y hy (by simp only [List.length_cons]; omega))]
              exact z2
    have summ : ∀ (o : Int32), (o = 2 ∨ o = 3) → i < c → GdL c i w cs (match unS T (i + 1) (flu w cs) with | .ok r => suL T k o r.1 r.2 | .error e => .error e) := by
      intro o ho hic
      obtain ⟨f, f1, f2, f3⟩ := flu_y hw (cs := cs)
      have g := un_gd hc (i := i + 1) (cs := flu w cs) (by omega)
      cases e : unS T (i + 1) (flu w cs) with
      | error e2 => rw [e] at g; exact g
      | ok p =>
        rw [e] at g
        obtain ⟨a1, a2, v, a3, a4, a5, a6⟩ := g
        dsimp only
        have o0 : o ≠ 0 := by rcases ho with rfl | rfl <;> decide
        have g := su_gd hc k o p.1 p.2 (Or.inr ho) a2
        cases e : suL T k o p.1 p.2 with
        | error e2 => rw [e] at g; exact g
        | ok q =>
          rw [e] at g
          obtain ⟨g1, g2, u, g3, g4, g5⟩ := g
          rw [if_neg o0] at g4
          refine ⟨by omega, g2, f ++ (v ++ u), by rw [g3, a3, f1]; simp, ?_, fun S x y hS hx hy => ?_⟩
          · simp only [List.length_append]; omega
          · obtain ⟨z, z1, z2⟩ := f3 S x y hS hx hy
            obtain ⟨y', y1, y2⟩ := a6 (z :: S) (by simp only [List.length_cons]; omega)
            obtain ⟨r, r1, r2⟩ := g5 S z y' hS z1 y1
            rw [if_neg o0] at r2
            exact ⟨r, r1, by rw [sqT_app _ _ _ _ z2, sqT_app _ _ _ _ y2]; exact r2⟩
    by_cases c1 : T i = 10042
    · have hic := ne_end hc c1 (by decide) hi
      rw [if_pos c1]
      have g := un_gd hc (i := i + 1) (cs := cs) (by omega)
      refine prod 4 _ hic (fun p hp => ?_) (fun p hp => ?_)
      · rw [hp] at g
        obtain ⟨a1, a2, v, a3, a4, a5, a6⟩ := g
        refine ⟨a1, a2, v, a3, a5, fun S x hx hS => ?_⟩
        obtain ⟨z, z1, z2⟩ := a6 (x :: S) (by simp only [List.length_cons]; omega)
        rw [sqT_app _ _ _ _ z2]
        exact sqT_1 (ck_ar (Or.inr (Or.inr rfl)) hx z1 S) (by simp only [List.length_cons]; omega)
      · rw [hp] at g; exact g
    rw [if_neg c1]
    by_cases c2 : T i = 10047
    · have hic := ne_end hc c2 (by decide) hi
      rw [if_pos c2]
      have g := dv_gd hc (i := i + 1) (cs := cs) (by omega)
      refine prod 5 _ hic (fun p hp => ?_) (fun p hp => ?_)
      · rw [hp] at g
        obtain ⟨a1, a2, v, a3, a4, a5, a6⟩ := g
        refine ⟨a1, a2, v, a3, a5, fun S x hx hS => ?_⟩
        rw [sqT_app _ _ _ _ (a6 (x :: S) (by simp only [List.length_cons]; omega))]
        exact sqT_1 (ck_dv hx S) (by simp only [List.length_cons]; omega)
      · rw [hp] at g; exact g
    rw [if_neg c2]
    by_cases c3 : T i = 10043
    · rw [if_pos c3]
      exact summ 2 (Or.inl rfl) (ne_end hc c3 (by decide) hi)
    rw [if_neg c3]
    by_cases c4 : T i = 10045
    · rw [if_pos c4]
      exact summ 3 (Or.inr rfl) (ne_end hc c4 (by decide) hi)
    rw [if_neg c4]
    obtain ⟨f, f1, f2, f3⟩ := flu_y hw (cs := cs)
    exact ⟨Nat.le_refl _, hi, f, f1, by rw [f2]; omega, f3⟩
theorem sum_gd (hc : T c = -1) {K i : Nat} {cs : XCS} (hi : i ≤ c) : XGd c i cs YE (suS T K i cs) := by
  unfold suS
  have g := un_gd hc (cs := cs) hi
  cases e : unS T i cs with
  | error e2 => rw [e] at g; exact g
  | ok p =>
    rw [e] at g
    obtain ⟨a1, a2, v, a3, a4, a5, a6⟩ := g
    dsimp only
    have g := su_gd hc K 0 p.1 p.2 (Or.inl rfl) a2
    cases e : suL T K 0 p.1 p.2 with
    | error e2 => rw [e] at g; exact g
    | ok q =>
      rw [e] at g
      obtain ⟨g1, g2, u, g3, g4, g5⟩ := g
      rw [if_pos rfl] at g4
      refine ⟨by omega, g2, v ++ u, by rw [g3, a3]; simp, by simp only [List.length_append]; omega, fun S hS => ?_⟩
      obtain ⟨z, z1, z2⟩ := a6 S (by omega)
      obtain ⟨r, r1, r2⟩ := g5 S z 0 hS z1 (by decide)
      rw [if_pos rfl] at r2
      exact ⟨r, r1, by rw [sqT_app _ _ _ _ z2]; exact r2⟩
theorem cmO_c {t : Int32} (h : ¬ cmO t = 0) : (cmO t = 6 ∨ cmO t = 7 ∨ cmO t = 8) ∧ t ≠ -1 := by
  unfold cmO at h ⊢
  by_cases c1 : t = 10060
  · subst c1; decide
  · by_cases c2 : t = 10061
    · subst c2; decide
    · by_cases c3 : t = 10062
      · subst c3; decide
      · rw [if_neg c1, if_neg c2, if_neg c3] at h; exact absurd rfl h
theorem cm_gd (hc : T c = -1) {K i : Nat} {cs : XCS} (hi : i ≤ c) : XGd c i cs (YB 26) (cmS T K i cs) := by
  unfold cmS
  have g := sum_gd hc (K := K) (cs := cs) hi
  cases e : suS T K i cs with
  | error e2 => rw [e] at g; exact g
  | ok p =>
    rw [e] at g
    obtain ⟨a1, a2, v, a3, a4, a5⟩ := g
    dsimp only
    by_cases c1 : cmO (T p.1) = 0
    · rw [if_pos c1]; exact a2
    · rw [if_neg c1]
      obtain ⟨o1, o2⟩ := cmO_c c1
      have hic := ne_end hc rfl o2 a2
      have g := sum_gd hc (K := K) (i := p.1 + 1) (cs := p.2) (by omega)
      cases e : suS T K (p.1 + 1) p.2 with
      | error e2 => rw [e] at g; exact g
      | ok q =>
        rw [e] at g
        obtain ⟨g1, g2, u, g3, g4, g5⟩ := g
        refine ⟨by show i < q.1; omega, g2, v ++ (u ++ [(cmO (T p.1), 0)]), by show q.2 ++ _ = _; rw [g3, a3]; simp, by show _ ≤ q.1 - i; simp only [List.length_append, List.length_cons, List.length_nil]; omega, fun S hS => ?_⟩
        obtain ⟨x, x1, x2⟩ := a5 S (by omega)
        obtain ⟨y, y1, y2⟩ := g5 (x :: S) (by simp only [List.length_cons]; omega)
        rw [sqT_app _ _ _ _ x2, sqT_app _ _ _ _ y2]
        exact sqT_1 (ck_cm o1 x1 y1 S) (by simp only [List.length_cons]; omega)
/-- what waits on the stack while a choice is read -/
def wtS (a o : Bool) (S : List Nat) : List Nat := (if a = true then [1] else []) ++ ((if o = true then [1] else []) ++ S)
def GdC (c i m : Nat) (a o : Bool) (cs : XCS) (r : XPR) : Prop := match r with
  | .ok p => i < p.1 ∧ p.1 ≤ c ∧ ∃ v, p.2 = cs ++ v ∧ v.length ≤ p.1 - i + (if a = true then 1 else 0) + (if o = true then 1 else 0) ∧ ∀ S : List Nat, S.length + 2 ≤ m → sqT v (wtS a o S) = some (1 :: S)
  | .error p => p.2 ≤ c
theorem ch_gd (hc : T c = -1) {m : Nat} (hm : m ≤ 28) {sg : Nat → XCS → XPR} (hsg : ∀ i cs, i ≤ c → XGd c i cs (YB m) (sg i cs)) : ∀ (k : Nat) (a o : Bool) (i : Nat) (cs : XCS), i ≤ c → GdC c i m a o cs (chL T sg k a o i cs)
  | 0, a, o, i, cs, hi => hi
  | k + 1, a, o, i, cs, hi => by
    unfold chL
    have g := hsg i cs hi
    cases e : sg i cs with
    | error e2 => rw [e] at g; exact g
    | ok p =>
      rw [e] at g
      obtain ⟨a1, a2, v, a3, a4, a5⟩ := g
      dsimp only
      have w1 : ∃ f, emb a 10 p.2 = p.2 ++ f ∧ f.length = (if a = true then 1 else 0) ∧ ∀ S : List Nat, S.length ≤ 28 → sqT f (1 :: ((if a = true then [1] else []) ++ S)) = some (1 :: S) := by
        unfold emb
        cases a with
        | false => exact ⟨[], by simp, rfl, fun S hS => rfl⟩
        | true => exact ⟨_, rfl, rfl, fun S hS => sqT_1 (ck_an (Or.inl rfl) S) (by simp only [List.length_cons]; omega)⟩
      obtain ⟨f, f1, f2, f3⟩ := w1
      have w2 : ∃ g, emb o 11 (emb a 10 p.2) = emb a 10 p.2 ++ g ∧ g.length = (if o = true then 1 else 0) ∧ ∀ S : List Nat, S.length ≤ 28 → sqT g (1 :: ((if o = true then [1] else []) ++ S)) = some (1 :: S) := by
        unfold emb
        cases o with
        | false => exact ⟨[], by simp, rfl, fun S hS => rfl⟩
        | true => exact ⟨_, rfl, rfl, fun S hS => sqT_1 (ck_an (Or.inr rfl) S) (by simp only [List.length_cons]; omega)⟩
      obtain ⟨g, g1, g2, g3⟩ := w2
      have la : ∀ S : List Nat, (wtS a o S).length ≤ S.length + 2 := by
        intro S; unfold wtS; cases a <;> cases o <;> simp
      have lo : ∀ S : List Nat, ((if o = true then [1] else []) ++ S).length ≤ S.length + 1 := by
        intro S; cases o <;> simp
      have t1 : ∀ S : List Nat, S.length + 2 ≤ m → sqT (v ++ f) (wtS a o S) = some (1 :: ((if o = true then [1] else []) ++ S)) := by
        intro S hS
        rw [sqT_app _ _ _ _ (a5 (wtS a o S) (by have := la S; omega))]
        exact f3 _ (by have := lo S; omega)
      by_cases c1 : T p.1 = 20021
      · rw [if_pos c1]
        have hic := ne_end hc c1 (by decide) a2
        have q := ch_gd hc hm hsg k true o (p.1 + 1) (emb a 10 p.2) (by omega)
        cases e : chL T sg k true o (p.1 + 1) (emb a 10 p.2) with
        | error e2 => rw [e] at q; exact q
        | ok r =>
          rw [e] at q
          obtain ⟨q1, q2, u, q3, q4, q5⟩ := q
          refine ⟨by omega, q2, v ++ f ++ u, by rw [q3, f1, a3]; simp, ?_, fun S hS => ?_⟩
          · rw [if_pos rfl] at q4
            simp only [List.length_append]; omega
          · rw [sqT_app _ _ _ _ (t1 S hS)]
            exact q5 S hS
      · rw [if_neg c1]
        by_cases c2 : T p.1 = 20020
        · rw [if_pos c2]
          have hic := ne_end hc c2 (by decide) a2
          have q := ch_gd hc hm hsg k false true (p.1 + 1) (emb o 11 (emb a 10 p.2)) (by omega)
          cases e : chL T sg k false true (p.1 + 1) (emb o 11 (emb a 10 p.2)) with
          | error e2 => rw [e] at q; exact q
          | ok r =>
            rw [e] at q
            obtain ⟨q1, q2, u, q3, q4, q5⟩ := q
            refine ⟨by omega, q2, v ++ f ++ g ++ u, by rw [q3, g1, f1, a3]; simp, ?_, fun S hS => ?_⟩
            · rw [if_neg (by decide), if_pos rfl] at q4
              simp only [List.length_append]; omega
            · have t2 : sqT (v ++ f ++ g) (wtS a o S) = some (1 :: S) := by
                rw [sqT_app _ _ _ _ (t1 S hS)]
                exact g3 S (by omega)
              rw [sqT_app _ _ _ _ t2]
              exact q5 S hS
        · rw [if_neg c2]
          refine ⟨a1, a2, v ++ f ++ g, by show emb o 11 (emb a 10 p.2) = _; rw [g1, f1, a3]; simp, by show _ ≤ p.1 - i + _ + _; simp only [List.length_append]; omega, fun S hS => ?_⟩
          rw [sqT_app _ _ _ _ (t1 S hS)]
          exact g3 S (by omega)
theorem si_gd (hc : T c = -1) {K : Nat} : ∀ (d i : Nat) (cs : XCS), d ≤ 8 → i ≤ c → XGd c i cs (YB (26 - 2 * d)) (siS T K d i cs)
  | 0, i, cs, hd, hi => by
    unfold siS
    by_cases c1 : T i = 20022
    · rw [if_pos c1]; exact hi
    · rw [if_neg c1]
      by_cases c2 : T i = 10040
      · rw [if_pos c2]; exact hi
      · rw [if_neg c2]; exact cm_gd hc hi
  | d + 1, i, cs, hd, hi => by
    unfold siS
    by_cases c1 : T i = 20022
    · rw [if_pos c1]
      have hic := ne_end hc c1 (by decide) hi
      have g := si_gd hc (K := K) d (i + 1) cs (by omega) (by omega)
      cases e : siS T K d (i + 1) cs with
      | error e2 => rw [e] at g; exact g
      | ok p =>
        rw [e] at g
        obtain ⟨a1, a2, v, a3, a4, a5⟩ := g
        refine ⟨by show i < p.1; omega, a2, v ++ [(9, 0)], by show p.2 ++ _ = _; rw [a3]; simp, by show _ ≤ p.1 - i; simp only [List.length_append, List.length_cons, List.length_nil]; omega, fun S hS => ?_⟩
        rw [sqT_app _ _ _ _ (a5 S (by omega))]
        exact sqT_1 (ck_no S) (by simp only [List.length_cons]; omega)
    · rw [if_neg c1]
      by_cases c2 : T i = 10040
      · rw [if_pos c2]
        have hic := ne_end hc c2 (by decide) hi
        have g := ch_gd hc (m := 26 - 2 * d) (by omega) (fun i cs hi => si_gd hc (K := K) d i cs (by omega) hi) K false false (i + 1) cs (by omega)
        cases e : chL T (siS T K d) K false false (i + 1) cs with
        | error e2 => rw [e] at g; exact g
        | ok p =>
          rw [e] at g
          obtain ⟨a1, a2, v, a3, a4, a5⟩ := g
          dsimp only
          by_cases c3 : T p.1 = 10041
          · rw [if_pos c3]
            have hic := ne_end hc c3 (by decide) a2
            have a4 : v.length ≤ p.1 - (i + 1) := by simpa using a4
            refine ⟨by show i < p.1 + 1; omega, by show p.1 + 1 ≤ c; omega, v, a3, by show _ ≤ p.1 + 1 - i; omega, fun S hS => a5 S (by omega)⟩
          · rw [if_neg c3]; exact a2
      · rw [if_neg c2]
        have g := cm_gd hc (K := K) (cs := cs) hi
        cases e : cmS T K i cs with
        | error e2 => rw [e] at g; exact g
        | ok p =>
          rw [e] at g
          obtain ⟨a1, a2, v, a3, a4, a5⟩ := g
          exact ⟨a1, a2, v, a3, a4, fun S hS => a5 S (by omega)⟩
theorem cho_gd (hc : T c = -1) {K i : Nat} {cs : XCS} (hi : i ≤ c) : XGd c i cs (YB 8) (chS T K 8 i cs) := by
  unfold chS
  have g := ch_gd hc (m := 10) (by omega) (fun i cs hi => si_gd hc (K := K) 8 i cs (by omega) hi) K false false i cs hi
  cases e : chL T (siS T K 8) K false false i cs with
  | error e2 => rw [e] at g; exact g
  | ok p =>
    rw [e] at g
    obtain ⟨a1, a2, v, a3, a4, a5⟩ := g
    have a4 : v.length ≤ p.1 - i := by simpa using a4
    exact ⟨a1, a2, v, a3, by omega, fun S hS => a5 S (by omega)⟩
end GOOD
