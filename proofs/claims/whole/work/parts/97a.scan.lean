/-! ===== texts: bytes, words, tokens ===== -/
def txL (x : Nat) : Bool := (decide (97 ≤ x) && decide (x ≤ 122)) || (decide (65 ≤ x) && decide (x ≤ 90))
def txD (x : Nat) : Bool := decide (48 ≤ x) && decide (x ≤ 57)
def txW (x : Nat) : Bool := decide (x = 32) || decide (x = 10)
def txM (x : Nat) : Bool := decide (x = 59) || decide (x = 43) || decide (x = 45) || decide (x = 42) || decide (x = 47) || decide (x = 40) || decide (x = 41) || decide (x = 60) || decide (x = 61) || decide (x = 62)
/-- as far as p holds, k further at most -/
def exN (p : Nat → Bool) : Nat → Nat → Nat
  | 0, i => i
  | k + 1, i => if p i = true then exN p k (i + 1) else i
theorem exN_le (p : Nat → Bool) : ∀ k i, i ≤ exN p k i ∧ exN p k i ≤ i + k
  | 0, i => ⟨Nat.le_refl _, Nat.le_refl _⟩
  | k + 1, i => by
    unfold exN
    split
    · have := exN_le p k (i + 1); omega
    · omega
theorem exN_in (p : Nat → Bool) : ∀ k i j, i ≤ j → j < exN p k i → p j = true
  | 0, i, j, h1, h2 => by unfold exN at h2; omega
  | k + 1, i, j, h1, h2 => by
    unfold exN at h2
    split at h2
    · next q =>
      by_cases e : i = j
      · rw [← e]; exact q
      · exact exN_in p k (i + 1) j (by omega) h2
    · omega
theorem exN_end (p : Nat → Bool) : ∀ k i, exN p k i < i + k → p (exN p k i) = false
  | 0, i, h => by unfold exN at h; omega
  | k + 1, i, h => by
    unfold exN at h ⊢
    split
    · next q => rw [if_pos q] at h; exact exN_end p k (i + 1) (by omega)
    · next q => simpa using q
theorem exN_s (p : Nat → Bool) {n i : Nat} (h : i < n) (q : p i = true) : exN p (n - i) i = exN p (n - (i + 1)) (i + 1) := by
  rw [show n - i = (n - (i + 1)) + 1 by omega, exN, if_pos q]
theorem exN_z (p : Nat → Bool) {n i : Nat} (q : p i = false) : exN p (n - i) i = i := by
  cases e : n - i with
  | zero => rfl
  | succ k => rw [exN, if_neg (by rw [q]; decide)]
theorem exN_o (p : Nat → Bool) {n i : Nat} (h : n ≤ i) : exN p (n - i) i = i := by
  rw [show n - i = 0 by omega]; rfl
def skp (B : Nat → Nat) (n q : Nat) : Nat := exN (fun j => txW (B j)) (n - q) q
def tkE (B : Nat → Nat) (n p : Nat) : Nat := if txL (B p) = true then exN (fun j => txL (B j)) (n - (p + 1)) (p + 1) else if txD (B p) = true then exN (fun j => txD (B j)) (n - (p + 1)) (p + 1) else p + 1
theorem skp_le {B : Nat → Nat} {n q : Nat} (h : q ≤ n) : q ≤ skp B n q ∧ skp B n q ≤ n := by
  have := exN_le (fun j => txW (B j)) (n - q) q
  unfold skp; omega
theorem skp_W {B : Nat → Nat} {n q : Nat} (h : q ≤ n) (h2 : skp B n q < n) : txW (B (skp B n q)) = false := exN_end (fun j => txW (B j)) (n - q) q (by unfold skp at h2; omega)
theorem skp_n {B : Nat → Nat} {n : Nat} : skp B n n = n := exN_o _ (Nat.le_refl _)
theorem skp_id {B : Nat → Nat} {n q : Nat} (h : txW (B q) = false) : skp B n q = q := exN_z (fun j => txW (B j)) h
theorem skp_s {B : Nat → Nat} {n q : Nat} (h : q < n) (w : txW (B q) = true) : skp B n q = skp B n (q + 1) := exN_s (fun j => txW (B j)) h w
theorem tkE_le {B : Nat → Nat} {n p : Nat} (h : p < n) : p < tkE B n p ∧ tkE B n p ≤ n := by
  unfold tkE
  have h1 := exN_le (fun j => txL (B j)) (n - (p + 1)) (p + 1)
  have h2 := exN_le (fun j => txD (B j)) (n - (p + 1)) (p + 1)
  split
  · omega
  · split
    · omega
    · omega
def sgI (B : Nat → Nat) : Nat → Nat → List Int32
  | 0, _ => []
  | k + 1, p => nI (B p) :: sgI B k (p + 1)
def nmv (B : Nat → Nat) (p : Nat) : Nat → Nat
  | 0 => 0
  | k + 1 => nmv B p k * 10 + (B (p + k) - 48)
def fix (s : List Int32) : List (List Int32) → Nat → Option Nat
  | [], _ => none
  | w :: ws, k => if s = w then some k else fix s ws (k + 1)
def fla : List (List Int32) → List Int32
  | [] => []
  | w :: ws => w ++ 32 :: fla ws
/-- the class's words -/
def cwd : List (List Int32) := [[119, 101, 101, 112], [114, 97, 116, 101], [102, 105, 110, 100], [99, 97, 117, 115, 101], [103, 114, 105, 112], [119, 101, 116], [99, 111, 105, 110], [104, 111, 117, 114], [103, 97, 116, 101], [110, 111, 115, 101], [115, 111, 102, 116], [116, 105, 114, 101, 100], [107, 105, 110], [115, 101, 110, 100], [106, 111, 107, 101], [111, 110, 105, 111, 110], [109, 111, 118, 101], [111, 112, 101, 110], [99, 108, 111, 115, 101], [119, 104, 101, 110], [111, 114], [97, 110, 100], [110, 111, 116], [116, 114, 97, 118, 101, 108, 108, 101, 114], [119, 105, 116, 104], [97, 116], [116, 111], [114, 111, 97, 100], [100, 114, 121]]
/-- the reference's -/
def mwd : List (List Int32) := [[119, 101, 101, 112], [114, 97, 116, 101], [102, 105, 110, 100], [119, 104, 101, 110], [111, 114], [97, 110, 100], [110, 111, 116], [99, 97, 117, 115, 101], [103, 114, 105, 112], [119, 101, 116], [99, 111, 105, 110], [104, 111, 117, 114], [103, 97, 116, 101], [110, 111, 115, 101], [115, 111, 102, 116], [116, 105, 114, 101, 100], [107, 105, 110], [116, 114, 97, 118, 101, 108, 108, 101, 114], [119, 105, 116, 104], [97, 116], [115, 101, 110, 100], [116, 111], [111, 112, 101, 110], [99, 108, 111, 115, 101], [109, 111, 118, 101], [106, 111, 107, 101], [111, 110, 105, 111, 110], [114, 111, 97, 100], [100, 114, 121]]
def prm (w : Nat) : Nat := [0, 1, 2, 7, 8, 9, 10, 11, 12, 13, 14, 15, 16, 20, 25, 26, 24, 22, 23, 3, 4, 5, 6, 17, 18, 19, 21, 27, 28].getD w 0
set_option maxRecDepth 10000 in
theorem fla_c : fla cwd = wbyt := by decide
set_option maxRecDepth 10000 in
theorem fla_m : 32 :: fla mwd = mwords := by decide
theorem fix_get (s : List Int32) : ∀ ws k w, fix s ws k = some w → k ≤ w ∧ w - k < ws.length ∧ ws.getD (w - k) [] = s
  | [], k, w, h => by cases h
  | v :: ws, k, w, h => by
    unfold fix at h
    split at h
    · next q =>
      cases h
      exact ⟨Nat.le_refl _, by simp, by simp [q]⟩
    · obtain ⟨h1, h2, h3⟩ := fix_get s ws (k + 1) w h
      refine ⟨by omega, by simp only [List.length_cons]; omega, ?_⟩
      rw [show w - k = (w - (k + 1)) + 1 by omega, List.getD_cons_succ]
      exact h3
theorem fix_no (s : List Int32) : ∀ ws k, fix s ws k = none → ∀ w ∈ ws, s ≠ w
  | [], k, h, w, hw => by cases hw
  | v :: ws, k, h, w, hw => by
    unfold fix at h
    split at h
    · cases h
    · next q =>
      rcases List.mem_cons.mp hw with rfl | hw
      · exact q
      · exact fix_no s ws (k + 1) h w hw
theorem fix_non (s : List Int32) : ∀ ws k, (∀ w ∈ ws, s ≠ w) → fix s ws k = none
  | [], k, h => rfl
  | v :: ws, k, h => by
    unfold fix
    rw [if_neg (h v List.mem_cons_self)]
    exact fix_non s ws (k + 1) (fun w hw => h w (List.mem_cons_of_mem _ hw))
set_option maxRecDepth 10000 in
theorem prm_all : ∀ w : Fin 29, fix (cwd.getD w.val []) mwd 0 = some (prm w.val) := by decide
set_option maxRecDepth 10000 in
theorem mwd_in : ∀ w ∈ mwd, w ∈ cwd := by decide
theorem fix_prm {s : List Int32} {w : Nat} (h : fix s cwd 0 = some w) : w < 29 ∧ fix s mwd 0 = some (prm w) := by
  obtain ⟨h1, h2, h3⟩ := fix_get s cwd 0 w h
  have h4 : w < 29 := h2
  refine ⟨h4, ?_⟩
  have := prm_all ⟨w, h4⟩
  rw [show cwd.getD w [] = s from h3] at this
  exact this
theorem fix_pno {s : List Int32} (h : fix s cwd 0 = none) : fix s mwd 0 = none := fix_non s mwd 0 (fun w hw => fix_no s cwd 0 h w (mwd_in w hw))
/-- the class's token that begins at p -/
def tkV (B : Nat → Nat) (n p : Nat) : Int32 := if txL (B p) = true then (match fix (sgI B (tkE B n p - p) p) cwd 0 with | some w => nI (20000 + w) | none => -2) else if txD (B p) = true then (if tkE B n p - p ≤ 4 then nI (nmv B p (tkE B n p - p)) else -2) else nI (10000 + B p)
def psN (B : Nat → Nat) (n : Nat) : Nat → Nat
  | 0 => skp B n 0
  | i + 1 => if psN B n i < n then skp B n (tkE B n (psN B n i)) else n
def tkA (B : Nat → Nat) (n i : Nat) : Int32 := if psN B n i < n then tkV B n (psN B n i) else -1
theorem ps_le {B : Nat → Nat} {n : Nat} : ∀ i, psN B n i ≤ n
  | 0 => (skp_le (Nat.zero_le _)).2
  | i + 1 => by
    unfold psN
    split
    · next q => exact (skp_le (tkE_le q).2).2
    · exact Nat.le_refl _
theorem ps_s {B : Nat → Nat} {n i : Nat} (h : psN B n i < n) : psN B n (i + 1) = skp B n (tkE B n (psN B n i)) ∧ psN B n i < psN B n (i + 1) := by
  have e : psN B n (i + 1) = skp B n (tkE B n (psN B n i)) := by
    show (if psN B n i < n then skp B n (tkE B n (psN B n i)) else n) = _
    rw [if_pos h]
  have h2 := tkE_le (B := B) h
  have h3 := skp_le (B := B) h2.2
  exact ⟨e, by rw [e]; omega⟩
theorem ps_ge {B : Nat → Nat} {n : Nat} : ∀ i, i ≤ psN B n i ∨ psN B n i = n
  | 0 => Or.inl (Nat.zero_le _)
  | i + 1 => by
    by_cases h : psN B n i < n
    · have := ps_s h
      rcases ps_ge (B := B) (n := n) i with q | q
      · exact Or.inl (by omega)
      · omega
    · refine Or.inr ?_
      show (if psN B n i < n then _ else n) = n
      rw [if_neg h]
theorem ps_W {B : Nat → Nat} {n : Nat} : ∀ i, psN B n i < n → txW (B (psN B n i)) = false
  | 0, h => skp_W (Nat.zero_le _) h
  | i + 1, h => by
    have h1 : psN B n i < n := by
      rcases Nat.lt_or_ge (psN B n i) n with q | q
      · exact q
      · exfalso
        have : psN B n (i + 1) = n := by
          show (if psN B n i < n then _ else n) = n
          rw [if_neg (by omega)]
        omega
    obtain ⟨e, -⟩ := ps_s h1
    rw [e] at h ⊢
    exact skp_W (tkE_le h1).2 h
/-- how many tokens there are -/
theorem ps_cnt (B : Nat → Nat) (n : Nat) : ∃ c, c ≤ n ∧ psN B n c = n ∧ ∀ i, i < c → psN B n i < n := by
  have key : ∀ d c, d + c = n → (∀ i, i < c → psN B n i < n) → ∃ c, c ≤ n ∧ psN B n c = n ∧ ∀ i, i < c → psN B n i < n := by
    intro d
    induction d with
    | zero =>
      intro c hc hi
      refine ⟨c, by omega, ?_, hi⟩
      have := ps_le (B := B) (n := n) c
      rcases ps_ge (B := B) (n := n) c with q | q
      · omega
      · exact q
    | succ d ih =>
      intro c hc hi
      by_cases h : psN B n c < n
      · exact ih (c + 1) (by omega) (fun i q => by
          by_cases e : i = c
          · rw [e]; exact h
          · exact hi i (by omega))
      · have := ps_le (B := B) (n := n) c
        exact ⟨c, by omega, by omega, hi⟩
  exact key n 0 (by omega) (fun i q => by omega)
/-- a token as the reference has it -/
def TkR (t v c : Int32) : Prop := (c = -1 ∧ t = 0) ∨ (c = -2 ∧ t = 1) ∨ (∃ x, x ≤ 9999 ∧ c = nI x ∧ t = 3 ∧ v = nI x) ∨ (∃ x, x ≤ 255 ∧ c = nI (10000 + x) ∧ ((txM x = true ∧ t = 4 ∧ v = nI x) ∨ (txM x = false ∧ t = 1))) ∨ ∃ w, w < 29 ∧ c = nI (20000 + w) ∧ t = 2 ∧ v = nI (prm w)
theorem nmv_lt {B : Nat → Nat} {p : Nat} : ∀ k, (∀ j, p ≤ j → j < p + k → txD (B j) = true) → nmv B p k < 10 ^ k
  | 0, _ => Nat.zero_lt_one
  | k + 1, h => by
    have h1 := nmv_lt (B := B) (p := p) k (fun j a c => h j a (by omega))
    have h2 := h (p + k) (by omega) (by omega)
    unfold txD at h2
    simp only [Bool.and_eq_true, decide_eq_true_eq] at h2
    unfold nmv
    rw [Nat.pow_succ]
    omega
theorem pow10_4 : ∀ k, k ≤ 4 → 10 ^ k ≤ 10000 := by decide
