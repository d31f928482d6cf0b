/-! ===== reading through writes; bits ===== -/
/-- a bind of which only the first part is looked at -/
def Tg {α β : Type} (_ : α → Option β) : Type := Unit
def tg {α β : Type} (f : α → Option β) : Tg f := ()
def ob {α β : Type} (x : Option α) (f : α → Option β) (_ : Tg f) : Option β := x.bind f
theorem ob_eq {α β : Type} (x : Option α) (f : α → Option β) : x.bind f = ob x f (tg f) := rfl
theorem ob_some {α β : Type} (a : α) (f : α → Option β) (q : Tg f) : ob (some a) f q = f a := rfl
section GIRW
variable {h : PH} {a b k j : Nat} {v : Int32}
theorem gI_q (hb : b = a) (hj : j = k) : gI (sI h a k v) b j = v := by rw [gI_sI, if_pos ⟨hb, hj⟩]
theorem gI_n1 (hb : b ≠ a) : gI (sI h a k v) b j = gI h b j := by rw [gI_sI, if_neg (fun q => hb q.1)]
theorem gI_n2 (hj : j ≠ k) : gI (sI h a k v) b j = gI h b j := by rw [gI_sI, if_neg (fun q => hj q.2)]
end GIRW
theorem jshl1 : ∀ k, k < 31 → jshl 1 (nI k) = nI (2 ^ k) := by decide
theorem jsm : ∀ k, k < 32 → ((nI k &&& 31).toBitVec.smod 32).toNat = k := by decide
theorem jshlN {n k : Nat} (hk : k < 32) (h : n * 2 ^ k < 2 ^ 32) : jshl (nI n) (nI k) = nI (n * 2 ^ k) := pk_shlN _ k (jsm k hk) h
theorem jshrN {n k : Nat} (hk : k < 32) (h : n < 2 ^ 31) : jshr (nI n) (nI k) = nI (n / 2 ^ k) := pk_shrN h _ k (jsm k hk)
theorem jbit {n k : Nat} (hk : k < 32) (h : n < 2 ^ 31) : jshr (nI n) (nI k) &&& 1 = if n.testBit k then 1 else 0 := by
  rw [jshrN hk h]
  have e : nI (n / 2 ^ k) &&& 1 = nI (n / 2 ^ k % 2) := fa_mask _ 1
  rw [e, Nat.testBit_eq_decide_div_mod_eq]
  rcases Nat.mod_two_eq_zero_or_one (n / 2 ^ k) with q | q <;> rw [q] <;> rfl
theorem jbit1 {n k : Nat} (hk : k < 32) (h : n < 2 ^ 31) : (jshr (nI n) (nI k) &&& 1 = 1) ↔ n.testBit k = true := by
  rw [jbit hk h]
  by_cases q : n.testBit k = true
  · rw [if_pos q]; exact ⟨fun _ => q, fun _ => rfl⟩
  · rw [if_neg q]; exact ⟨fun e => absurd e (by decide), fun e => absurd e q⟩
theorem jbit0 {n k : Nat} (hk : k < 32) (h : n < 2 ^ 31) : (jshr (nI n) (nI k) &&& 1 = 0) ↔ n.testBit k = false := by
  rw [jbit hk h]
  by_cases q : n.testBit k = true
  · rw [if_pos q, q]; exact ⟨fun e => absurd e (by decide), fun e => by cases e⟩
  · rw [if_neg q]; exact ⟨fun _ => by simpa using q, fun _ => rfl⟩
theorem bs_lt (p : Nat → Bool) : ∀ n, bs n p < 2 ^ n
  | 0 => Nat.one_pos
  | n + 1 => by
    have := bs_lt p n
    rw [bs, Nat.pow_succ]
    split <;> omega
theorem bs_or (p : Nat → Bool) (n : Nat) (hp : p n = true) : bs n p ||| 2 ^ n = bs (n + 1) p := by
  have hl := bs_lt p n
  rw [bs, if_pos hp, Nat.or_comm]
  have e := Nat.two_pow_add_eq_or_of_lt hl 1
  rw [Nat.mul_one] at e
  rw [← e, Nat.add_comm]
theorem bs_bit (p : Nat → Bool) : ∀ n k, (bs n p).testBit k = (decide (k < n) && p k)
  | 0, k => by simp [bs]
  | n + 1, k => by
    have hl := bs_lt p n
    have ih := bs_bit p n k
    by_cases hp : p n = true
    · rw [← bs_or p n hp, Nat.testBit_or, ih, Nat.testBit_two_pow]
      by_cases hk : k = n
      · subst hk; simp [hp]
      · by_cases h2 : k < n
        · simp [h2, Ne.symm hk, show k < n + 1 by omega]
        · simp [h2, Ne.symm hk, show ¬ k < n + 1 by omega]
    · rw [bs, if_neg hp, Nat.add_zero, ih]
      by_cases hk : k = n
      · subst hk; simp [hp]
      · by_cases h2 : k < n
        · simp [h2, show k < n + 1 by omega]
        · simp [h2, show ¬ k < n + 1 by omega]
theorem bs_no (p : Nat → Bool) (n : Nat) (hp : p n = false) : bs (n + 1) p = bs n p := by
  rw [bs, hp]; rfl
theorem bs_cg {p q : Nat → Bool} : ∀ {n : Nat}, (∀ k, k < n → p k = q k) → bs n p = bs n q
  | 0, _ => rfl
  | n + 1, h => by rw [bs, bs, bs_cg (fun k hk => h k (by omega)), h n (by omega)]
/-- what is one of the first n, or none of them -/
theorem ix_cases (x : Int32) (n : Nat) (hn : n < 2147483648) : (∃ k, k < n ∧ x = nI k ∧ ¬ x < 0 ∧ ¬ nI n ≤ x) ∨ (x < 0 ∨ (¬ x < 0 ∧ nI n ≤ x)) := by
  by_cases h0 : x < 0
  · exact Or.inr (Or.inl h0)
  · by_cases h1 : nI n ≤ x
    · exact Or.inr (Or.inr ⟨h0, h1⟩)
    · obtain ⟨k, h2, rfl⟩ := nI_of h0
      refine Or.inl ⟨k, ?_, rfl, h0, h1⟩
      rw [nI_leI hn (by omega)] at h1
      omega
/-- an officer, for both -/
theorem off_cases (x : Int32) (n : Nat) (hn : n ≤ 6) : (∃ k, k < n ∧ x = nI k ∧ (∀ a h, gK h a = (0, 5) → gI h a 9 = nI n → f_Realm_isOfficer a x h = some (1, h)) ∧ ∀ a h, gK h a = (0, 9) → gI h a 7 = nI n → f_Mo_isOfficer a x h = some (1, h)) ∨ ((∀ a h, gK h a = (0, 5) → gI h a 9 = nI n → f_Realm_isOfficer a x h = some (0, h)) ∧ ∀ a h, gK h a = (0, 9) → gI h a 7 = nI n → f_Mo_isOfficer a x h = some (0, h)) := by
  rcases ix_cases x n (by omega) with ⟨k, hk, rfl, h1, h2⟩ | h1 | ⟨h1, h2⟩
  · exact Or.inl ⟨k, hk, rfl, fun a h q w => by simp [f_Realm_isOfficer, bind_some', ldI, ldR, ldO, stI, stZ, stR, isO, wrA_n, rdA_n, wrA_l, rdA_l, gK_sI, gR_sI, gX_sI, gN_sI, gK_cp, gR_cp, gX_cp, gN_cp, rtZ_0, rtZ_1, if_true, reduceIte, and_self, true_and, and_true, q, w, h1, h2], fun a h q w => by simp [f_Mo_isOfficer, bind_some', ldI, ldR, ldO, stI, stZ, stR, isO, wrA_n, rdA_n, wrA_l, rdA_l, gK_sI, gR_sI, gX_sI, gN_sI, gK_cp, gR_cp, gX_cp, gN_cp, rtZ_0, rtZ_1, if_true, reduceIte, and_self, true_and, and_true, q, w, h1, h2]⟩
  · exact Or.inr ⟨fun a h q w => by simp [f_Realm_isOfficer, bind_some', ldI, ldR, ldO, stI, stZ, stR, isO, wrA_n, rdA_n, wrA_l, rdA_l, gK_sI, gR_sI, gX_sI, gN_sI, gK_cp, gR_cp, gX_cp, gN_cp, rtZ_0, rtZ_1, if_true, reduceIte, and_self, true_and, and_true, h1], fun a h q w => by simp [f_Mo_isOfficer, bind_some', ldI, ldR, ldO, stI, stZ, stR, isO, wrA_n, rdA_n, wrA_l, rdA_l, gK_sI, gR_sI, gX_sI, gN_sI, gK_cp, gR_cp, gX_cp, gN_cp, rtZ_0, rtZ_1, if_true, reduceIte, and_self, true_and, and_true, h1]⟩
  · exact Or.inr ⟨fun a h q w => by simp [f_Realm_isOfficer, bind_some', ldI, ldR, ldO, stI, stZ, stR, isO, wrA_n, rdA_n, wrA_l, rdA_l, gK_sI, gR_sI, gX_sI, gN_sI, gK_cp, gR_cp, gX_cp, gN_cp, rtZ_0, rtZ_1, if_true, reduceIte, and_self, true_and, and_true, q, w, h1, h2], fun a h q w => by simp [f_Mo_isOfficer, bind_some', ldI, ldR, ldO, stI, stZ, stR, isO, wrA_n, rdA_n, wrA_l, rdA_l, gK_sI, gR_sI, gX_sI, gN_sI, gK_cp, gR_cp, gX_cp, gN_cp, rtZ_0, rtZ_1, if_true, reduceIte, and_self, true_and, and_true, q, w, h1, h2]⟩
theorem tra_cases (x : Int32) (n : Nat) (hn : n ≤ 12) : (∃ k, k < n ∧ x = nI k ∧ (∀ a h, gK h a = (0, 5) → gI h a 1 = nI n → f_Realm_isTraveller a x h = some (1, h)) ∧ ∀ a h, gK h a = (0, 9) → gI h a 6 = nI n → f_Mo_isTraveller a x h = some (1, h)) ∨ ((∀ a h, gK h a = (0, 5) → gI h a 1 = nI n → f_Realm_isTraveller a x h = some (0, h)) ∧ ∀ a h, gK h a = (0, 9) → gI h a 6 = nI n → f_Mo_isTraveller a x h = some (0, h)) := by
  rcases ix_cases x n (by omega) with ⟨k, hk, rfl, h1, h2⟩ | h1 | ⟨h1, h2⟩
  · exact Or.inl ⟨k, hk, rfl, fun a h q w => by simp [f_Realm_isTraveller, bind_some', ldI, ldR, ldO, stI, stZ, stR, isO, wrA_n, rdA_n, wrA_l, rdA_l, gK_sI, gR_sI, gX_sI, gN_sI, gK_cp, gR_cp, gX_cp, gN_cp, rtZ_0, rtZ_1, if_true, reduceIte, and_self, true_and, and_true, q, w, h1, h2], fun a h q w => by simp [f_Mo_isTraveller, bind_some', ldI, ldR, ldO, stI, stZ, stR, isO, wrA_n, rdA_n, wrA_l, rdA_l, gK_sI, gR_sI, gX_sI, gN_sI, gK_cp, gR_cp, gX_cp, gN_cp, rtZ_0, rtZ_1, if_true, reduceIte, and_self, true_and, and_true, q, w, h1, h2]⟩
  · exact Or.inr ⟨fun a h q w => by simp [f_Realm_isTraveller, bind_some', ldI, ldR, ldO, stI, stZ, stR, isO, wrA_n, rdA_n, wrA_l, rdA_l, gK_sI, gR_sI, gX_sI, gN_sI, gK_cp, gR_cp, gX_cp, gN_cp, rtZ_0, rtZ_1, if_true, reduceIte, and_self, true_and, and_true, h1], fun a h q w => by simp [f_Mo_isTraveller, bind_some', ldI, ldR, ldO, stI, stZ, stR, isO, wrA_n, rdA_n, wrA_l, rdA_l, gK_sI, gR_sI, gX_sI, gN_sI, gK_cp, gR_cp, gX_cp, gN_cp, rtZ_0, rtZ_1, if_true, reduceIte, and_self, true_and, and_true, h1]⟩
  · exact Or.inr ⟨fun a h q w => by simp [f_Realm_isTraveller, bind_some', ldI, ldR, ldO, stI, stZ, stR, isO, wrA_n, rdA_n, wrA_l, rdA_l, gK_sI, gR_sI, gX_sI, gN_sI, gK_cp, gR_cp, gX_cp, gN_cp, rtZ_0, rtZ_1, if_true, reduceIte, and_self, true_and, and_true, q, w, h1, h2], fun a h q w => by simp [f_Mo_isTraveller, bind_some', ldI, ldR, ldO, stI, stZ, stR, isO, wrA_n, rdA_n, wrA_l, rdA_l, gK_sI, gR_sI, gX_sI, gN_sI, gK_cp, gR_cp, gX_cp, gN_cp, rtZ_0, rtZ_1, if_true, reduceIte, and_self, true_and, and_true, q, w, h1, h2]⟩
/-- nothing can be undone -/
theorem C_log_0 {h : PH} {b : Nat} (h1 : ntOf h b ≤ 12) (h2 : noOf h b ≤ 6) (h3 : ∃ nx, nx < 6 ∧ gI h (b + 40) 1 = nI nx) (h4 : gI h (b + 40) 2 = 0) (h5 : gI h (b + 131) 3 = 0) : C_log h b := by
  obtain ⟨nx, a1, a2⟩ := h3
  exact ⟨⟨h1, h2⟩, 0, nx, by omega, a1, h4, h5, a2, fun i hi => absurd hi (by omega)⟩
theorem C_log.nx {h : PH} {b : Nat} (c : C_log h b) : ∃ nx, nx < 6 ∧ gI h (b + 40) 1 = nI nx := by
  obtain ⟨_, n, nx, _, a2, _, _, a5, _⟩ := c
  exact ⟨nx, a2, a5⟩
