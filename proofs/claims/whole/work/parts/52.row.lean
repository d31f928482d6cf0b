/-! ===== rows of the class ===== -/
section ROWS
variable {h : PH} {a c n m : Nat} {x1 x2 x3 x4 : Int32}
theorem row_clear (K : gK h a = (0, 6)) : f_Row_clear a h = some (0, sI h a 2 0) := by
  simp [f_Row_clear, bind_some', ldI, ldR, ldO, stI, stZ, stR, isO, wrA_n, rdA_n, wrA_l, rdA_l, gK_sI, gR_sI, gX_sI, gN_sI, gK_cp, gR_cp, gX_cp, gN_cp, rtZ_0, rtZ_1, if_true, reduceIte, and_self, true_and, and_true, K]
theorem row_get {w l i : Nat} (K : gK h a = (0, 6)) (R : gR h a 1 = some c) (Kc : gK h c = (1, m)) (W : gI h a 0 = nI w) (N : gI h a 2 = nI n) (hl : l < n) (hi : i < w) (hm : w * n ≤ m) (hw : w ≤ 4) (hn : n ≤ 64) : f_Row_get a (nI l) (nI i) h = some (gI h c (l * w + i), h) := by
  have h1 : l * w + i < m := by
    have : (l + 1) * w ≤ n * w := Nat.mul_le_mul_right w hl
    rw [Nat.add_mul, Nat.mul_comm n w] at this
    omega
  have h2 : l * w ≤ 64 * 4 := Nat.mul_le_mul (by omega) hw
  have e1 : ¬ nI l < 0 := nI_pos (by omega)
  have e2 : ¬ nI i < 0 := nI_pos (by omega)
  have e3 : ¬ nI n ≤ nI l := by rw [nI_leI (by omega) (by omega)]; omega
  have e4 : ¬ nI w ≤ nI i := by rw [nI_leI (by omega) (by omega)]; omega
  simp (disch := omega) [f_Row_get, bind_some', ldI, ldR, ldO, stI, stZ, stR, isO, wrA_n, rdA_n, wrA_l, rdA_l, gK_sI, gR_sI, gX_sI, gN_sI, gK_cp, gR_cp, gX_cp, gN_cp, rtZ_0, rtZ_1, if_true, reduceIte, and_self, true_and, and_true, K, Kc, R, W, N, e1, e2, e3, e4, pk_mul, nI_add, h1]
def pick4 (x1 x2 x3 x4 : Int32) (i : Nat) : Int32 := if i = 0 then x1 else if i = 1 then x2 else if i = 2 then x3 else x4
theorem put_step {N w f i : Nat} (K : gK h a = (0, 6)) (R : gR h a 1 = some c) (Kc : gK h c = (1, m)) (W : gI h a 0 = nI w) (hi : i < w) (hw : w ≤ 4) (hf : f + i < m) (hm : m ≤ 64) : f_Row_put_31 (N + 1) a x1 x2 x3 x4 (nI f) (nI i) h = f_Row_put_31 N a x1 x2 x3 x4 (nI f) (nI (i + 1)) (sI h c (f + i) (pick4 x1 x2 x3 x4 i)) := by
  rw [f_Row_put_31]
  have e4 : ¬ nI w ≤ nI i := by rw [nI_leI (by omega) (by omega)]; omega
  have e0 : nI i = 0 ↔ i = 0 := nI_eqL (n := 0) (by omega) (by decide)
  have e1 : nI i = 1 ↔ i = 1 := nI_eqL (n := 1) (by omega) (by decide)
  have e2 : nI i = 2 ↔ i = 2 := nI_eqL (n := 2) (by omega) (by decide)
  have ew : ∀ x : Int32, wrA h c (nI f + nI i) x = some (sI h c (f + i) x) := fun x => by
    rw [nI_add, wrA_n (by omega), Kc]
    exact if_pos ⟨rfl, hf⟩
  simp only [ldI, ldR, K, R, W, if_true, bind_some', if_neg e4, e0, e1, e2, f_Row_put_80, ew, nI_1, pick4]
  by_cases h0 : i = 0
  · simp only [h0, if_true]
  · by_cases h1 : i = 1
    · simp [h1]
    · by_cases h2 : i = 2
      · simp [h2]
      · simp [h0, h1, h2]
theorem put_end {N w f : Nat} (K : gK h a = (0, 6)) (W : gI h a 0 = nI w) (NN : gI h a 2 = nI n) (hn : n ≤ 64) : f_Row_put_31 (N + 1) a x1 x2 x3 x4 (nI f) (nI w) h = some (nI (n + 1), sI h a 2 (nI (n + 1))) := by
  rw [f_Row_put_31]
  have e4 : nI w ≤ nI w := Int32.le_refl _
  simp only [ldI, stI, K, W, NN, if_true, bind_some', if_pos e4, nI_1, gK_sI, gI_sI, and_self]
theorem put_start {w : Nat} (K : gK h a = (0, 6)) (R : gR h a 1 = some c) (Kc : gK h c = (1, m)) (W : gI h a 0 = nI w) (NN : gI h a 2 = nI n) (hm : m ≤ 64) (hw : w ≤ 4) (hn : n ≤ 64) : f_Row_put a x1 x2 x3 x4 h = if n * w + w ≤ m then f_Row_put_31 70000 a x1 x2 x3 x4 (nI (n * w)) (nI 0) h else some (-1, h) := by
  have hnw : n * w ≤ 64 * 4 := Nat.mul_le_mul hn hw
  have e0 : (nI (n * w) + nI w ≤ nI m) ↔ n * w + w ≤ m := by rw [nI_add, nI_leI (by omega) (by omega)]
  unfold f_Row_put
  simp only [ldI, ldR, lnA, K, Kc, R, W, NN, if_true, bind_some', pk_mul, e0]
  rfl
theorem row_put1 (K : gK h a = (0, 6)) (R : gR h a 1 = some c) (Kc : gK h c = (1, m)) (W : gI h a 0 = nI 1) (NN : gI h a 2 = nI n) (hm : m ≤ 64) (hn : n ≤ m) (hac : a ≠ c) : f_Row_put a x1 x2 x3 x4 h = if n < m then some (nI (n + 1), sI (sI h c (n) x1) a 2 (nI (n + 1))) else some (-1, h) := by
  rw [put_start K R Kc W NN (by omega) (by omega) (by omega)]
  by_cases hc : n < m
  · rw [if_pos hc, if_pos (by omega)]
    refine Eq.trans (put_step (N := 69999) (w := 1) (m := m) (i := 0) (by exact K) (by exact R) (by exact Kc) (by exact W) (by omega) (by omega) (by omega) (by omega)) ?_
    refine Eq.trans (put_end (N := 69998) (w := 1) (n := n) (by exact K) (by rw [gI_sI, if_neg (fun q => hac q.1)]; exact W) (by rw [gI_sI, if_neg (fun q => hac q.1)]; exact NN) (by omega)) ?_
    simp [pick4, Nat.mul_comm]
  · rw [if_neg hc, if_neg (by omega)]
theorem row_put2 (K : gK h a = (0, 6)) (R : gR h a 1 = some c) (Kc : gK h c = (1, 2 * m)) (W : gI h a 0 = nI 2) (NN : gI h a 2 = nI n) (hm : 2 * m ≤ 64) (hn : n ≤ m) (hac : a ≠ c) : f_Row_put a x1 x2 x3 x4 h = if n < m then some (nI (n + 1), sI (sI (sI h c (2 * n) x1) c (2 * n + 1) x2) a 2 (nI (n + 1))) else some (-1, h) := by
  rw [put_start K R Kc W NN (by omega) (by omega) (by omega)]
  by_cases hc : n < m
  · rw [if_pos hc, if_pos (by omega)]
    refine Eq.trans (put_step (N := 69999) (w := 2) (m := 2 * m) (i := 0) (by exact K) (by exact R) (by exact Kc) (by exact W) (by omega) (by omega) (by omega) (by omega)) ?_
    refine Eq.trans (put_step (N := 69998) (w := 2) (m := 2 * m) (i := 1) (by exact K) (by exact R) (by exact Kc) (by rw [gI_sI, if_neg (fun q => hac q.1)]; exact W) (by omega) (by omega) (by omega) (by omega)) ?_
    refine Eq.trans (put_end (N := 69997) (w := 2) (n := n) (by exact K) (by rw [gI_sI, if_neg (fun q => hac q.1), gI_sI, if_neg (fun q => hac q.1)]; exact W) (by rw [gI_sI, if_neg (fun q => hac q.1), gI_sI, if_neg (fun q => hac q.1)]; exact NN) (by omega)) ?_
    simp [pick4, Nat.mul_comm]
  · rw [if_neg hc, if_neg (by omega)]
theorem row_put3 (K : gK h a = (0, 6)) (R : gR h a 1 = some c) (Kc : gK h c = (1, 3 * m)) (W : gI h a 0 = nI 3) (NN : gI h a 2 = nI n) (hm : 3 * m ≤ 64) (hn : n ≤ m) (hac : a ≠ c) : f_Row_put a x1 x2 x3 x4 h = if n < m then some (nI (n + 1), sI (sI (sI (sI h c (3 * n) x1) c (3 * n + 1) x2) c (3 * n + 2) x3) a 2 (nI (n + 1))) else some (-1, h) := by
  rw [put_start K R Kc W NN (by omega) (by omega) (by omega)]
  by_cases hc : n < m
  · rw [if_pos hc, if_pos (by omega)]
    refine Eq.trans (put_step (N := 69999) (w := 3) (m := 3 * m) (i := 0) (by exact K) (by exact R) (by exact Kc) (by exact W) (by omega) (by omega) (by omega) (by omega)) ?_
    refine Eq.trans (put_step (N := 69998) (w := 3) (m := 3 * m) (i := 1) (by exact K) (by exact R) (by exact Kc) (by rw [gI_sI, if_neg (fun q => hac q.1)]; exact W) (by omega) (by omega) (by omega) (by omega)) ?_
    refine Eq.trans (put_step (N := 69997) (w := 3) (m := 3 * m) (i := 2) (by exact K) (by exact R) (by exact Kc) (by rw [gI_sI, if_neg (fun q => hac q.1), gI_sI, if_neg (fun q => hac q.1)]; exact W) (by omega) (by omega) (by omega) (by omega)) ?_
    refine Eq.trans (put_end (N := 69996) (w := 3) (n := n) (by exact K) (by rw [gI_sI, if_neg (fun q => hac q.1), gI_sI, if_neg (fun q => hac q.1), gI_sI, if_neg (fun q => hac q.1)]; exact W) (by rw [gI_sI, if_neg (fun q => hac q.1), gI_sI, if_neg (fun q => hac q.1), gI_sI, if_neg (fun q => hac q.1)]; exact NN) (by omega)) ?_
    simp [pick4, Nat.mul_comm]
  · rw [if_neg hc, if_neg (by omega)]
theorem row_put4 (K : gK h a = (0, 6)) (R : gR h a 1 = some c) (Kc : gK h c = (1, 64)) (W : gI h a 0 = nI 4) (NN : gI h a 2 = nI n) (hn : n ≤ 16) (hac : a ≠ c) : f_Row_put a x1 x2 x3 x4 h = if n < 16 then some (nI (n + 1), sI (sI (sI (sI (sI h c (4 * n) x1) c (4 * n + 1) x2) c (4 * n + 2) x3) c (4 * n + 3) x4) a 2 (nI (n + 1))) else some (-1, h) := by
  rw [put_start K R Kc W NN (by omega) (by omega) (by omega)]
  by_cases hc : n < 16
  · rw [if_pos hc, if_pos (by omega)]
    refine Eq.trans (put_step (N := 69999) (w := 4) (m := 64) (i := 0) (by exact K) (by exact R) (by exact Kc) (by exact W) (by omega) (by omega) (by omega) (by omega)) ?_
    refine Eq.trans (put_step (N := 69998) (w := 4) (m := 64) (i := 1) (by exact K) (by exact R) (by exact Kc) (by rw [gI_sI, if_neg (fun q => hac q.1)]; exact W) (by omega) (by omega) (by omega) (by omega)) ?_
    refine Eq.trans (put_step (N := 69997) (w := 4) (m := 64) (i := 2) (by exact K) (by exact R) (by exact Kc) (by rw [gI_sI, if_neg (fun q => hac q.1), gI_sI, if_neg (fun q => hac q.1)]; exact W) (by omega) (by omega) (by omega) (by omega)) ?_
    refine Eq.trans (put_step (N := 69996) (w := 4) (m := 64) (i := 3) (by exact K) (by exact R) (by exact Kc) (by rw [gI_sI, if_neg (fun q => hac q.1), gI_sI, if_neg (fun q => hac q.1), gI_sI, if_neg (fun q => hac q.1)]; exact W) (by omega) (by omega) (by omega) (by omega)) ?_
    refine Eq.trans (put_end (N := 69995) (w := 4) (n := n) (by exact K) (by rw [gI_sI, if_neg (fun q => hac q.1), gI_sI, if_neg (fun q => hac q.1), gI_sI, if_neg (fun q => hac q.1), gI_sI, if_neg (fun q => hac q.1)]; exact W) (by rw [gI_sI, if_neg (fun q => hac q.1), gI_sI, if_neg (fun q => hac q.1), gI_sI, if_neg (fun q => hac q.1), gI_sI, if_neg (fun q => hac q.1)]; exact NN) (by omega)) ?_
    simp [pick4, Nat.mul_comm]
  · rw [if_neg hc, if_neg (by omega)]
end ROWS
