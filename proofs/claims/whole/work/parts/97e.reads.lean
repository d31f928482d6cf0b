/-! ===== texts: the reference reads a token ===== -/
def LRD : SL := [(131, 15, 19)]
def WdR (o : Option Nat) (t v : Int32) : Prop := match o with
  | some w => t = 2 ∧ v = nI w
  | none => t = 1
theorem rd_95 {b n p : Nat} {B : Nat → Nat} : ∀ (d N : Nat) (h : PH) (t : Nat), XRM h b n B → t + d = n → d < N → p < t → gI h (b + 131) 15 = nI t → gI h (b + 131) 16 = nI p → gI h (b + 131) 17 = 1 → (∀ j, p ≤ j → j < t → txL (B j) = true) → ∃ h', f_Mo_reads_95 N (b + 131) h = some h' ∧ Sn LRD b h h' ∧ gI h' (b + 131) 15 = nI (exN (fun j => txL (B j)) (n - t) t) ∧ gI h' (b + 131) 16 = nI p ∧ WdR (fix (sgI B (exN (fun j => txL (B j)) (n - t) t - p) p) mwd 0) (gI h' (b + 131) 17) (gI h' (b + 131) 18) := by
  have fin : ∀ (h : PH) (t : Nat), XRM h b n B → t ≤ n → p < t → gI h (b + 131) 15 = nI t → gI h (b + 131) 16 = nI p → gI h (b + 131) 17 = 1 → (∀ j, p ≤ j → j < t → txL (B j) = true) → ∃ h', ((ldI h 9 (b + 131) 16).bind fun v6 => (ldI h 9 (b + 131) 15).bind fun v7 => (isO h 9 (b + 131)).bind fun _ => (f_Mo_wordAt (b + 131) v6 v7 h).bind fun p8 => (stI p8.2 9 (b + 131) 18 p8.1).bind fun h10 => (ldI h10 9 (b + 131) 18).bind fun v11 => if v11 = (-1) then some h10 else (stI h10 9 (b + 131) 17 2).bind fun h12 => some h12) = some h' ∧ Sn LRD b h h' ∧ gI h' (b + 131) 15 = nI t ∧ gI h' (b + 131) 16 = nI p ∧ WdR (fix (sgI B (t - p) p) mwd 0) (gI h' (b + 131) 17) (gI h' (b + 131) 18) := by
    intro h t C ht hp h15 h16 h17 hL
    have hn := C.2.1
    have K := C.K
    rw [ldI_y K, bind_some', ldI_y K, bind_some', isO_y K, bind_some', h15, h16, mo_wordAt C (by omega) (by omega) hL, bind_some']
    dsimp only
    rw [stI_y K, bind_some', ldI_y (by rw [gK_sI]; exact K), bind_some', gI_q rfl rfl]
    cases e : fix (sgI B (t - p) p) mwd 0 with
    | none =>
      dsimp only
      rw [if_pos rfl]
      exact ⟨_, rfl, Sn.rf.put 131 18 _ (by decide), by simp (disch := omega) only [gI_q, gI_n1, gI_n2]; exact h15, by simp (disch := omega) only [gI_q, gI_n1, gI_n2]; exact h16, by unfold WdR; dsimp only; simp (disch := omega) only [gI_q, gI_n1, gI_n2]; exact h17⟩
    | some w =>
      have hw : w < 29 := (fix_get _ _ _ _ e).2.1
      dsimp only
      rw [if_neg (nI_ne_m1 (by omega)), stI_y (by rw [gK_sI]; exact K), bind_some']
      exact ⟨_, rfl, (Sn.rf.put 131 18 _ (by decide)).put 131 17 _ (by decide), by simp (disch := omega) only [gI_q, gI_n1, gI_n2]; exact h15, by simp (disch := omega) only [gI_q, gI_n1, gI_n2]; exact h16, ⟨by simp (disch := omega) only [gI_q, gI_n1, gI_n2], by simp (disch := omega) only [gI_q, gI_n1, gI_n2]⟩⟩
  intro d
  induction d with
  | zero =>
    intro N h t C ht hN hp h15 h16 h17 hL
    obtain ⟨M, rfl⟩ : ∃ M, N = M + 1 := ⟨N - 1, by omega⟩
    have hn := C.2.1
    have K := C.K
    rw [f_Mo_reads_95, ldI_y K, bind_some', isO_y K, bind_some', h15, mo_raw C (by omega), bind_some', if_pos (show n ≤ t by omega)]
    dsimp only
    rw [isO_y K, bind_some', mo_isL_m K, bind_some']
    dsimp only
    rw [if_pos rfl, exN_o _ (by omega)]
    exact fin h t C (by omega) hp h15 h16 h17 hL
  | succ d ih =>
    intro N h t C ht hN hp h15 h16 h17 hL
    obtain ⟨M, rfl⟩ : ∃ M, N = M + 1 := ⟨N - 1, by omega⟩
    have hn := C.2.1
    have K := C.K
    have hb := (C.2.2.2.1 t (by omega)).1
    rw [f_Mo_reads_95, ldI_y K, bind_some', isO_y K, bind_some', h15, mo_raw C (by omega), bind_some', if_neg (show ¬ n ≤ t by omega)]
    dsimp only
    rw [isO_y K, bind_some', mo_isL K hb, bind_some']
    dsimp only
    by_cases c : txL (B t) = true
    · rw [if_neg (by rw [c]; decide), ldI_y K, bind_some', stI_y K, bind_some', h15, nI_s]
      have t1 : Sn LRD b h (sI h (b + 131) 15 (nI (t + 1))) := Sn.rf.put 131 15 _ (by decide)
      obtain ⟨h', g1, g2, g3⟩ := ih M _ (t + 1) (C.sn t1 (by decide)) (by omega) (by omega) (by omega) (by simp (disch := omega) only [gI_q, gI_n1, gI_n2]) (by simp (disch := omega) only [gI_q, gI_n1, gI_n2]; exact h16) (by simp (disch := omega) only [gI_q, gI_n1, gI_n2]; exact h17) (fun j a z => by
        by_cases y : j = t
        · rw [y]; exact c
        · exact hL j a (by omega))
      rw [exN_s (fun j => txL (B j)) (show t < n by omega) c]
      exact ⟨h', g1, t1.tr g2, g3⟩
    · have c : txL (B t) = false := by simpa using c
      rw [if_pos (by rw [c]; rfl), exN_z (fun j => txL (B j)) c]
      exact fin h t C (by omega) hp h15 h16 h17 hL
def NmR (B : Nat → Nat) (p e : Nat) (t v : Int32) : Prop := if e - p ≤ 4 then t = 3 ∧ v = nI (nmv B p (e - p)) else t = 1
theorem rd_171 {b n p : Nat} {B : Nat → Nat} : ∀ (d N : Nat) (h : PH) (t : Nat), XRM h b n B → t + d = n → d < N → p < t → gI h (b + 131) 15 = nI t → gI h (b + 131) 16 = nI p → gI h (b + 131) 17 = 1 → (t - p ≤ 4 → gI h (b + 131) 18 = nI (nmv B p (t - p))) → (∀ j, p ≤ j → j < t → txD (B j) = true) → ∃ h', f_Mo_reads_171 N (b + 131) h = some h' ∧ Sn LRD b h h' ∧ gI h' (b + 131) 15 = nI (exN (fun j => txD (B j)) (n - t) t) ∧ gI h' (b + 131) 16 = nI p ∧ NmR B p (exN (fun j => txD (B j)) (n - t) t) (gI h' (b + 131) 17) (gI h' (b + 131) 18) := by
  have fin : ∀ (h : PH) (t : Nat), XRM h b n B → t ≤ n → p < t → gI h (b + 131) 15 = nI t → gI h (b + 131) 16 = nI p → gI h (b + 131) 17 = 1 → (t - p ≤ 4 → gI h (b + 131) 18 = nI (nmv B p (t - p))) → ∃ h', ((ldI h 9 (b + 131) 15).bind fun v6 => (ldI h 9 (b + 131) 16).bind fun v7 => if 5 ≤ (v6 - v7) then some h else (stI h 9 (b + 131) 17 3).bind fun h8 => some h8) = some h' ∧ Sn LRD b h h' ∧ gI h' (b + 131) 15 = nI t ∧ gI h' (b + 131) 16 = nI p ∧ NmR B p t (gI h' (b + 131) 17) (gI h' (b + 131) 18) := by
    intro h t C ht hp h15 h16 h17 h18
    have hn := C.2.1
    have K := C.K
    rw [ldI_y K, bind_some', ldI_y K, bind_some', h15, h16, show nI t - nI p = nI (t - p) from pk_sub (by omega)]
    have e : (5 : Int32) ≤ nI (t - p) ↔ 5 ≤ t - p := L_len (n := 5) (by omega) (by decide)
    by_cases c : t - p ≤ 4
    · rw [if_neg (by rw [e]; omega), stI_y K, bind_some']
      exact ⟨_, rfl, Sn.rf.put 131 17 _ (by decide), by simp (disch := omega) only [gI_q, gI_n1, gI_n2]; exact h15, by simp (disch := omega) only [gI_q, gI_n1, gI_n2]; exact h16, by unfold NmR; rw [if_pos c]; exact ⟨by simp (disch := omega) only [gI_q, gI_n1, gI_n2], by simp (disch := omega) only [gI_q, gI_n1, gI_n2]; exact h18 c⟩⟩
    · rw [if_pos (by rw [e]; omega)]
      exact ⟨_, rfl, Sn.rf, h15, h16, by unfold NmR; rw [if_neg c]; exact h17⟩
  intro d
  induction d with
  | zero =>
    intro N h t C ht hN hp h15 h16 h17 h18 hD
    obtain ⟨M, rfl⟩ : ∃ M, N = M + 1 := ⟨N - 1, by omega⟩
    have hn := C.2.1
    have K := C.K
    rw [f_Mo_reads_171, ldI_y K, bind_some', isO_y K, bind_some', h15, mo_raw C (by omega), bind_some', if_pos (show n ≤ t by omega)]
    dsimp only
    rw [isO_y K, bind_some', mo_isD_m K, bind_some']
    dsimp only
    rw [if_pos rfl, exN_o _ (by omega)]
    exact fin h t C (by omega) hp h15 h16 h17 h18
  | succ d ih =>
    intro N h t C ht hN hp h15 h16 h17 h18 hD
    obtain ⟨M, rfl⟩ : ∃ M, N = M + 1 := ⟨N - 1, by omega⟩
    have hn := C.2.1
    have K := C.K
    have hb := (C.2.2.2.1 t (by omega)).1
    rw [f_Mo_reads_171, ldI_y K, bind_some', isO_y K, bind_some', h15, mo_raw C (by omega), bind_some', if_neg (show ¬ n ≤ t by omega)]
    dsimp only
    rw [isO_y K, bind_some', mo_isD K hb, bind_some']
    dsimp only
    by_cases c : txD (B t) = true
    · rw [if_neg (by rw [c]; decide), ldI_y K, bind_some']
      have go : ∀ v : Int32, (t + 1 - p ≤ 4 → v = nI (nmv B p (t + 1 - p))) → ∃ h', f_Mo_reads_223 (fun a0 h => f_Mo_reads_171 M a0 h) (b + 131) v (b + 131) h = some h' ∧ Sn LRD b h h' ∧ gI h' (b + 131) 15 = nI (exN (fun j => txD (B j)) (n - t) t) ∧ gI h' (b + 131) 16 = nI p ∧ NmR B p (exN (fun j => txD (B j)) (n - t) t) (gI h' (b + 131) 17) (gI h' (b + 131) 18) := by
        intro v hv
        unfold f_Mo_reads_223
        rw [stI_y K, bind_some', ldI_y (by rw [gK_sI]; exact K), bind_some', stI_y (by rw [gK_sI]; exact K), bind_some', gI_n2 (by omega), h15, nI_s]
        have t1 : Sn LRD b h (sI (sI h (b + 131) 18 v) (b + 131) 15 (nI (t + 1))) := (Sn.rf.put 131 18 _ (by decide)).put 131 15 _ (by decide)
        obtain ⟨h', g1, g2, g3⟩ := ih M _ (t + 1) (C.sn t1 (by decide)) (by omega) (by omega) (by omega) (by simp (disch := omega) only [gI_q, gI_n1, gI_n2]) (by simp (disch := omega) only [gI_q, gI_n1, gI_n2]; exact h16) (by simp (disch := omega) only [gI_q, gI_n1, gI_n2]; exact h17) (by simp (disch := omega) only [gI_q, gI_n1, gI_n2]; exact hv) (fun j a z => by
          by_cases y : j = t
          · rw [y]; exact c
          · exact hD j a (by omega))
        rw [exN_s (fun j => txD (B j)) (show t < n by omega) c]
        exact ⟨h', g1, t1.tr g2, g3⟩
      have c2 := c
      unfold txD at c2
      simp only [Bool.and_eq_true, decide_eq_true_eq] at c2
      by_cases c3 : 10000 ≤ gI h (b + 131) 18
      · rw [if_pos c3, bind_some']
        refine go _ (fun z => ?_)
        exfalso
        have h2 : nmv B p (t - p) < 10 ^ (t - p) := nmv_lt (t - p) (fun j a y => hD j a (by omega))
        have h3 : (10 : Nat) ^ (t - p) ≤ 10000 := pow10_4 (t - p) (by omega)
        rw [h18 (by omega)] at c3
        have e : (10000 : Int32) ≤ nI (nmv B p (t - p)) ↔ 10000 ≤ nmv B p (t - p) := L_len (n := 10000) (by omega) (by decide)
        rw [e] at c3
        omega
      · rw [if_neg c3, bind_some', ldI_y K, bind_some', isO_y K, bind_some', h15, mo_raw C (by omega), bind_some', if_neg (show ¬ n ≤ t by omega)]
        refine go _ (fun z => ?_)
        have h2 : nmv B p (t - p) < 10 ^ (t - p) := nmv_lt (t - p) (fun j a y => hD j a (by omega))
        have h3 : (10 : Nat) ^ (t - p) ≤ 10000 := pow10_4 (t - p) (by omega)
        rw [h18 (by omega), show (10 : Int32) * nI (nmv B p (t - p)) = nI (10 * nmv B p (t - p)) from L_muln _, nI_add, show nI (10 * nmv B p (t - p) + B t) - 48 = nI (10 * nmv B p (t - p) + B t - 48) from nI_subL _ (by show 48 ≤ _; omega), show t + 1 - p = (t - p) + 1 by omega]
        rw [nmv_s, show p + (t - p) = t by omega]
        congr 1
        omega
    · have c : txD (B t) = false := by simpa using c
      rw [if_pos (by rw [c]; rfl), exN_z (fun j => txD (B j)) c]
      exact fin h t C (by omega) hp h15 h16 h17 h18
/-- the reference stands at the token that begins at p -/
def MkP (h : PH) (b n : Nat) (B : Nat → Nat) (p : Nat) : Prop := gI h (b + 131) 16 = nI p ∧ gI h (b + 131) 15 = nI (if p < n then tkE B n p else n) ∧ TkR (gI h (b + 131) 17) (gI h (b + 131) 18) (if p < n then tkV B n p else -1)
theorem rd_0 {b n : Nat} {B : Nat → Nat} : ∀ (d N : Nat) (h : PH) (q : Nat), XRM h b n B → q + d = n → d < N → gI h (b + 131) 15 = nI q → ∃ h', f_Mo_reads_0 N (b + 131) h = some h' ∧ Sn LRD b h h' ∧ MkP h' b n B (skp B n q) := by
  intro d
  induction d with
  | zero =>
    intro N h q C hq hN h15
    obtain ⟨M, rfl⟩ : ∃ M, N = M + 1 := ⟨N - 1, by omega⟩
    have hn := C.2.1
    have K := C.K
    have hqn : q = n := by omega
    rw [f_Mo_reads_0, ldI_y K, bind_some', isO_y K, bind_some', h15, mo_raw C (by omega), bind_some', if_pos (show n ≤ q by omega)]
    dsimp only
    rw [if_neg (by decide), ldI_y K, bind_some', isO_y K, bind_some', h15, mo_raw C (by omega), bind_some', if_pos (show n ≤ q by omega)]
    dsimp only
    rw [if_neg (by decide), ldI_y K, bind_some', stI_y K, bind_some', stI_y (by rw [gK_sI]; exact K), bind_some', ldI_y (by rw [gK_sI, gK_sI]; exact K), bind_some', isO_y (by rw [gK_sI, gK_sI]; exact K), bind_some']
    have t1 : Sn LRD b h (sI (sI h (b + 131) 16 (nI q)) (b + 131) 17 1) := (Sn.rf.put 131 16 _ (by decide)).put 131 17 _ (by decide)
    rw [h15, gI_n2 (by omega), gI_n2 (by omega), h15, mo_raw (C.sn t1 (by decide)) (by omega), bind_some', if_pos (show n ≤ q by omega)]
    dsimp only
    rw [if_pos rfl, stI_y (by rw [gK_sI, gK_sI]; exact K), bind_some', hqn, skp_n]
    refine ⟨_, rfl, ((Sn.rf.put 131 16 _ (by decide)).put 131 17 _ (by decide)).put 131 17 _ (by decide), ?_, ?_, ?_⟩
    · simp (disch := omega) only [gI_q, gI_n1, gI_n2]
    · rw [if_neg (by omega)]; simp (disch := omega) only [gI_q, gI_n1, gI_n2]; rw [h15, hqn]
    · rw [if_neg (by omega)]; simp (disch := omega) only [gI_q, gI_n1, gI_n2]; exact Or.inl ⟨rfl, rfl⟩
  | succ d ih =>
    intro N h q C hq hN h15
    obtain ⟨M, rfl⟩ : ∃ M, N = M + 1 := ⟨N - 1, by omega⟩
    have hn := C.2.1
    have K := C.K
    have hb := (C.2.2.2.1 q (by omega)).1
    have hqn : ¬ n ≤ q := by omega
    have w1 : nI (B q) = 32 ↔ B q = 32 := nI_eqL (n := 32) (by omega) (by decide)
    have w2 : nI (B q) = 10 ↔ B q = 10 := nI_eqL (n := 10) (by omega) (by decide)
    have blank : txW (B q) = true → ∃ h', f_Mo_reads_26 (fun a0 h => f_Mo_reads_0 M a0 h) (b + 131) h = some h' ∧ Sn LRD b h h' ∧ MkP h' b n B (skp B n q) := by
      intro hw
      unfold f_Mo_reads_26
      rw [ldI_y K, bind_some', stI_y K, bind_some', h15, nI_s]
      have t1 : Sn LRD b h (sI h (b + 131) 15 (nI (q + 1))) := Sn.rf.put 131 15 _ (by decide)
      obtain ⟨h', g1, g2, g3⟩ := ih M _ (q + 1) (C.sn t1 (by decide)) (by omega) (by omega) (by simp (disch := omega) only [gI_q, gI_n1, gI_n2])
      rw [skp_s (by omega) hw]
      exact ⟨h', g1, t1.tr g2, g3⟩
    rw [f_Mo_reads_0, ldI_y K, bind_some', isO_y K, bind_some', h15, mo_raw C (by omega), bind_some', if_neg hqn]
    dsimp only
    by_cases c1 : B q = 32
    · rw [if_pos (w1.mpr c1)]
      exact blank (by unfold txW; rw [c1]; rfl)
    rw [if_neg (fun z => c1 (w1.mp z)), ldI_y K, bind_some', isO_y K, bind_some', h15, mo_raw C (by omega), bind_some', if_neg hqn]
    dsimp only
    by_cases c2 : B q = 10
    · rw [if_pos (w2.mpr c2)]
      exact blank (by unfold txW; rw [c2]; rfl)
    rw [if_neg (fun z => c2 (w2.mp z)), ldI_y K, bind_some', stI_y K, bind_some', stI_y (by rw [gK_sI]; exact K), bind_some', ldI_y (by rw [gK_sI, gK_sI]; exact K), bind_some', isO_y (by rw [gK_sI, gK_sI]; exact K), bind_some']
    have hw : txW (B q) = false := by unfold txW; simp; exact ⟨c1, c2⟩
    rw [skp_id hw]
    rw [h15]
    obtain ⟨h1, e1⟩ : ∃ h1, h1 = sI (sI h (b + 131) 16 (nI q)) (b + 131) 17 1 := ⟨_, rfl⟩
    rw [← e1]
    have t1 : Sn LRD b h h1 := by rw [e1]; exact (Sn.rf.put 131 16 _ (by decide)).put 131 17 _ (by decide)
    have C1 := C.sn t1 (by decide)
    have K1 := C1.K
    have a15 : gI h1 (b + 131) 15 = nI q := by rw [e1]; simp (disch := omega) only [gI_q, gI_n1, gI_n2]; exact h15
    have a16 : gI h1 (b + 131) 16 = nI q := by rw [e1]; simp (disch := omega) only [gI_q, gI_n1, gI_n2]
    have a17 : gI h1 (b + 131) 17 = 1 := by rw [e1]; simp (disch := omega) only [gI_q, gI_n1, gI_n2]
    rw [a15, mo_raw C1 (by omega), bind_some', if_neg hqn]
    dsimp only
    rw [if_neg (nI_ne_m1 (by omega)), ldI_y K1, bind_some', stI_y K1, bind_some', stI_y (by rw [gK_sI]; exact K1), bind_some', a15, nI_s]
    obtain ⟨h2, e2⟩ : ∃ h2, h2 = sI (sI h1 (b + 131) 15 (nI (q + 1))) (b + 131) 18 (nI (B q)) := ⟨_, rfl⟩
    rw [← e2]
    have t2 : Sn LRD b h h2 := by rw [e2]; exact (t1.put 131 15 _ (by decide)).put 131 18 _ (by decide)
    have C2 := C.sn t2 (by decide)
    have K2 := C2.K
    have b15 : gI h2 (b + 131) 15 = nI (q + 1) := by rw [e2]; simp (disch := omega) only [gI_q, gI_n1, gI_n2]
    have b16 : gI h2 (b + 131) 16 = nI q := by rw [e2]; simp (disch := omega) only [gI_q, gI_n1, gI_n2]; exact a16
    have b17 : gI h2 (b + 131) 17 = 1 := by rw [e2]; simp (disch := omega) only [gI_q, gI_n1, gI_n2]; exact a17
    have b18 : gI h2 (b + 131) 18 = nI (B q) := by rw [e2]; simp (disch := omega) only [gI_q, gI_n1, gI_n2]
    rw [isO_y K2, bind_some', mo_isL K2 hb, bind_some']
    dsimp only
    have hq2 : q < n := by omega
    by_cases c3 : txL (B q) = true
    · rw [if_neg (by rw [c3]; decide)]
      obtain ⟨h', g1, g2, g3, g4, g5⟩ := rd_95 (p := q) (n - (q + 1)) FU h2 (q + 1) C2 (by omega) (by rw [FU_eq]; omega) (by omega) b15 b16 b17 (fun j a z => by rw [show j = q by omega]; exact c3)
      have te : tkE B n q = exN (fun j => txL (B j)) (n - (q + 1)) (q + 1) := by unfold tkE; rw [if_pos c3]
      refine ⟨h', g1, t2.tr g2, g4, ?_, ?_⟩
      · rw [if_pos hq2, te]; exact g3
      · rw [if_pos hq2]
        unfold tkV
        rw [if_pos c3, te]
        cases e : fix (sgI B (exN (fun j => txL (B j)) (n - (q + 1)) (q + 1) - q) q) cwd 0 with
        | none =>
          rw [fix_pno e] at g5
          exact Or.inr (Or.inl ⟨rfl, g5⟩)
        | some w =>
          obtain ⟨y1, y2⟩ := fix_prm e
          rw [y2] at g5
          exact Or.inr (Or.inr (Or.inr (Or.inr ⟨w, y1, rfl, g5.1, g5.2⟩)))
    · have c3 : txL (B q) = false := by simpa using c3
      rw [if_pos (by rw [c3]; rfl), isO_y K2, bind_some', mo_isD K2 hb, bind_some']
      dsimp only
      by_cases c4 : txD (B q) = true
      · rw [if_neg (by rw [c4]; decide), stI_y K2, bind_some']
        have c5 := c4
        unfold txD at c5
        simp only [Bool.and_eq_true, decide_eq_true_eq] at c5
        have t3 : Sn LRD b h (sI h2 (b + 131) 18 (nI (B q) - 48)) := t2.put 131 18 _ (by decide)
        obtain ⟨h', g1, g2, g3, g4, g5⟩ := rd_171 (p := q) (n - (q + 1)) FU _ (q + 1) (C.sn t3 (by decide)) (by omega) (by rw [FU_eq]; omega) (by omega) (by simp (disch := omega) only [gI_q, gI_n1, gI_n2]; exact b15) (by simp (disch := omega) only [gI_q, gI_n1, gI_n2]; exact b16) (by simp (disch := omega) only [gI_q, gI_n1, gI_n2]; exact b17) (fun z => by
          simp (disch := omega) only [gI_q, gI_n1, gI_n2]
          rw [show q + 1 - q = 1 by omega, show nI (B q) - 48 = nI (B q - 48) from nI_subL _ (by show 48 ≤ _; omega)]
          show _ = nI (0 * 10 + (B q - 48))
          congr 1
          omega) (fun j a z => by rw [show j = q by omega]; exact c4)
        have te : tkE B n q = exN (fun j => txD (B j)) (n - (q + 1)) (q + 1) := by unfold tkE; rw [if_neg (by rw [c3]; decide), if_pos c4]
        refine ⟨h', g1, t3.tr g2, g4, ?_, ?_⟩
        · rw [if_pos hq2, te]; exact g3
        · rw [if_pos hq2]
          have hD := tkE_D (n := n) c4 c3
          have hl := tkE_le (B := B) hq2
          unfold tkV
          rw [if_neg (by rw [c3]; decide), if_pos c4]
          rw [← te] at g5
          unfold NmR at g5
          by_cases c6 : tkE B n q - q ≤ 4
          · rw [if_pos c6] at g5 ⊢
            have h2 : nmv B q (tkE B n q - q) < 10 ^ (tkE B n q - q) := nmv_lt _ (fun j a y => hD j a (by omega))
            have h3 : (10 : Nat) ^ (tkE B n q - q) ≤ 10000 := pow10_4 _ c6
            exact Or.inr (Or.inr (Or.inl ⟨_, by omega, rfl, g5.1, g5.2⟩))
          · rw [if_neg c6] at g5 ⊢
            exact Or.inr (Or.inl ⟨rfl, g5⟩)
      · have c4 : txD (B q) = false := by simpa using c4
        rw [if_pos (by rw [c4]; rfl), isO_y K2, bind_some', mo_isM hb, bind_some']
        dsimp only
        have te : tkE B n q = q + 1 := by unfold tkE; rw [if_neg (by rw [c3]; decide), if_neg (by rw [c4]; decide)]
        have tv : tkV B n q = nI (10000 + B q) := by unfold tkV; rw [if_neg (by rw [c3]; decide), if_neg (by rw [c4]; decide)]
        by_cases c5 : txM (B q) = true
        · rw [if_neg (by rw [c5]; decide), stI_y K2, bind_some']
          refine ⟨_, rfl, t2.put 131 17 _ (by decide), by simp (disch := omega) only [gI_q, gI_n1, gI_n2]; exact b16, by rw [if_pos hq2, te]; simp (disch := omega) only [gI_q, gI_n1, gI_n2]; exact b15, ?_⟩
          rw [if_pos hq2, tv]
          simp (disch := omega) only [gI_q, gI_n1, gI_n2]
          exact Or.inr (Or.inr (Or.inr (Or.inl ⟨B q, hb, rfl, Or.inl ⟨c5, rfl, b18⟩⟩)))
        · have c5 : txM (B q) = false := by simpa using c5
          rw [if_pos (by rw [c5]; rfl)]
          refine ⟨_, rfl, t2, b16, by rw [if_pos hq2, te]; exact b15, ?_⟩
          rw [if_pos hq2, tv]
          exact Or.inr (Or.inr (Or.inr (Or.inl ⟨B q, hb, rfl, Or.inr ⟨c5, b17⟩⟩)))
/-- the reference stands at token i -/
def MkR (h : PH) (b n : Nat) (B : Nat → Nat) (i : Nat) : Prop := MkP h b n B (psN B n i)
theorem mo_first {h : PH} {b n : Nat} {B : Nat → Nat} (C : XRM h b n B) (h15 : gI h (b + 131) 15 = 0) : ∃ h', f_Mo_reads (b + 131) h = some h' ∧ Sn LRD b h h' ∧ MkR h' b n B 0 := by
  have := C.2.1
  exact rd_0 n FU h 0 C (by omega) (by rw [FU_eq]; omega) h15
theorem mo_nxt {h : PH} {b n i : Nat} {B : Nat → Nat} (C : XRM h b n B) (m : MkR h b n B i) (hi : psN B n i < n) : ∃ h', f_Mo_reads (b + 131) h = some h' ∧ Sn LRD b h h' ∧ MkR h' b n B (i + 1) := by
  have hn := C.2.1
  have te := tkE_le (B := B) hi
  have e := m.2.1
  rw [if_pos hi] at e
  obtain ⟨h', g1, g2, g3⟩ := rd_0 (n - tkE B n (psN B n i)) FU h (tkE B n (psN B n i)) C (by omega) (by rw [FU_eq]; omega) e
  refine ⟨h', g1, g2, ?_⟩
  unfold MkR
  rw [(ps_s hi).1]
  exact g3
