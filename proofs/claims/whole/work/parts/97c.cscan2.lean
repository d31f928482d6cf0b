def tkP (B : Nat → Nat) (p j : Nat) : Bool := (txL (B p) && txL (B j)) || (txD (B p) && txD (B j))
theorem tkE_P {B : Nat → Nat} {n p : Nat} : exN (tkP B p) (n - (p + 1)) (p + 1) = tkE B n p := by
  unfold tkE
  by_cases c1 : txL (B p) = true
  · rw [if_pos c1]
    congr 1
    funext j
    unfold tkP
    rw [c1, txLD c1]; simp
  · rw [if_neg c1]
    have c1 : txL (B p) = false := by simpa using c1
    by_cases c2 : txD (B p) = true
    · rw [if_pos c2]
      congr 1
      funext j
      unfold tkP
      rw [c1, c2]; simp
    · rw [if_neg c2]
      have c2 : txD (B p) = false := by simpa using c2
      exact exN_z _ (by unfold tkP; rw [c1, c2]; simp)
theorem tkE_D {B : Nat → Nat} {n p : Nat} (h : txD (B p) = true) (h2 : txL (B p) = false) : ∀ j, p ≤ j → j < tkE B n p → txD (B j) = true := by
  intro j h3 h4
  unfold tkE at h4
  rw [if_neg (by rw [h2]; decide), if_pos h] at h4
  by_cases e : p = j
  · rw [← e]; exact h
  · exact exN_in (fun j => txD (B j)) _ _ j (by omega) h4
theorem tkE_L {B : Nat → Nat} {n p : Nat} (h : txL (B p) = true) : ∀ j, p ≤ j → j < tkE B n p → txL (B j) = true := by
  intro j h3 h4
  unfold tkE at h4
  rw [if_pos h] at h4
  by_cases e : p = j
  · rw [← e]; exact h
  · exact exN_in (fun j => txL (B j)) _ _ j (by omega) h4
section CSC
variable {h : PH} {b n : Nat} {B : Nat → Nat}
theorem sc_55 (C : XRC h b n B) {k4 : Nat → Int32 → Int32 → PH → Option PH} {c p : Nat} : ∀ d N t, t + d = n → d < N → f_Reader_scan_55 k4 N (b + 102) (nI c) (nI p) (nI (B p)) (nI t) (bI (txL (B p))) (bI (txD (B p))) h = f_Reader_scan_106 k4 (b + 102) (nI c) (nI p) (nI (B p)) (nI (exN (tkP B p) (n - t) t)) (bI (txL (B p))) (bI (txD (B p))) h := by
  have hn := C.2.1
  obtain ⟨l1, l2, l3⟩ := C.len
  intro d
  induction d with
  | zero =>
    intro N t ht hN
    obtain ⟨M, rfl⟩ : ∃ M, N = M + 1 := ⟨N - 1, by omega⟩
    rw [f_Reader_scan_55, l1, bind_some', if_pos (by rw [nI_le' (by omega) (by omega)]; omega), exN_o _ (by omega)]
  | succ d ih =>
    intro N t ht hN
    obtain ⟨M, rfl⟩ : ∃ M, N = M + 1 := ⟨N - 1, by omega⟩
    have hb := (C.2.2.2 t (by omega)).1
    rw [f_Reader_scan_55, l1, bind_some', if_neg (by rw [nI_le' (by omega) (by omega)]; omega)]
    by_cases c1 : txL (B p) = true
    · have c2 : txD (B p) = false := txLD c1
      rw [if_neg (by rw [c1]; decide), l2, bind_some', C.rd (by omega), bind_some', cl_isL hb, bind_some']
      by_cases c3 : txL (B t) = true
      · rw [if_neg (by rw [c3]; show ¬ (1 : Int32) = 0; decide)]
        show f_Reader_scan_55 k4 M (b + 102) (nI c) (nI p) (nI (B p)) (nI t + 1) _ _ h = _
        rw [nI_s, ih M (t + 1) (by omega) (by omega), exN_s _ (show t < n by omega) (by unfold tkP; rw [c1, c3]; rfl)]
      · have c3 : txL (B t) = false := by simpa using c3
        rw [if_pos (by rw [c3]; rfl)]
        unfold f_Reader_scan_82
        rw [if_pos (by rw [c2]; rfl), exN_z _ (by unfold tkP; rw [c2, c3]; simp)]
    · have c1 : txL (B p) = false := by simpa using c1
      rw [if_pos (by rw [c1]; rfl)]
      unfold f_Reader_scan_82
      by_cases c2 : txD (B p) = true
      · rw [if_neg (by rw [c2]; decide), l2, bind_some', C.rd (by omega), bind_some', cl_isD hb, bind_some']
        by_cases c3 : txD (B t) = true
        · rw [if_neg (by rw [c3]; show ¬ (1 : Int32) = 0; decide)]
          show f_Reader_scan_55 k4 M (b + 102) (nI c) (nI p) (nI (B p)) (nI t + 1) _ _ h = _
          rw [nI_s, ih M (t + 1) (by omega) (by omega), exN_s _ (show t < n by omega) (by unfold tkP; rw [c2, c3]; simp)]
        · have c3 : txD (B t) = false := by simpa using c3
          rw [if_pos (by rw [c3]; rfl), exN_z _ (by unfold tkP; rw [c1, c3]; simp)]
      · have c2 : txD (B p) = false := by simpa using c2
        rw [if_pos (by rw [c2]; rfl), exN_z _ (by unfold tkP; rw [c1, c2]; simp)]
theorem sc_106 (C : XRC h b n B) {k4 : Nat → Int32 → Int32 → PH → Option PH} {c p : Nat} (hp : p < n) (hc : c < 400) : f_Reader_scan_106 k4 (b + 102) (nI c) (nI p) (nI (B p)) (nI (tkE B n p)) (bI (txL (B p))) (bI (txD (B p))) h = k4 (b + 102) (nI (c + 1)) (nI (tkE B n p)) (sI (sI h (b + 112) c (tkV B n p)) (b + 113) c (nI p)) := by
  have hn := C.2.1
  have he := tkE_le (B := B) hp
  have C0 := C
  obtain ⟨s, -⟩ := C
  have K102 : gK h (b + 102) = (0, 4) := s.K 102 (by decide) rfl
  have K112 : gK h (b + 112) = (1, 401) := s.K 112 (by decide) rfl
  have K113 : gK h (b + 113) = (1, 401) := s.K 113 (by decide) rfl
  have R102_6 : gR h (b + 102) 6 = some (b + 112) := s.R 102 6 rfl
  have R102_7 : gR h (b + 102) 7 = some (b + 113) := s.R 102 7 rfl
  have q1 : ldR h 4 (b + 102) 6 = some (b + 112) := by unfold ldR; rw [if_pos K102, R102_6]
  have w146 : ∀ v : Int32, f_Reader_scan_146 k4 (b + 102) (nI c) (nI p) (nI (tkE B n p)) v (nI c) (b + 112) h = k4 (b + 102) (nI (c + 1)) (nI (tkE B n p)) (sI (sI h (b + 112) c v) (b + 113) c (nI p)) := by
    intro v
    unfold f_Reader_scan_146 f_Reader_scan_157
    rw [wr_at K112 (by omega) (by omega), bind_some']
    rw [show ldR (sI h (b + 112) c v) 4 (b + 102) 7 = some (b + 113) by unfold ldR; rw [gK_sI, if_pos K102, gR_sI, R102_7], bind_some']
    rw [wr_at (show gK (sI h (b + 112) c v) (b + 113) = (1, 401) by rw [gK_sI]; exact K113) (by omega) (by omega), bind_some', nI_s]
  unfold f_Reader_scan_106
  rw [q1, bind_some']
  unfold tkV
  by_cases c1 : txL (B p) = true
  · rw [if_neg (by rw [c1]; decide), if_pos c1, isO_y K102, bind_some', cl_wordOf C0 (by omega) (by omega), bind_some']
    exact w146 _
  · rw [if_neg c1]
    have c1 : txL (B p) = false := by simpa using c1
    rw [if_pos (by rw [c1]; rfl)]
    by_cases c2 : txD (B p) = true
    · rw [if_neg (by rw [c2]; decide), if_pos c2, isO_y K102, bind_some', cl_numberOf C0 (by omega) (by omega) (tkE_D c2 c1), bind_some']
      exact w146 _
    · rw [if_neg c2]
      have c2 : txD (B p) = false := by simpa using c2
      rw [if_pos (by rw [c2]; rfl), show (10000 : Int32) + nI (B p) = nI (10000 + B p) from L_addn (B p)]
      exact w146 _
end CSC
def LSC : SL := [(102, 8, 10), (112, 0, 401), (113, 0, 401)]
/-- the tokens stand in the class's rows -/
def TkC (h : PH) (b n : Nat) (B : Nat → Nat) (c : Nat) : Prop := c ≤ n ∧ psN B n c = n ∧ (∀ i, i < c → psN B n i < n) ∧ ∀ j, j ≤ c → gI h (b + 112) j = tkA B n j ∧ gI h (b + 113) j = nI (psN B n j)
theorem sc_4 {b n : Nat} {B : Nat → Nat} : ∀ (N : Nat) (h : PH) (c q : Nat), XRC h b n B → q ≤ n → n - q < N → c ≤ q → skp B n q = psN B n c → (∀ i, i < c → psN B n i < n) → (∀ j, j < c → gI h (b + 112) j = tkA B n j ∧ gI h (b + 113) j = nI (psN B n j)) → ∃ h' m, f_Reader_scan_4 N (b + 102) (nI c) (nI q) h = some h' ∧ Sn LSC b h h' ∧ TkC h' b n B m ∧ gI h' (b + 102) 8 = nI 0 ∧ gI h' (b + 102) 9 = tkA B n 0 := by
  intro N
  induction N with
  | zero => intro h c q C hq hN; omega
  | succ N ih =>
    intro h c q C hq hN hc hs hi hj
    have hn := C.2.1
    obtain ⟨l1, l2, l3⟩ := C.len
    rw [f_Reader_scan_4, l1, bind_some']
    by_cases c0 : n ≤ q
    · rw [if_pos (by rw [nI_le' (by omega) (by omega)]; exact c0)]
      have hqn : q = n := by omega
      rw [hqn, skp_n] at hs
      obtain ⟨s, -, cn, -⟩ := C
      have K102 : gK h (b + 102) = (0, 4) := s.K 102 (by decide) rfl
      have K112 : gK h (b + 112) = (1, 401) := s.K 112 (by decide) rfl
      have K113 : gK h (b + 113) = (1, 401) := s.K 113 (by decide) rfl
      have R102_6 : gR h (b + 102) 6 = some (b + 112) := s.R 102 6 rfl
      have R102_7 : gR h (b + 102) 7 = some (b + 113) := s.R 102 7 rfl
      have hcc : c ≤ n := by omega
      obtain ⟨h1, e1⟩ : ∃ h1, h1 = sI (sI h (b + 112) c (-1)) (b + 113) c (nI n) := ⟨_, rfl⟩
      obtain ⟨h2, e2⟩ : ∃ h2, h2 = sI (sI h1 (b + 102) 8 (nI 0)) (b + 102) 9 (gI h1 (b + 112) 0) := ⟨_, rfl⟩
      have hv : ∀ j, j ≤ c → gI h2 (b + 112) j = tkA B n j ∧ gI h2 (b + 113) j = nI (psN B n j) := by
        intro j hjc
        have z1 : gI h2 (b + 112) j = if j = c then -1 else gI h (b + 112) j := by
          rw [e2, e1]
          by_cases z : j = c
          · rw [if_pos z]; simp (disch := omega) only [gI_q, gI_n1, gI_n2]
          · rw [if_neg z]; simp (disch := omega) only [gI_q, gI_n1, gI_n2]
        have z2 : gI h2 (b + 113) j = if j = c then nI n else gI h (b + 113) j := by
          rw [e2, e1]
          by_cases z : j = c
          · rw [if_pos z]; simp (disch := omega) only [gI_q, gI_n1, gI_n2]
          · rw [if_neg z]; simp (disch := omega) only [gI_q, gI_n1, gI_n2]
        rw [z1, z2]
        by_cases z : j = c
        · rw [if_pos z, if_pos z, z, ← hs]
          refine ⟨?_, rfl⟩
          unfold tkA
          rw [← hs, if_neg (by omega)]
        · rw [if_neg z, if_neg z]
          exact hj j (by omega)
      have h10 : gI h1 (b + 112) 0 = gI h2 (b + 112) 0 := by rw [e2]; simp (disch := omega) only [gI_q, gI_n1, gI_n2]
      refine ⟨h2, c, ?_, ?_, ⟨hcc, hs.symm, hi, hv⟩, ?_, ?_⟩
      · unfold f_Reader_scan_163
        simp (disch := omega) [↓ob_eq, ob_so, ldI, ldR, ldO, stI, stZ, stR, isO, wrA_n, rdA_n, wrA_l, rdA_l, gK_sI, gR_sI, gX_sI, gN_sI, gK_cp, gR_cp, gX_cp, gN_cp, rtZ_0, rtZ_1, if_true, reduceIte, and_self, true_and, and_true, K102, K112, K113, R102_6, R102_7, cn, gI_q, gI_n1, gI_n2, e2, e1, show c < 401 by omega]
        rfl
      · rw [e2, e1]
        exact (((Sn.rf.put 112 c _ (inL_in (lo := 0) (hi := 401) (by decide) (by omega) (by omega))).put 113 c _ (inL_in (lo := 0) (hi := 401) (by decide) (by omega) (by omega))).put 102 8 _ (by decide)).put 102 9 _ (by decide)
      · rw [e2]; simp (disch := omega) only [gI_q, gI_n1, gI_n2]
      · rw [e2]; rw [gI_q rfl rfl, h10]; exact (hv 0 (by omega)).1
    · rw [if_neg (by rw [nI_le' (by omega) (by omega)]; exact c0), if_neg (by
        have : (400 ≤ nI c) ↔ 400 ≤ c := L_len (n := 400) (by omega) (by decide)
        rw [this]; omega), l2, bind_some', C.rd (by omega), bind_some']
      have hb := (C.2.2.2 q (by omega)).1
      have w1 : nI (B q) = 32 ↔ B q = 32 := nI_eqL (n := 32) (by omega) (by decide)
      have w2 : nI (B q) = 10 ↔ B q = 10 := nI_eqL (n := 10) (by omega) (by decide)
      have blank : txW (B q) = true → ∃ h' m, f_Reader_scan_4 N (b + 102) (nI c) (nI q + 1) h = some h' ∧ Sn LSC b h h' ∧ TkC h' b n B m ∧ gI h' (b + 102) 8 = nI 0 ∧ gI h' (b + 102) 9 = tkA B n 0 := by
        intro hw
        rw [nI_s]
        exact ih h c (q + 1) C (by omega) (by omega) (by omega) (by rw [← skp_s (by omega) hw]; exact hs) hi hj
      by_cases c1 : B q = 32
      · rw [if_pos (w1.mpr c1)]
        exact blank (by unfold txW; rw [c1]; rfl)
      · rw [if_neg (fun z => c1 (w1.mp z))]
        by_cases c2 : B q = 10
        · rw [if_pos (w2.mpr c2)]
          exact blank (by unfold txW; rw [c2]; rfl)
        · rw [if_neg (fun z => c2 (w2.mp z)), cl_isL hb, bind_some', cl_isD hb, bind_some']
          have hw : txW (B q) = false := by unfold txW; simp; exact ⟨c1, c2⟩
          have hp : psN B n c = q := by rw [← hs, skp_id hw]
          have hqn : q < n := by omega
          have te := tkE_le (B := B) hqn
          have z := sc_55 C (k4 := fun a0 x1 x2 h => f_Reader_scan_4 N a0 x1 x2 h) (c := c) (p := q) (n - (q + 1)) FU (q + 1) (by omega) (by rw [FU_eq]; omega)
          rw [tkE_P, sc_106 C hqn (by omega)] at z
          rw [nI_s]
          show ∃ h' m, f_Reader_scan_55 (fun a0 x1 x2 h => f_Reader_scan_4 N a0 x1 x2 h) FU (b + 102) (nI c) (nI q) (nI (B q)) (nI (q + 1)) (bI (txL (B q))) (bI (txD (B q))) h = some h' ∧ _
          rw [z]
          obtain ⟨h1, e1⟩ : ∃ h1, h1 = sI (sI h (b + 112) c (tkV B n q)) (b + 113) c (nI q) := ⟨_, rfl⟩
          rw [← e1]
          have t1 : Sn LSC b h h1 := by
            rw [e1]
            exact (Sn.rf.put 112 c _ (inL_in (lo := 0) (hi := 401) (by decide) (by omega) (by omega))).put 113 c _ (inL_in (lo := 0) (hi := 401) (by decide) (by omega) (by omega))
          have hpq : psN B n c < n := by rw [hp]; exact hqn
          obtain ⟨h', m, g1, g2, g3⟩ := ih h1 (c + 1) (tkE B n q) (C.sn t1 (by decide)) te.2 (by omega) (by omega) (by rw [(ps_s hpq).1, hp]) (fun i hic => by
              by_cases y : i = c
              · rw [y]; exact hpq
              · exact hi i (by omega)) (fun j hjc => by
              have z1 : gI h1 (b + 112) j = if j = c then tkV B n q else gI h (b + 112) j := by
                rw [e1]
                by_cases y : j = c
                · rw [if_pos y]; simp (disch := omega) only [gI_q, gI_n1, gI_n2]
                · rw [if_neg y]; simp (disch := omega) only [gI_q, gI_n1, gI_n2]
              have z2 : gI h1 (b + 113) j = if j = c then nI q else gI h (b + 113) j := by
                rw [e1]
                by_cases y : j = c
                · rw [if_pos y]; simp (disch := omega) only [gI_q, gI_n1, gI_n2]
                · rw [if_neg y]; simp (disch := omega) only [gI_q, gI_n1, gI_n2]
              rw [z1, z2]
              by_cases y : j = c
              · rw [if_pos y, if_pos y, y, hp]
                refine ⟨?_, rfl⟩
                unfold tkA
                rw [hp, if_pos hqn]
              · rw [if_neg y, if_neg y]
                exact hj j (by omega))
          exact ⟨h', m, g1, t1.tr g2, g3⟩
theorem cl_scan {h : PH} {b n : Nat} {B : Nat → Nat} (C : XRC h b n B) : ∃ h' m, f_Reader_scan (b + 102) h = some h' ∧ Sn LSC b h h' ∧ TkC h' b n B m ∧ gI h' (b + 102) 8 = nI 0 ∧ gI h' (b + 102) 9 = tkA B n 0 := by
  have := C.2.1
  exact sc_4 FU h 0 0 C (by omega) (by rw [FU_eq]; omega) (by omega) rfl (fun i hi => by omega) (fun j hj => by omega)
