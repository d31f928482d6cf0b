/-! ===== the reference's image ===== -/
/-- which cell slot q of the image holds -/
def mM (q : Nat) : Nat × Nat :=
  if q < 79 then (132, q)
  else if q < 92 then (131, [6, 7, 36, 38, 40, 44, 48, 52, 55, 56, 63, 68, 69].getD (q - 79) 0)
  else if q < 140 then ([135, 136, 150, 169].getD ((q - 92) % 4) 0, (q - 92) / 4)
  else if q < 170 then ([137, 138, 158, 164, 165].getD ((q - 140) % 5) 0, (q - 140) / 5)
  else if q < 202 then ([155, 156, 157, 161].getD ((q - 170) % 4) 0, (q - 170) / 4)
  else if q < 212 then (163, q - 202)
  else if q < 260 then ([168, 172].getD ((q - 212) % 2) 0, (q - 212) / 2)
  else if q < 324 then (151, q - 260)
  else if q < 388 then (152, q - 324)
  else if q < 988 then (139, q - 388)
  else if q < 989 then (142, q - 988)
  else if q < 1053 then ([143, 144, 145, 146].getD ((q - 989) % 4) 0, (q - 989) / 4)
  else ([147, 148].getD ((q - 1053) % 2) 0, (q - 1053) / 2)
def sMl : List (Nat × Nat × Nat) := [(132, 0, 1), (135, 92, 4), (136, 93, 4), (150, 94, 4), (169, 95, 4), (137, 140, 5), (138, 141, 5), (158, 142, 5), (164, 143, 5), (165, 144, 5), (155, 170, 4), (156, 171, 4), (157, 172, 4), (161, 173, 4), (163, 202, 1), (168, 212, 2), (172, 213, 2), (151, 260, 1), (152, 324, 1), (139, 388, 1), (142, 988, 1), (143, 989, 4), (144, 990, 4), (145, 991, 4), (146, 992, 4), (147, 1053, 2), (148, 1054, 2)]
def sM (o j : Nat) : Nat := if o = 131 then 79 + [6, 7, 36, 38, 40, 44, 48, 52, 55, 56, 63, 68, 69].idxOf j else ((sMl.find? (fun p => p.1 == o)).map (fun p => p.2.1 + p.2.2 * j)).getD 0
set_option maxRecDepth 100000 in
theorem sM_all : ∀ q : Fin 1853, sM (mM q.val).1 (mM q.val).2 = q.val ∧ (mM q.val).1 ≠ 173 ∧ mM q.val ≠ (131, 72) ∧ mM q.val ≠ (131, 70) := by decide +kernel
theorem mM_inj {p q : Nat} (hp : p < 1853) (hq : q < 1853) (e : mM p = mM q) : p = q := by
  have h1 : sM (mM p).1 (mM p).2 = p := (sM_all ⟨p, hp⟩).1
  have h2 : sM (mM q).1 (mM q).2 = q := (sM_all ⟨q, hq⟩).1
  rw [← h1, ← h2, e]
theorem mM_ok {q : Nat} (hq : q < 1853) : (mM q).1 ≠ 173 ∧ mM q ≠ (131, 72) ∧ mM q ≠ (131, 70) := (sM_all ⟨q, hq⟩).2
/-- p slots are done: taken into the image, or given back -/
def KS (tz : Bool) (b : Nat) (h s : PH) (p : Nat) : Prop := gK s = gK h ∧ gR s = gR h ∧ gN s = gN h ∧ gX s = gX h ∧ gI s (b + 131) 72 = nI p ∧ gI s (b + 131) 70 = bI tz ∧ (tz = true → (∀ q, q < p → gI s (b + 173) q = gI h (b + (mM q).1) (mM q).2) ∧ ∀ o j, (o ≠ 173 ∨ p ≤ j) → ¬ (o = 131 ∧ j = 72) → gI s (b + o) j = gI h (b + o) j) ∧ (tz = false → (∀ q, q < p → gI s (b + (mM q).1) (mM q).2 = gI h (b + 173) q) ∧ ∀ o j, ¬ (o = 131 ∧ j = 72) → (∀ q, q < p → mM q ≠ (o, j)) → gI s (b + o) j = gI h (b + o) j)
theorem KS.shp {tz : Bool} {b p : Nat} {h s : PH} (S : KS tz b h s p) (sh : Shp h b) : Shp s b := ⟨fun o ho => by rw [S.1]; exact sh.1 o ho, fun o k q e => by rw [S.2.1]; exact sh.2 o k q e⟩
def kpH (tz : Bool) (b : Nat) (s : PH) (o j p : Nat) : PH := if tz = true then sI (sI (sI s (b + 131) 72 (nI (p + 1))) (b + 173) p (gI s (b + o) j)) (b + o) j (gI s (b + o) j) else sI (sI s (b + 131) 72 (nI (p + 1))) (b + o) j (gI s (b + 173) p)
theorem KS.next {tz : Bool} {b p o j : Nat} {h s : PH} (S : KS tz b h s p) (hp : p < 1853) (hM : mM p = (o, j)) : KS tz b h (kpH tz b s o j p) (p + 1) := by
  obtain ⟨o1, o2, o3⟩ := mM_ok hp
  rw [hM] at o1 o2 o3
  have o1 : o ≠ 173 := o1
  have o2 : ¬ (o = 131 ∧ j = 72) := fun z => o2 (by rw [z.1, z.2])
  have o3 : ¬ (o = 131 ∧ j = 70) := fun z => o3 (by rw [z.1, z.2])
  obtain ⟨s1, s2, s3, s4, s5, s6, s7, s8⟩ := S
  cases tz with
  | true =>
    have e : kpH true b s o j p = sI (sI (sI s (b + 131) 72 (nI (p + 1))) (b + 173) p (gI s (b + o) j)) (b + o) j (gI s (b + o) j) := rfl
    rw [e]
    obtain ⟨f1, f2⟩ := s7 rfl
    have v : gI s (b + o) j = gI h (b + o) j := f2 o j (Or.inl o1) o2
    refine ⟨s1, s2, s3, s4, ?_, ?_, fun _ => ⟨fun q hq => ?_, fun o' j' h1 h2 => ?_⟩, fun z => by cases z⟩
    · rw [gI_sI, if_neg (fun z => o2 ⟨by omega, z.2.symm⟩), gI_n1 (by omega), gI_q rfl rfl]
    · rw [gI_sI, if_neg (fun z => o3 ⟨by omega, z.2.symm⟩), gI_n1 (by omega), gI_n2 (by omega)]; exact s6
    · rw [gI_n1 (by omega)]
      by_cases z : q = p
      · rw [gI_q rfl z, v, z, hM]
      · rw [gI_n2 z, gI_n1 (by omega)]; exact f1 q (by omega)
    · rw [gI_sI]
      by_cases z : b + o' = b + o ∧ j' = j
      · rw [if_pos z, v, show o' = o by omega, z.2]
      · rw [if_neg z, gI_sI, if_neg (by omega), gI_sI, if_neg (fun y => h2 ⟨by omega, y.2⟩)]
        exact f2 o' j' (by omega) h2
  | false =>
    have e : kpH false b s o j p = sI (sI s (b + 131) 72 (nI (p + 1))) (b + o) j (gI s (b + 173) p) := rfl
    rw [e]
    obtain ⟨f1, f2⟩ := s8 rfl
    have v : gI s (b + 173) p = gI h (b + 173) p := f2 173 p (by omega) (fun q hq z => (mM_ok (show q < 1853 by omega)).1 (by rw [z]))
    refine ⟨s1, s2, s3, s4, ?_, ?_, fun z => (by cases z), fun _ => ⟨fun q hq => ?_, fun o' j' h1 h2 => ?_⟩⟩
    · rw [gI_sI, if_neg (fun z => o2 ⟨by omega, z.2.symm⟩), gI_q rfl rfl]
    · rw [gI_sI, if_neg (fun z => o3 ⟨by omega, z.2.symm⟩), gI_n2 (by omega)]; exact s6
    · by_cases z : q = p
      · rw [z, hM, gI_q rfl rfl, v]
      · have hq' : q < 1853 := by omega
        obtain ⟨-, p2, -⟩ := mM_ok hq'
        rw [gI_sI, if_neg (fun y => z (mM_inj hq' hp (by rw [hM]; exact Prod.ext (by show (mM q).1 = o; omega) y.2))), gI_sI, if_neg (fun y => p2 (Prod.ext (by show (mM q).1 = 131; omega) y.2))]
        exact f1 q (by omega)
    · rw [gI_sI, if_neg (fun y => h2 p (by omega) (by rw [hM, show o = o' by omega, y.2])), gI_sI, if_neg (fun y => h1 ⟨by omega, y.2⟩)]
      exact f2 o' j' h1 (fun q hq => h2 q (by omega))
section KEEPS
variable {tz : Bool} {b p : Nat} {h s : PH}
theorem mo_kept (S : KS tz b h s p) (sh : Shp h b) (hp : p < 1853) (x : Int32) : f_Mo_keeps (b + 131) x s = if tz = true then some (x, sI (sI s (b + 131) 72 (nI (p + 1))) (b + 173) p x) else some (gI s (b + 173) p, sI s (b + 131) 72 (nI (p + 1))) := by
  have sp := S.shp sh
  have K : gK s (b + 131) = (0, 9) := sp.K 131 (by decide) rfl
  have K1 : gK (sI s (b + 131) 72 (nI (p + 1))) (b + 131) = (0, 9) := K
  have K7 : gK (sI s (b + 131) 72 (nI (p + 1))) (b + 173) = (1, 2100) := sp.K 173 (by decide) rfl
  have r7 : gR (sI s (b + 131) 72 (nI (p + 1))) (b + 131) 73 = some (b + 173) := sp.R 131 73 rfl
  have z7 : gI (sI s (b + 131) 72 (nI (p + 1))) (b + 131) 70 = bI tz := by rw [gI_n2 (by omega)]; exact S.2.2.2.2.2.1
  have zs : nI (p + 1) - 1 = nI p := nI_subL (n := 1) _ (by show 1 ≤ _; omega)
  unfold f_Mo_keeps
  rw [ldI_y K, bind_some', S.2.2.2.2.1, nI_s, stI_y K, bind_some', ldI_y K1, bind_some', z7]
  cases tz with
  | true =>
    rw [if_neg (show ¬ bI true = 0 by decide), if_pos rfl, ldR_y K1 r7, bind_some', ldI_y K1, bind_some', gI_q rfl rfl, zs, wrA_n (by omega), K7, if_pos ⟨rfl, by show p < 2100; omega⟩, bind_some']
  | false =>
    rw [if_pos (show bI false = 0 from rfl), if_neg (show ¬ (false = true) by decide), ldR_y K1 r7, bind_some', ldI_y K1, bind_some', gI_q rfl rfl, zs, rdA_n (by omega), K7, if_pos ⟨rfl, by show p < 2100; omega⟩, bind_some', gI_n1 (by omega)]
theorem kp_arr (S : KS tz b h s p) (sh : Shp h b) (hp : p < 1853) {o j m : Nat} (hM : mM p = (o, j)) (K : gK s (b + o) = (1, m)) (hj : j < m) (hm : m ≤ 1200) {X : Type} (F : PH → Option X) : ((rdA s (b + o) (nI j)).bind fun v3 => (isO s 9 (b + 131)).bind fun _ => (f_Mo_keeps (b + 131) v3 s).bind fun p4 => (wrA p4.2 (b + o) (nI j) p4.1).bind F) = F (kpH tz b s o j p) := by
  have sp := S.shp sh
  have K1 : gK s (b + 131) = (0, 9) := sp.K 131 (by decide) rfl
  rw [rd_at K hj hm rfl, bind_some', isO_y K1, bind_some', mo_kept S sh hp]
  cases tz with
  | true =>
    rw [if_pos rfl, bind_some']
    dsimp only
    rw [wr_at (h := sI (sI s (b + 131) 72 (nI (p + 1))) (b + 173) p (gI s (b + o) j)) K hj hm, bind_some']
    rfl
  | false =>
    rw [if_neg (show ¬ (false = true) by decide), bind_some']
    dsimp only
    rw [wr_at (h := sI s (b + 131) 72 (nI (p + 1))) K hj hm, bind_some']
    rfl
theorem kp_fld (S : KS tz b h s p) (sh : Shp h b) (hp : p < 1853) {j : Nat} (hM : mM p = (131, j)) {X : Type} (F : PH → Option X) : ((ldI s 9 (b + 131) j).bind fun v1 => (isO s 9 (b + 131)).bind fun _ => (f_Mo_keeps (b + 131) v1 s).bind fun p2 => (stI p2.2 9 (b + 131) j p2.1).bind F) = F (kpH tz b s 131 j p) := by
  have sp := S.shp sh
  have K1 : gK s (b + 131) = (0, 9) := sp.K 131 (by decide) rfl
  rw [ldI_y K1, bind_some', isO_y K1, bind_some', mo_kept S sh hp]
  cases tz with
  | true =>
    rw [if_pos rfl, bind_some']
    dsimp only
    rw [stI_y (h := sI (sI s (b + 131) 72 (nI (p + 1))) (b + 173) p (gI s (b + 131) j)) K1, bind_some']
    rfl
  | false =>
    rw [if_neg (show ¬ (false = true) by decide), bind_some']
    dsimp only
    rw [stI_y (h := sI s (b + 131) 72 (nI (p + 1))) K1, bind_some']
    rfl
end KEEPS

theorem ks_keepsTold_358 {tz : Bool} {b : Nat} {h : PH} (sh : Shp h b) : ∀ (d N : Nat) (s : PH) (k : Nat), KS tz b h s (324 + 1 * k) → k + d = 64 → d < N → ∃ s', f_Mo_keepsTold_358 N (b + 131) (nI k) s = some s' ∧ KS tz b h s' 388 := by
  intro d
  induction d with
  | zero =>
    intro N s k S hk hN
    obtain ⟨M, rfl⟩ : ∃ M, N = M + 1 := ⟨N - 1, by omega⟩
    have z : (64 : Int32) ≤ nI k ↔ 64 ≤ k := L_len (n := 64) (by omega) (by decide)
    rw [f_Mo_keepsTold_358, if_pos (by rw [z]; omega)]
    exact ⟨s, rfl, by rw [show k = 64 by omega] at S; exact S⟩
  | succ d ih =>
    intro N s k S hk hN
    obtain ⟨M, rfl⟩ : ∃ M, N = M + 1 := ⟨N - 1, by omega⟩
    have z : (64 : Int32) ≤ nI k ↔ 64 ≤ k := L_len (n := 64) (by omega) (by decide)
    rw [f_Mo_keepsTold_358, if_neg (by rw [z]; omega)]
    have sp0 := S.shp sh
    have m0 : mM (324 + 1 * k + 0) = (152, k) := by unfold mM; rw [if_neg (by omega), if_neg (by omega), if_neg (by omega), if_neg (by omega), if_neg (by omega), if_neg (by omega), if_neg (by omega), if_neg (by omega), if_pos (by omega), show 324 + 1 * k + 0 - 324 = k by omega]
    have S0 : KS tz b h s (324 + 1 * k + 0) := S
    rw [ldR_y (sp0.K 131 (by decide) rfl) (sp0.R 131 41 rfl), bind_some', bind_some', kp_arr S0 sh (by omega) m0 (sp0.K 152 (by decide) rfl) (by omega) (by omega)]
    have T0 := S0.next (by omega) m0
    generalize kpH tz b s 152 k (324 + 1 * k + 0) = s1 at T0 ⊢
    rw [nI_s]
    exact ih M s1 (k + 1) (by rw [show 324 + 1 * (k + 1) = 324 + 1 * k + 0 + 1 by omega]; exact T0) (by omega) (by omega)
theorem ks_keepsTold_328 {tz : Bool} {b : Nat} {h : PH} (sh : Shp h b) : ∀ (d N : Nat) (s : PH) (k : Nat), KS tz b h s (260 + 1 * k) → k + d = 64 → d < N → ∃ s', f_Mo_keepsTold_328 N (b + 131) (nI k) s = f_Mo_keepsTold_358 FU (b + 131) 0 s' ∧ KS tz b h s' 324 := by
  intro d
  induction d with
  | zero =>
    intro N s k S hk hN
    obtain ⟨M, rfl⟩ : ∃ M, N = M + 1 := ⟨N - 1, by omega⟩
    have z : (64 : Int32) ≤ nI k ↔ 64 ≤ k := L_len (n := 64) (by omega) (by decide)
    rw [f_Mo_keepsTold_328, if_pos (by rw [z]; omega)]
    exact ⟨s, rfl, by rw [show k = 64 by omega] at S; exact S⟩
  | succ d ih =>
    intro N s k S hk hN
    obtain ⟨M, rfl⟩ : ∃ M, N = M + 1 := ⟨N - 1, by omega⟩
    have z : (64 : Int32) ≤ nI k ↔ 64 ≤ k := L_len (n := 64) (by omega) (by decide)
    rw [f_Mo_keepsTold_328, if_neg (by rw [z]; omega)]
    have sp0 := S.shp sh
    have m0 : mM (260 + 1 * k + 0) = (151, k) := by unfold mM; rw [if_neg (by omega), if_neg (by omega), if_neg (by omega), if_neg (by omega), if_neg (by omega), if_neg (by omega), if_neg (by omega), if_pos (by omega), show 260 + 1 * k + 0 - 260 = k by omega]
    have S0 : KS tz b h s (260 + 1 * k + 0) := S
    rw [ldR_y (sp0.K 131 (by decide) rfl) (sp0.R 131 39 rfl), bind_some', bind_some', kp_arr S0 sh (by omega) m0 (sp0.K 151 (by decide) rfl) (by omega) (by omega)]
    have T0 := S0.next (by omega) m0
    generalize kpH tz b s 151 k (260 + 1 * k + 0) = s1 at T0 ⊢
    rw [nI_s]
    exact ih M s1 (k + 1) (by rw [show 260 + 1 * (k + 1) = 260 + 1 * k + 0 + 1 by omega]; exact T0) (by omega) (by omega)
theorem ks_keepsTold_282 {tz : Bool} {b : Nat} {h : PH} (sh : Shp h b) : ∀ (d N : Nat) (s : PH) (k : Nat), KS tz b h s (212 + 2 * k) → k + d = 24 → d < N → ∃ s', f_Mo_keepsTold_282 N (b + 131) (nI k) s = f_Mo_keepsTold_328 FU (b + 131) 0 s' ∧ KS tz b h s' 260 := by
  intro d
  induction d with
  | zero =>
    intro N s k S hk hN
    obtain ⟨M, rfl⟩ : ∃ M, N = M + 1 := ⟨N - 1, by omega⟩
    have z : (24 : Int32) ≤ nI k ↔ 24 ≤ k := L_len (n := 24) (by omega) (by decide)
    rw [f_Mo_keepsTold_282, if_pos (by rw [z]; omega)]
    exact ⟨s, rfl, by rw [show k = 24 by omega] at S; exact S⟩
  | succ d ih =>
    intro N s k S hk hN
    obtain ⟨M, rfl⟩ : ∃ M, N = M + 1 := ⟨N - 1, by omega⟩
    have z : (24 : Int32) ≤ nI k ↔ 24 ≤ k := L_len (n := 24) (by omega) (by decide)
    rw [f_Mo_keepsTold_282, if_neg (by rw [z]; omega)]
    have sp0 := S.shp sh
    have m0 : mM (212 + 2 * k + 0) = (168, k) := by unfold mM; rw [if_neg (by omega), if_neg (by omega), if_neg (by omega), if_neg (by omega), if_neg (by omega), if_neg (by omega), if_pos (by omega), show (212 + 2 * k + 0 - 212) % 2 = 0 by omega, show (212 + 2 * k + 0 - 212) / 2 = k by omega]; rfl
    have S0 : KS tz b h s (212 + 2 * k + 0) := S
    rw [ldR_y (sp0.K 131 (by decide) rfl) (sp0.R 131 62 rfl), bind_some', bind_some', kp_arr S0 sh (by omega) m0 (sp0.K 168 (by decide) rfl) (by omega) (by omega)]
    have T0 := S0.next (by omega) m0
    generalize kpH tz b s 168 k (212 + 2 * k + 0) = s1 at T0 ⊢
    have sp1 := T0.shp sh
    have m1 : mM (212 + 2 * k + 1) = (172, k) := by unfold mM; rw [if_neg (by omega), if_neg (by omega), if_neg (by omega), if_neg (by omega), if_neg (by omega), if_neg (by omega), if_pos (by omega), show (212 + 2 * k + 1 - 212) % 2 = 1 by omega, show (212 + 2 * k + 1 - 212) / 2 = k by omega]; rfl
    have S1 : KS tz b h s1 (212 + 2 * k + 1) := T0
    rw [ldR_y (sp1.K 131 (by decide) rfl) (sp1.R 131 67 rfl), bind_some', bind_some', kp_arr S1 sh (by omega) m1 (sp1.K 172 (by decide) rfl) (by omega) (by omega)]
    have T1 := S1.next (by omega) m1
    generalize kpH tz b s1 172 k (212 + 2 * k + 1) = s2 at T1 ⊢
    rw [nI_s]
    exact ih M s2 (k + 1) (by rw [show 212 + 2 * (k + 1) = 212 + 2 * k + 1 + 1 by omega]; exact T1) (by omega) (by omega)
theorem ks_keepsTold_252 {tz : Bool} {b : Nat} {h : PH} (sh : Shp h b) : ∀ (d N : Nat) (s : PH) (k : Nat), KS tz b h s (202 + 1 * k) → k + d = 10 → d < N → ∃ s', f_Mo_keepsTold_252 N (b + 131) (nI k) s = f_Mo_keepsTold_282 FU (b + 131) 0 s' ∧ KS tz b h s' 212 := by
  intro d
  induction d with
  | zero =>
    intro N s k S hk hN
    obtain ⟨M, rfl⟩ : ∃ M, N = M + 1 := ⟨N - 1, by omega⟩
    have z : (10 : Int32) ≤ nI k ↔ 10 ≤ k := L_len (n := 10) (by omega) (by decide)
    rw [f_Mo_keepsTold_252, if_pos (by rw [z]; omega)]
    exact ⟨s, rfl, by rw [show k = 10 by omega] at S; exact S⟩
  | succ d ih =>
    intro N s k S hk hN
    obtain ⟨M, rfl⟩ : ∃ M, N = M + 1 := ⟨N - 1, by omega⟩
    have z : (10 : Int32) ≤ nI k ↔ 10 ≤ k := L_len (n := 10) (by omega) (by decide)
    rw [f_Mo_keepsTold_252, if_neg (by rw [z]; omega)]
    have sp0 := S.shp sh
    have m0 : mM (202 + 1 * k + 0) = (163, k) := by unfold mM; rw [if_neg (by omega), if_neg (by omega), if_neg (by omega), if_neg (by omega), if_neg (by omega), if_pos (by omega), show 202 + 1 * k + 0 - 202 = k by omega]
    have S0 : KS tz b h s (202 + 1 * k + 0) := S
    rw [ldR_y (sp0.K 131 (by decide) rfl) (sp0.R 131 57 rfl), bind_some', bind_some', kp_arr S0 sh (by omega) m0 (sp0.K 163 (by decide) rfl) (by omega) (by omega)]
    have T0 := S0.next (by omega) m0
    generalize kpH tz b s 163 k (202 + 1 * k + 0) = s1 at T0 ⊢
    rw [nI_s]
    exact ih M s1 (k + 1) (by rw [show 202 + 1 * (k + 1) = 202 + 1 * k + 0 + 1 by omega]; exact T0) (by omega) (by omega)
theorem ks_keepsTold_174 {tz : Bool} {b : Nat} {h : PH} (sh : Shp h b) : ∀ (d N : Nat) (s : PH) (k : Nat), KS tz b h s (170 + 4 * k) → k + d = 8 → d < N → ∃ s', f_Mo_keepsTold_174 N (b + 131) (nI k) s = f_Mo_keepsTold_252 FU (b + 131) 0 s' ∧ KS tz b h s' 202 := by
  intro d
  induction d with
  | zero =>
    intro N s k S hk hN
    obtain ⟨M, rfl⟩ : ∃ M, N = M + 1 := ⟨N - 1, by omega⟩
    have z : (8 : Int32) ≤ nI k ↔ 8 ≤ k := L_len (n := 8) (by omega) (by decide)
    rw [f_Mo_keepsTold_174, if_pos (by rw [z]; omega)]
    exact ⟨s, rfl, by rw [show k = 8 by omega] at S; exact S⟩
  | succ d ih =>
    intro N s k S hk hN
    obtain ⟨M, rfl⟩ : ∃ M, N = M + 1 := ⟨N - 1, by omega⟩
    have z : (8 : Int32) ≤ nI k ↔ 8 ≤ k := L_len (n := 8) (by omega) (by decide)
    rw [f_Mo_keepsTold_174, if_neg (by rw [z]; omega)]
    have sp0 := S.shp sh
    have m0 : mM (170 + 4 * k + 0) = (155, k) := by unfold mM; rw [if_neg (by omega), if_neg (by omega), if_neg (by omega), if_neg (by omega), if_pos (by omega), show (170 + 4 * k + 0 - 170) % 4 = 0 by omega, show (170 + 4 * k + 0 - 170) / 4 = k by omega]; rfl
    have S0 : KS tz b h s (170 + 4 * k + 0) := S
    rw [ldR_y (sp0.K 131 (by decide) rfl) (sp0.R 131 45 rfl), bind_some', bind_some', kp_arr S0 sh (by omega) m0 (sp0.K 155 (by decide) rfl) (by omega) (by omega)]
    have T0 := S0.next (by omega) m0
    generalize kpH tz b s 155 k (170 + 4 * k + 0) = s1 at T0 ⊢
    have sp1 := T0.shp sh
    have m1 : mM (170 + 4 * k + 1) = (156, k) := by unfold mM; rw [if_neg (by omega), if_neg (by omega), if_neg (by omega), if_neg (by omega), if_pos (by omega), show (170 + 4 * k + 1 - 170) % 4 = 1 by omega, show (170 + 4 * k + 1 - 170) / 4 = k by omega]; rfl
    have S1 : KS tz b h s1 (170 + 4 * k + 1) := T0
    rw [ldR_y (sp1.K 131 (by decide) rfl) (sp1.R 131 46 rfl), bind_some', bind_some', kp_arr S1 sh (by omega) m1 (sp1.K 156 (by decide) rfl) (by omega) (by omega)]
    have T1 := S1.next (by omega) m1
    generalize kpH tz b s1 156 k (170 + 4 * k + 1) = s2 at T1 ⊢
    have sp2 := T1.shp sh
    have m2 : mM (170 + 4 * k + 2) = (157, k) := by unfold mM; rw [if_neg (by omega), if_neg (by omega), if_neg (by omega), if_neg (by omega), if_pos (by omega), show (170 + 4 * k + 2 - 170) % 4 = 2 by omega, show (170 + 4 * k + 2 - 170) / 4 = k by omega]; rfl
    have S2 : KS tz b h s2 (170 + 4 * k + 2) := T1
    rw [ldR_y (sp2.K 131 (by decide) rfl) (sp2.R 131 47 rfl), bind_some', bind_some', kp_arr S2 sh (by omega) m2 (sp2.K 157 (by decide) rfl) (by omega) (by omega)]
    have T2 := S2.next (by omega) m2
    generalize kpH tz b s2 157 k (170 + 4 * k + 2) = s3 at T2 ⊢
    have sp3 := T2.shp sh
    have m3 : mM (170 + 4 * k + 3) = (161, k) := by unfold mM; rw [if_neg (by omega), if_neg (by omega), if_neg (by omega), if_neg (by omega), if_pos (by omega), show (170 + 4 * k + 3 - 170) % 4 = 3 by omega, show (170 + 4 * k + 3 - 170) / 4 = k by omega]; rfl
    have S3 : KS tz b h s3 (170 + 4 * k + 3) := T2
    rw [ldR_y (sp3.K 131 (by decide) rfl) (sp3.R 131 53 rfl), bind_some', bind_some', kp_arr S3 sh (by omega) m3 (sp3.K 161 (by decide) rfl) (by omega) (by omega)]
    have T3 := S3.next (by omega) m3
    generalize kpH tz b s3 161 k (170 + 4 * k + 3) = s4 at T3 ⊢
    rw [nI_s]
    exact ih M s4 (k + 1) (by rw [show 170 + 4 * (k + 1) = 170 + 4 * k + 3 + 1 by omega]; exact T3) (by omega) (by omega)
theorem ks_keepsTold_80 {tz : Bool} {b : Nat} {h : PH} (sh : Shp h b) : ∀ (d N : Nat) (s : PH) (k : Nat), KS tz b h s (140 + 5 * k) → k + d = 6 → d < N → ∃ s', f_Mo_keepsTold_80 N (b + 131) (nI k) s = f_Mo_keepsTold_174 FU (b + 131) 0 s' ∧ KS tz b h s' 170 := by
  intro d
  induction d with
  | zero =>
    intro N s k S hk hN
    obtain ⟨M, rfl⟩ : ∃ M, N = M + 1 := ⟨N - 1, by omega⟩
    have z : (6 : Int32) ≤ nI k ↔ 6 ≤ k := L_len (n := 6) (by omega) (by decide)
    rw [f_Mo_keepsTold_80, if_pos (by rw [z]; omega)]
    exact ⟨s, rfl, by rw [show k = 6 by omega] at S; exact S⟩
  | succ d ih =>
    intro N s k S hk hN
    obtain ⟨M, rfl⟩ : ∃ M, N = M + 1 := ⟨N - 1, by omega⟩
    have z : (6 : Int32) ≤ nI k ↔ 6 ≤ k := L_len (n := 6) (by omega) (by decide)
    rw [f_Mo_keepsTold_80, if_neg (by rw [z]; omega)]
    have sp0 := S.shp sh
    have m0 : mM (140 + 5 * k + 0) = (137, k) := by unfold mM; rw [if_neg (by omega), if_neg (by omega), if_neg (by omega), if_pos (by omega), show (140 + 5 * k + 0 - 140) % 5 = 0 by omega, show (140 + 5 * k + 0 - 140) / 5 = k by omega]; rfl
    have S0 : KS tz b h s (140 + 5 * k + 0) := S
    rw [ldR_y (sp0.K 131 (by decide) rfl) (sp0.R 131 10 rfl), bind_some', bind_some', kp_arr S0 sh (by omega) m0 (sp0.K 137 (by decide) rfl) (by omega) (by omega)]
    have T0 := S0.next (by omega) m0
    generalize kpH tz b s 137 k (140 + 5 * k + 0) = s1 at T0 ⊢
    have sp1 := T0.shp sh
    have m1 : mM (140 + 5 * k + 1) = (138, k) := by unfold mM; rw [if_neg (by omega), if_neg (by omega), if_neg (by omega), if_pos (by omega), show (140 + 5 * k + 1 - 140) % 5 = 1 by omega, show (140 + 5 * k + 1 - 140) / 5 = k by omega]; rfl
    have S1 : KS tz b h s1 (140 + 5 * k + 1) := T0
    rw [ldR_y (sp1.K 131 (by decide) rfl) (sp1.R 131 11 rfl), bind_some', bind_some', kp_arr S1 sh (by omega) m1 (sp1.K 138 (by decide) rfl) (by omega) (by omega)]
    have T1 := S1.next (by omega) m1
    generalize kpH tz b s1 138 k (140 + 5 * k + 1) = s2 at T1 ⊢
    have sp2 := T1.shp sh
    have m2 : mM (140 + 5 * k + 2) = (158, k) := by unfold mM; rw [if_neg (by omega), if_neg (by omega), if_neg (by omega), if_pos (by omega), show (140 + 5 * k + 2 - 140) % 5 = 2 by omega, show (140 + 5 * k + 2 - 140) / 5 = k by omega]; rfl
    have S2 : KS tz b h s2 (140 + 5 * k + 2) := T1
    rw [ldR_y (sp2.K 131 (by decide) rfl) (sp2.R 131 49 rfl), bind_some', bind_some', kp_arr S2 sh (by omega) m2 (sp2.K 158 (by decide) rfl) (by omega) (by omega)]
    have T2 := S2.next (by omega) m2
    generalize kpH tz b s2 158 k (140 + 5 * k + 2) = s3 at T2 ⊢
    have sp3 := T2.shp sh
    have m3 : mM (140 + 5 * k + 3) = (164, k) := by unfold mM; rw [if_neg (by omega), if_neg (by omega), if_neg (by omega), if_pos (by omega), show (140 + 5 * k + 3 - 140) % 5 = 3 by omega, show (140 + 5 * k + 3 - 140) / 5 = k by omega]; rfl
    have S3 : KS tz b h s3 (140 + 5 * k + 3) := T2
    rw [ldR_y (sp3.K 131 (by decide) rfl) (sp3.R 131 58 rfl), bind_some', bind_some', kp_arr S3 sh (by omega) m3 (sp3.K 164 (by decide) rfl) (by omega) (by omega)]
    have T3 := S3.next (by omega) m3
    generalize kpH tz b s3 164 k (140 + 5 * k + 3) = s4 at T3 ⊢
    have sp4 := T3.shp sh
    have m4 : mM (140 + 5 * k + 4) = (165, k) := by unfold mM; rw [if_neg (by omega), if_neg (by omega), if_neg (by omega), if_pos (by omega), show (140 + 5 * k + 4 - 140) % 5 = 4 by omega, show (140 + 5 * k + 4 - 140) / 5 = k by omega]; rfl
    have S4 : KS tz b h s4 (140 + 5 * k + 4) := T3
    rw [ldR_y (sp4.K 131 (by decide) rfl) (sp4.R 131 59 rfl), bind_some', bind_some', kp_arr S4 sh (by omega) m4 (sp4.K 165 (by decide) rfl) (by omega) (by omega)]
    have T4 := S4.next (by omega) m4
    generalize kpH tz b s4 165 k (140 + 5 * k + 4) = s5 at T4 ⊢
    rw [nI_s]
    exact ih M s5 (k + 1) (by rw [show 140 + 5 * (k + 1) = 140 + 5 * k + 4 + 1 by omega]; exact T4) (by omega) (by omega)
theorem ks_keepsTold_2 {tz : Bool} {b : Nat} {h : PH} (sh : Shp h b) : ∀ (d N : Nat) (s : PH) (k : Nat), KS tz b h s (92 + 4 * k) → k + d = 12 → d < N → ∃ s', f_Mo_keepsTold_2 N (b + 131) (nI k) s = f_Mo_keepsTold_80 FU (b + 131) 0 s' ∧ KS tz b h s' 140 := by
  intro d
  induction d with
  | zero =>
    intro N s k S hk hN
    obtain ⟨M, rfl⟩ : ∃ M, N = M + 1 := ⟨N - 1, by omega⟩
    have z : (12 : Int32) ≤ nI k ↔ 12 ≤ k := L_len (n := 12) (by omega) (by decide)
    rw [f_Mo_keepsTold_2, if_pos (by rw [z]; omega)]
    exact ⟨s, rfl, by rw [show k = 12 by omega] at S; exact S⟩
  | succ d ih =>
    intro N s k S hk hN
    obtain ⟨M, rfl⟩ : ∃ M, N = M + 1 := ⟨N - 1, by omega⟩
    have z : (12 : Int32) ≤ nI k ↔ 12 ≤ k := L_len (n := 12) (by omega) (by decide)
    rw [f_Mo_keepsTold_2, if_neg (by rw [z]; omega)]
    have sp0 := S.shp sh
    have m0 : mM (92 + 4 * k + 0) = (135, k) := by unfold mM; rw [if_neg (by omega), if_neg (by omega), if_pos (by omega), show (92 + 4 * k + 0 - 92) % 4 = 0 by omega, show (92 + 4 * k + 0 - 92) / 4 = k by omega]; rfl
    have S0 : KS tz b h s (92 + 4 * k + 0) := S
    rw [ldR_y (sp0.K 131 (by decide) rfl) (sp0.R 131 8 rfl), bind_some', bind_some', kp_arr S0 sh (by omega) m0 (sp0.K 135 (by decide) rfl) (by omega) (by omega)]
    have T0 := S0.next (by omega) m0
    generalize kpH tz b s 135 k (92 + 4 * k + 0) = s1 at T0 ⊢
    have sp1 := T0.shp sh
    have m1 : mM (92 + 4 * k + 1) = (136, k) := by unfold mM; rw [if_neg (by omega), if_neg (by omega), if_pos (by omega), show (92 + 4 * k + 1 - 92) % 4 = 1 by omega, show (92 + 4 * k + 1 - 92) / 4 = k by omega]; rfl
    have S1 : KS tz b h s1 (92 + 4 * k + 1) := T0
    rw [ldR_y (sp1.K 131 (by decide) rfl) (sp1.R 131 9 rfl), bind_some', bind_some', kp_arr S1 sh (by omega) m1 (sp1.K 136 (by decide) rfl) (by omega) (by omega)]
    have T1 := S1.next (by omega) m1
    generalize kpH tz b s1 136 k (92 + 4 * k + 1) = s2 at T1 ⊢
    have sp2 := T1.shp sh
    have m2 : mM (92 + 4 * k + 2) = (150, k) := by unfold mM; rw [if_neg (by omega), if_neg (by omega), if_pos (by omega), show (92 + 4 * k + 2 - 92) % 4 = 2 by omega, show (92 + 4 * k + 2 - 92) / 4 = k by omega]; rfl
    have S2 : KS tz b h s2 (92 + 4 * k + 2) := T1
    rw [ldR_y (sp2.K 131 (by decide) rfl) (sp2.R 131 37 rfl), bind_some', bind_some', kp_arr S2 sh (by omega) m2 (sp2.K 150 (by decide) rfl) (by omega) (by omega)]
    have T2 := S2.next (by omega) m2
    generalize kpH tz b s2 150 k (92 + 4 * k + 2) = s3 at T2 ⊢
    have sp3 := T2.shp sh
    have m3 : mM (92 + 4 * k + 3) = (169, k) := by unfold mM; rw [if_neg (by omega), if_neg (by omega), if_pos (by omega), show (92 + 4 * k + 3 - 92) % 4 = 3 by omega, show (92 + 4 * k + 3 - 92) / 4 = k by omega]; rfl
    have S3 : KS tz b h s3 (92 + 4 * k + 3) := T2
    rw [ldR_y (sp3.K 131 (by decide) rfl) (sp3.R 131 64 rfl), bind_some', bind_some', kp_arr S3 sh (by omega) m3 (sp3.K 169 (by decide) rfl) (by omega) (by omega)]
    have T3 := S3.next (by omega) m3
    generalize kpH tz b s3 169 k (92 + 4 * k + 3) = s4 at T3 ⊢
    rw [nI_s]
    exact ih M s4 (k + 1) (by rw [show 92 + 4 * (k + 1) = 92 + 4 * k + 3 + 1 by omega]; exact T3) (by omega) (by omega)
theorem ks_keepsLaw_96 {tz : Bool} {b : Nat} {h : PH} (sh : Shp h b) : ∀ (d N : Nat) (s : PH) (k : Nat), KS tz b h s (1053 + 2 * k) → k + d = 400 → d < N → ∃ s', f_Mo_keepsLaw_96 N (b + 131) (nI k) s = some s' ∧ KS tz b h s' 1853 := by
  intro d
  induction d with
  | zero =>
    intro N s k S hk hN
    obtain ⟨M, rfl⟩ : ∃ M, N = M + 1 := ⟨N - 1, by omega⟩
    have z : (400 : Int32) ≤ nI k ↔ 400 ≤ k := L_len (n := 400) (by omega) (by decide)
    rw [f_Mo_keepsLaw_96, if_pos (by rw [z]; omega)]
    exact ⟨s, rfl, by rw [show k = 400 by omega] at S; exact S⟩
  | succ d ih =>
    intro N s k S hk hN
    obtain ⟨M, rfl⟩ : ∃ M, N = M + 1 := ⟨N - 1, by omega⟩
    have z : (400 : Int32) ≤ nI k ↔ 400 ≤ k := L_len (n := 400) (by omega) (by decide)
    rw [f_Mo_keepsLaw_96, if_neg (by rw [z]; omega)]
    have sp0 := S.shp sh
    have m0 : mM (1053 + 2 * k + 0) = (147, k) := by unfold mM; rw [if_neg (by omega), if_neg (by omega), if_neg (by omega), if_neg (by omega), if_neg (by omega), if_neg (by omega), if_neg (by omega), if_neg (by omega), if_neg (by omega), if_neg (by omega), if_neg (by omega), if_neg (by omega), show (1053 + 2 * k + 0 - 1053) % 2 = 0 by omega, show (1053 + 2 * k + 0 - 1053) / 2 = k by omega]; rfl
    have S0 : KS tz b h s (1053 + 2 * k + 0) := S
    rw [ldR_y (sp0.K 131 (by decide) rfl) (sp0.R 131 25 rfl), bind_some', bind_some', kp_arr S0 sh (by omega) m0 (sp0.K 147 (by decide) rfl) (by omega) (by omega)]
    have T0 := S0.next (by omega) m0
    generalize kpH tz b s 147 k (1053 + 2 * k + 0) = s1 at T0 ⊢
    have sp1 := T0.shp sh
    have m1 : mM (1053 + 2 * k + 1) = (148, k) := by unfold mM; rw [if_neg (by omega), if_neg (by omega), if_neg (by omega), if_neg (by omega), if_neg (by omega), if_neg (by omega), if_neg (by omega), if_neg (by omega), if_neg (by omega), if_neg (by omega), if_neg (by omega), if_neg (by omega), show (1053 + 2 * k + 1 - 1053) % 2 = 1 by omega, show (1053 + 2 * k + 1 - 1053) / 2 = k by omega]; rfl
    have S1 : KS tz b h s1 (1053 + 2 * k + 1) := T0
    rw [ldR_y (sp1.K 131 (by decide) rfl) (sp1.R 131 26 rfl), bind_some', bind_some', kp_arr S1 sh (by omega) m1 (sp1.K 148 (by decide) rfl) (by omega) (by omega)]
    have T1 := S1.next (by omega) m1
    generalize kpH tz b s1 148 k (1053 + 2 * k + 1) = s2 at T1 ⊢
    rw [nI_s]
    exact ih M s2 (k + 1) (by rw [show 1053 + 2 * (k + 1) = 1053 + 2 * k + 1 + 1 by omega]; exact T1) (by omega) (by omega)
theorem ks_keepsLaw_18 {tz : Bool} {b : Nat} {h : PH} (sh : Shp h b) : ∀ (d N : Nat) (s : PH) (k : Nat), KS tz b h s (989 + 4 * k) → k + d = 16 → d < N → ∃ s', f_Mo_keepsLaw_18 N (b + 131) (nI k) s = f_Mo_keepsLaw_96 FU (b + 131) 0 s' ∧ KS tz b h s' 1053 := by
  intro d
  induction d with
  | zero =>
    intro N s k S hk hN
    obtain ⟨M, rfl⟩ : ∃ M, N = M + 1 := ⟨N - 1, by omega⟩
    have z : (16 : Int32) ≤ nI k ↔ 16 ≤ k := L_len (n := 16) (by omega) (by decide)
    rw [f_Mo_keepsLaw_18, if_pos (by rw [z]; omega)]
    exact ⟨s, rfl, by rw [show k = 16 by omega] at S; exact S⟩
  | succ d ih =>
    intro N s k S hk hN
    obtain ⟨M, rfl⟩ : ∃ M, N = M + 1 := ⟨N - 1, by omega⟩
    have z : (16 : Int32) ≤ nI k ↔ 16 ≤ k := L_len (n := 16) (by omega) (by decide)
    rw [f_Mo_keepsLaw_18, if_neg (by rw [z]; omega)]
    have sp0 := S.shp sh
    have m0 : mM (989 + 4 * k + 0) = (143, k) := by unfold mM; rw [if_neg (by omega), if_neg (by omega), if_neg (by omega), if_neg (by omega), if_neg (by omega), if_neg (by omega), if_neg (by omega), if_neg (by omega), if_neg (by omega), if_neg (by omega), if_neg (by omega), if_pos (by omega), show (989 + 4 * k + 0 - 989) % 4 = 0 by omega, show (989 + 4 * k + 0 - 989) / 4 = k by omega]; rfl
    have S0 : KS tz b h s (989 + 4 * k + 0) := S
    rw [ldR_y (sp0.K 131 (by decide) rfl) (sp0.R 131 21 rfl), bind_some', bind_some', kp_arr S0 sh (by omega) m0 (sp0.K 143 (by decide) rfl) (by omega) (by omega)]
    have T0 := S0.next (by omega) m0
    generalize kpH tz b s 143 k (989 + 4 * k + 0) = s1 at T0 ⊢
    have sp1 := T0.shp sh
    have m1 : mM (989 + 4 * k + 1) = (144, k) := by unfold mM; rw [if_neg (by omega), if_neg (by omega), if_neg (by omega), if_neg (by omega), if_neg (by omega), if_neg (by omega), if_neg (by omega), if_neg (by omega), if_neg (by omega), if_neg (by omega), if_neg (by omega), if_pos (by omega), show (989 + 4 * k + 1 - 989) % 4 = 1 by omega, show (989 + 4 * k + 1 - 989) / 4 = k by omega]; rfl
    have S1 : KS tz b h s1 (989 + 4 * k + 1) := T0
    rw [ldR_y (sp1.K 131 (by decide) rfl) (sp1.R 131 22 rfl), bind_some', bind_some', kp_arr S1 sh (by omega) m1 (sp1.K 144 (by decide) rfl) (by omega) (by omega)]
    have T1 := S1.next (by omega) m1
    generalize kpH tz b s1 144 k (989 + 4 * k + 1) = s2 at T1 ⊢
    have sp2 := T1.shp sh
    have m2 : mM (989 + 4 * k + 2) = (145, k) := by unfold mM; rw [if_neg (by omega), if_neg (by omega), if_neg (by omega), if_neg (by omega), if_neg (by omega), if_neg (by omega), if_neg (by omega), if_neg (by omega), if_neg (by omega), if_neg (by omega), if_neg (by omega), if_pos (by omega), show (989 + 4 * k + 2 - 989) % 4 = 2 by omega, show (989 + 4 * k + 2 - 989) / 4 = k by omega]; rfl
    have S2 : KS tz b h s2 (989 + 4 * k + 2) := T1
    rw [ldR_y (sp2.K 131 (by decide) rfl) (sp2.R 131 23 rfl), bind_some', bind_some', kp_arr S2 sh (by omega) m2 (sp2.K 145 (by decide) rfl) (by omega) (by omega)]
    have T2 := S2.next (by omega) m2
    generalize kpH tz b s2 145 k (989 + 4 * k + 2) = s3 at T2 ⊢
    have sp3 := T2.shp sh
    have m3 : mM (989 + 4 * k + 3) = (146, k) := by unfold mM; rw [if_neg (by omega), if_neg (by omega), if_neg (by omega), if_neg (by omega), if_neg (by omega), if_neg (by omega), if_neg (by omega), if_neg (by omega), if_neg (by omega), if_neg (by omega), if_neg (by omega), if_pos (by omega), show (989 + 4 * k + 3 - 989) % 4 = 3 by omega, show (989 + 4 * k + 3 - 989) / 4 = k by omega]; rfl
    have S3 : KS tz b h s3 (989 + 4 * k + 3) := T2
    rw [ldR_y (sp3.K 131 (by decide) rfl) (sp3.R 131 24 rfl), bind_some', bind_some', kp_arr S3 sh (by omega) m3 (sp3.K 146 (by decide) rfl) (by omega) (by omega)]
    have T3 := S3.next (by omega) m3
    generalize kpH tz b s3 146 k (989 + 4 * k + 3) = s4 at T3 ⊢
    rw [nI_s]
    exact ih M s4 (k + 1) (by rw [show 989 + 4 * (k + 1) = 989 + 4 * k + 3 + 1 by omega]; exact T3) (by omega) (by omega)
theorem ks_image_73 {tz : Bool} {b : Nat} {h : PH} (sh : Shp h b) (x1 : Int32) : ∀ (d N : Nat) (s : PH) (k : Nat), KS tz b h s (388 + 1 * k) → k + d = 600 → d < N → ∃ s', f_Mo_image_73 N (b + 131) x1 (nI k) s = ((isO s' 9 (b + 131)).bind fun _ => (f_Mo_keepsLaw (b + 131) s').bind fun h1 => if x1 = 0 then (stI h1 9 (b + 131) 3 0).bind fun h3 => rtZ 1 h3 else rtZ 1 h1) ∧ KS tz b h s' 988 := by
  intro d
  induction d with
  | zero =>
    intro N s k S hk hN
    obtain ⟨M, rfl⟩ : ∃ M, N = M + 1 := ⟨N - 1, by omega⟩
    have z : (600 : Int32) ≤ nI k ↔ 600 ≤ k := L_len (n := 600) (by omega) (by decide)
    rw [f_Mo_image_73, if_pos (by rw [z]; omega)]
    exact ⟨s, rfl, by rw [show k = 600 by omega] at S; exact S⟩
  | succ d ih =>
    intro N s k S hk hN
    obtain ⟨M, rfl⟩ : ∃ M, N = M + 1 := ⟨N - 1, by omega⟩
    have z : (600 : Int32) ≤ nI k ↔ 600 ≤ k := L_len (n := 600) (by omega) (by decide)
    rw [f_Mo_image_73, if_neg (by rw [z]; omega)]
    have sp0 := S.shp sh
    have m0 : mM (388 + 1 * k + 0) = (139, k) := by unfold mM; rw [if_neg (by omega), if_neg (by omega), if_neg (by omega), if_neg (by omega), if_neg (by omega), if_neg (by omega), if_neg (by omega), if_neg (by omega), if_neg (by omega), if_pos (by omega), show 388 + 1 * k + 0 - 388 = k by omega]
    have S0 : KS tz b h s (388 + 1 * k + 0) := S
    rw [ldR_y (sp0.K 131 (by decide) rfl) (sp0.R 131 12 rfl), bind_some', bind_some', kp_arr S0 sh (by omega) m0 (sp0.K 139 (by decide) rfl) (by omega) (by omega)]
    have T0 := S0.next (by omega) m0
    generalize kpH tz b s 139 k (388 + 1 * k + 0) = s1 at T0 ⊢
    rw [nI_s]
    exact ih M s1 (k + 1) (by rw [show 388 + 1 * (k + 1) = 388 + 1 * k + 0 + 1 by omega]; exact T0) (by omega) (by omega)
theorem ks_image_35 {tz : Bool} {b : Nat} {h : PH} (sh : Shp h b) (x1 : Int32) : ∀ (d N : Nat) (s : PH) (k : Nat), KS tz b h s (0 + 1 * k) → k + d = 79 → d < N → ∃ s', f_Mo_image_35 N (b + 131) x1 (nI k) s = ((isO s' 9 (b + 131)).bind fun _ => (f_Mo_keepsMany (b + 131) s').bind fun h1 => (isO h1 9 (b + 131)).bind fun _ => (f_Mo_keepsTold (b + 131) h1).bind fun h3 => f_Mo_image_73 FU (b + 131) x1 0 h3) ∧ KS tz b h s' 79 := by
  intro d
  induction d with
  | zero =>
    intro N s k S hk hN
    obtain ⟨M, rfl⟩ : ∃ M, N = M + 1 := ⟨N - 1, by omega⟩
    have z : (79 : Int32) ≤ nI k ↔ 79 ≤ k := L_len (n := 79) (by omega) (by decide)
    rw [f_Mo_image_35, if_pos (by rw [z]; omega)]
    exact ⟨s, rfl, by rw [show k = 79 by omega] at S; exact S⟩
  | succ d ih =>
    intro N s k S hk hN
    obtain ⟨M, rfl⟩ : ∃ M, N = M + 1 := ⟨N - 1, by omega⟩
    have z : (79 : Int32) ≤ nI k ↔ 79 ≤ k := L_len (n := 79) (by omega) (by decide)
    rw [f_Mo_image_35, if_neg (by rw [z]; omega)]
    have sp0 := S.shp sh
    have m0 : mM (0 + 1 * k + 0) = (132, k) := by unfold mM; rw [if_pos (by omega)]; congr 1; omega
    have S0 : KS tz b h s (0 + 1 * k + 0) := S
    rw [ldR_y (sp0.K 131 (by decide) rfl) (sp0.R 131 1 rfl), bind_some', bind_some', kp_arr S0 sh (by omega) m0 (sp0.K 132 (by decide) rfl) (by omega) (by omega)]
    have T0 := S0.next (by omega) m0
    generalize kpH tz b s 132 k (0 + 1 * k + 0) = s1 at T0 ⊢
    rw [nI_s]
    exact ih M s1 (k + 1) (by rw [show 0 + 1 * (k + 1) = 0 + 1 * k + 0 + 1 by omega]; exact T0) (by omega) (by omega)
theorem ks_many {tz : Bool} {b : Nat} {h s : PH} (sh : Shp h b) (S : KS tz b h s 79) : ∃ s', f_Mo_keepsMany (b + 131) s = some s' ∧ KS tz b h s' 92 := by
  unfold f_Mo_keepsMany
  rw [kp_fld S sh (by omega) (show mM 79 = (131, 6) from rfl)]
  have T0 := S.next (by omega) (show mM 79 = (131, 6) from rfl)
  generalize kpH tz b s 131 6 79 = s1 at T0 ⊢
  rw [kp_fld T0 sh (by omega) (show mM 80 = (131, 7) from rfl)]
  have T1 := T0.next (by omega) (show mM 80 = (131, 7) from rfl)
  generalize kpH tz b s1 131 7 80 = s2 at T1 ⊢
  rw [kp_fld T1 sh (by omega) (show mM 81 = (131, 36) from rfl)]
  have T2 := T1.next (by omega) (show mM 81 = (131, 36) from rfl)
  generalize kpH tz b s2 131 36 81 = s3 at T2 ⊢
  rw [kp_fld T2 sh (by omega) (show mM 82 = (131, 38) from rfl)]
  have T3 := T2.next (by omega) (show mM 82 = (131, 38) from rfl)
  generalize kpH tz b s3 131 38 82 = s4 at T3 ⊢
  rw [kp_fld T3 sh (by omega) (show mM 83 = (131, 40) from rfl)]
  have T4 := T3.next (by omega) (show mM 83 = (131, 40) from rfl)
  generalize kpH tz b s4 131 40 83 = s5 at T4 ⊢
  rw [kp_fld T4 sh (by omega) (show mM 84 = (131, 44) from rfl)]
  have T5 := T4.next (by omega) (show mM 84 = (131, 44) from rfl)
  generalize kpH tz b s5 131 44 84 = s6 at T5 ⊢
  rw [kp_fld T5 sh (by omega) (show mM 85 = (131, 48) from rfl)]
  have T6 := T5.next (by omega) (show mM 85 = (131, 48) from rfl)
  generalize kpH tz b s6 131 48 85 = s7 at T6 ⊢
  rw [kp_fld T6 sh (by omega) (show mM 86 = (131, 52) from rfl)]
  have T7 := T6.next (by omega) (show mM 86 = (131, 52) from rfl)
  generalize kpH tz b s7 131 52 86 = s8 at T7 ⊢
  rw [kp_fld T7 sh (by omega) (show mM 87 = (131, 55) from rfl)]
  have T8 := T7.next (by omega) (show mM 87 = (131, 55) from rfl)
  generalize kpH tz b s8 131 55 87 = s9 at T8 ⊢
  rw [kp_fld T8 sh (by omega) (show mM 88 = (131, 56) from rfl)]
  have T9 := T8.next (by omega) (show mM 88 = (131, 56) from rfl)
  generalize kpH tz b s9 131 56 88 = s10 at T9 ⊢
  rw [kp_fld T9 sh (by omega) (show mM 89 = (131, 63) from rfl)]
  have T10 := T9.next (by omega) (show mM 89 = (131, 63) from rfl)
  generalize kpH tz b s10 131 63 89 = s11 at T10 ⊢
  rw [kp_fld T10 sh (by omega) (show mM 90 = (131, 68) from rfl)]
  have T11 := T10.next (by omega) (show mM 90 = (131, 68) from rfl)
  generalize kpH tz b s11 131 68 90 = s12 at T11 ⊢
  rw [kp_fld T11 sh (by omega) (show mM 91 = (131, 69) from rfl)]
  have T12 := T11.next (by omega) (show mM 91 = (131, 69) from rfl)
  generalize kpH tz b s12 131 69 91 = s13 at T12 ⊢
  exact ⟨_, rfl, T12⟩
theorem ks_told {tz : Bool} {b : Nat} {h s : PH} (sh : Shp h b) (S : KS tz b h s 92) : ∃ s', f_Mo_keepsTold (b + 131) s = some s' ∧ KS tz b h s' 388 := by
  have fu : ∀ n, n ≤ 600 → n < FU := fun n hn => by rw [FU_eq]; omega
  unfold f_Mo_keepsTold
  obtain ⟨s1, e1, S1⟩ := ks_keepsTold_2 sh 12 FU s 0 S (by omega) (fu _ (by omega))
  obtain ⟨s2, e2, S2⟩ := ks_keepsTold_80 sh 6 FU s1 0 S1 (by omega) (fu _ (by omega))
  obtain ⟨s3, e3, S3⟩ := ks_keepsTold_174 sh 8 FU s2 0 S2 (by omega) (fu _ (by omega))
  obtain ⟨s4, e4, S4⟩ := ks_keepsTold_252 sh 10 FU s3 0 S3 (by omega) (fu _ (by omega))
  obtain ⟨s5, e5, S5⟩ := ks_keepsTold_282 sh 24 FU s4 0 S4 (by omega) (fu _ (by omega))
  obtain ⟨s6, e6, S6⟩ := ks_keepsTold_328 sh 64 FU s5 0 S5 (by omega) (fu _ (by omega))
  obtain ⟨s7, e7, S7⟩ := ks_keepsTold_358 sh 64 FU s6 0 S6 (by omega) (fu _ (by omega))
  exact ⟨s7, e1.trans (e2.trans (e3.trans (e4.trans (e5.trans (e6.trans e7))))), S7⟩
theorem ks_law {tz : Bool} {b : Nat} {h s : PH} (sh : Shp h b) (S : KS tz b h s 988) : ∃ s', f_Mo_keepsLaw (b + 131) s = some s' ∧ KS tz b h s' 1853 := by
  have fu : ∀ n, n ≤ 600 → n < FU := fun n hn => by rw [FU_eq]; omega
  have sp := S.shp sh
  have m0 : mM 988 = (142, 0) := rfl
  unfold f_Mo_keepsLaw
  have e0 := kp_arr S sh (by omega) m0 (sp.K 142 (by decide) rfl) (by omega) (by omega) (fun h6 => f_Mo_keepsLaw_18 FU (b + 131) 0 h6)
  rw [ldR_y (sp.K 131 (by decide) rfl) (sp.R 131 20 rfl), bind_some', bind_some']
  have S0 := S.next (by omega) m0
  obtain ⟨s1, e1, S1⟩ := ks_keepsLaw_18 sh 16 FU _ 0 S0 (by omega) (fu _ (by omega))
  obtain ⟨s2, e2, S2⟩ := ks_keepsLaw_96 sh 400 FU s1 0 S1 (by omega) (fu _ (by omega))
  exact ⟨s2, Eq.trans e0 (e1.trans e2), S2⟩
/-- the whole of it -/
theorem ks_image {tz : Bool} {b : Nat} {h : PH} (sh : Shp h b) (h72 : gI h (b + 131) 72 = 0) (h70 : gI h (b + 131) 70 = bI tz) (x1 : Int32) : ∃ s', KS tz b h s' 1853 ∧ f_Mo_image_35 FU (b + 131) x1 0 h = if x1 = 0 then rtZ 1 (sI s' (b + 131) 3 0) else rtZ 1 s' := by
  have fu : ∀ n, n ≤ 600 → n < FU := fun n hn => by rw [FU_eq]; omega
  have S0 : KS tz b h h 0 := ⟨rfl, rfl, rfl, rfl, h72, h70, fun _ => ⟨fun q hq => by omega, fun o j _ _ => rfl⟩, fun _ => ⟨fun q hq => by omega, fun o j _ _ => rfl⟩⟩
  obtain ⟨s1, e1, S1⟩ := ks_image_35 sh x1 79 FU h 0 S0 (by omega) (fu _ (by omega))
  obtain ⟨s2, e2, S2⟩ := ks_many sh S1
  obtain ⟨s3, e3, S3⟩ := ks_told sh S2
  obtain ⟨s4, e4, S4⟩ := ks_image_73 sh x1 600 FU s3 0 S3 (by omega) (fu _ (by omega))
  obtain ⟨s5, e5, S5⟩ := ks_law sh S4
  refine ⟨s5, S5, ?_⟩
  have k : ∀ {p : Nat} {s : PH}, KS tz b h s p → gK s (b + 131) = (0, 9) := fun S => (S.shp sh).K 131 (by decide) rfl
  refine Eq.trans e1 ?_
  rw [isO_y (k S1), bind_some', e2, bind_some', isO_y (k S2), bind_some', e3, bind_some']
  refine Eq.trans e4 ?_
  rw [isO_y (k S4), bind_some', e5, bind_some', stI_y (k S5), bind_some']
