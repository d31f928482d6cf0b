/-! ===== texts: the reference reads a condition ===== -/
def stf (a o : Bool) (P : List Int32) : List Int32 := (if a = true then [10] else []) ++ ((if o = true then [11] else []) ++ P)
def bas (P : List Int32) : Prop := P = [] ∨ ∃ Q, P = 12 :: Q
theorem stf_9 {a o : Bool} {P : List Int32} (hb : bas P) : drp 9 (stf a o P) = stf a o P ∧ emx 9 (stf a o P) = [] := by
  rcases hb with rfl | ⟨Q, rfl⟩ <;> cases a <;> cases o <;> exact ⟨rfl, rfl⟩
theorem stf_10 {a o : Bool} {P : List Int32} (hb : bas P) : drp 10 (stf a o P) = stf false o P ∧ emx 10 (stf a o P) = (if a = true then [(10, 0)] else []) := by
  rcases hb with rfl | ⟨Q, rfl⟩ <;> cases a <;> cases o <;> exact ⟨rfl, rfl⟩
theorem stf_11 {o : Bool} {P : List Int32} (hb : bas P) : drp 11 (stf false o P) = P ∧ emx 11 (stf false o P) = (if o = true then [(11, 0)] else []) := by
  rcases hb with rfl | ⟨Q, rfl⟩ <;> cases o <;> exact ⟨rfl, rfl⟩
theorem stf_lv {a o : Bool} {P : List Int32} : lvP (stf a o P) = lvP P := by cases a <;> cases o <;> rfl
theorem stf_br {a o : Bool} {P : List Int32} : brP (stf a o P) = brP P := by cases a <;> cases o <;> rfl
theorem stf_q {a o : Bool} {P : List Int32} : qP (stf a o P) = qP P + (if a = true then 1 else 0) + (if o = true then 1 else 0) := by cases a <;> cases o <;> rfl
theorem stf_len {a o : Bool} {P : List Int32} : (stf a o P).length ≤ P.length + 2 := by cases a <;> cases o <;> simp [stf]
theorem emb_x {x : Bool} {op : Int32} {cs : XCS} : cs ++ (if x = true then [(op, (0 : Int32))] else []) = emb x op cs := by
  cases x <;> simp [emb]
/-- a condition has ended -/
def enF (N : Nat) (a0 : Nat) (x1 : Int32) (h7 : PH) : Option (Int32 × PH) := if x1 = 0 then some (0, h7) else (isO h7 9 a0).bind fun _ => (f_Mo_isSign a0 41 h7).bind fun p9 => if p9.1 = 0 then (isO p9.2 9 a0).bind fun _ => (f_Mo_errs a0 1 p9.2).bind fun p19 => some (p19.1, p19.2) else (ldI p9.2 9 a0 31).bind fun v11 => (stI p9.2 9 a0 31 (v11 - 1)).bind fun h12 => (ldI h12 9 a0 29).bind fun v13 => (stI h12 9 a0 29 (v13 - 1)).bind fun h14 => (isO h14 9 a0).bind fun _ => (f_Mo_settles a0 9 h14).bind fun h15 => (isO h15 9 a0).bind fun _ => (f_Mo_reads a0 h15).bind fun h17 => f_Mo_readAny_9 N a0 (x1 - 1) 0 h17
section ANY
variable {b n c : Nat} {B : Nat → Nat}
/-- a single condition was due, with P waiting -/
def SiR (b n c : Nat) (B : Nat → Nat) (h : PH) (N : Nat) (P : List Int32) (r : XPR) : Prop := match r with
  | .error e => ∃ h', f_Mo_readAny_9 N (b + 131) (nI (brP P)) 1 h = some (-1, h') ∧ Sn LMA b h h' ∧ XMF h' b n B e
  | .ok r => ∃ N' h', f_Mo_readAny_9 N (b + 131) (nI (brP P)) 1 h = f_Mo_readAny_9 N' (b + 131) (nI (brP P)) 0 h' ∧ Sn LMA b h h' ∧ XMA h' b n B c (drp 9 P) r.1 (r.2 ++ emx 9 P) ∧ c < r.1 + N'
/-- a condition was due, above P -/
def ChR (b n c : Nat) (B : Nat → Nat) (h : PH) (N : Nat) (P : List Int32) (r : XPR) : Prop := match r with
  | .error e => ∃ h', f_Mo_readAny_9 N (b + 131) (nI (brP P)) 1 h = some (-1, h') ∧ Sn LMA b h h' ∧ XMF h' b n B e
  | .ok r => ∃ N' h', f_Mo_readAny_9 N (b + 131) (nI (brP P)) 1 h = enF N' (b + 131) (nI (brP P)) h' ∧ Sn LMA b h h' ∧ XMA h' b n B c P r.1 r.2 ∧ c < r.1 + (N' + 1)
def SiD (b n c : Nat) (B : Nat → Nat) (K d : Nat) : Prop := ∀ (N : Nat) (h : PH) (P : List Int32) (i : Nat) (cs : XCS), XMA h b n B c P i cs → lvP P + d = 8 → cs.length + qP P ≤ i → P.length ≤ 3 * lvP P + 2 → c < i + N → SiR b n c B h N P (siS (tkA B n) K d i cs)
def ChD (b n c : Nat) (B : Nat → Nat) (K d : Nat) : Prop := ∀ (k N : Nat) (h : PH) (P : List Int32) (a o : Bool) (i : Nat) (cs : XCS), bas P → XMA h b n B c (stf a o P) i cs → lvP P + d = 8 → cs.length + qP (stf a o P) ≤ i → P.length ≤ 3 * lvP P → c < i + k → c < i + N → ChR b n c B h N P (chL (tkA B n) (siS (tkA B n) K d) k a o i cs)
theorem ch_of {K d : Nat} (hd : d ≤ 8) (hcE : tkA B n c = -1) (S : SiD b n c B K d) : ChD b n c B K d := by
  intro k
  induction k with
  | zero => intro N h P a o i cs _ C _ _ _ h1 _; have := C.1.hn; omega
  | succ k ih =>
    intro N h P a o i cs hb C hv hl hp hk hN
    have hn := C.1.hn
    have s := S N h (stf a o P) i cs C (by rw [stf_lv]; exact hv) hl (by have := @stf_len a o P; rw [stf_lv]; omega) hN
    have g := si_gd hcE (K := K) d i cs hd hn.2.2
    unfold chL
    cases e : siS (tkA B n) K d i cs with
    | error er =>
      rw [e] at s
      obtain ⟨h', s1, s2, s3⟩ := s
      rw [stf_br] at s1
      exact ⟨h', s1, s2, s3⟩
    | ok p =>
      rw [e] at s g
      obtain ⟨N', h1, s1, s2, s3, s4⟩ := s
      obtain ⟨g1, g2, v, g3, g4, -⟩ := g
      rw [(stf_9 hb).1, (stf_9 hb).2, List.append_nil] at s3
      rw [stf_br] at s1
      have hlen : p.2.length + qP (stf a o P) ≤ p.1 := by rw [g3, List.length_append]; omega
      obtain ⟨M, rfl⟩ : ∃ M, N' = M + 1 := ⟨N' - 1, by omega⟩
      have K1 := s3.1.K
      have wA := mo_isW s3.1 21 (by omega) (x := 5) (t := 20021) rfl rfl
      have wO := mo_isW s3.1 20 (by omega) (x := 4) (t := 20020) rfl rfl
      obtain ⟨h2, z1, z2, z3⟩ := mo_settles (Or.inr (Or.inl rfl)) s3 hlen
      rw [(stf_10 hb).1, (stf_10 hb).2, emb_x] at z3
      have q2 : (emb a 10 p.2).length + qP (stf false o P) ≤ p.1 := by
        rw [stf_q] at hlen ⊢
        unfold emb
        cases a
        · simpa using hlen
        · simp at hlen ⊢; omega
      rw [f_Mo_readAny_9] at s1
      rw [if_pos rfl, isO_y K1, bind_some', wA, bind_some'] at s1
      dsimp only at s1
      by_cases c1 : tkA B n p.1 = 20021
      · rw [if_neg (bI_t c1), isO_y K1, bind_some', z1, bind_some', isO_y z3.1.K, bind_some'] at s1
        have lP : (stf false o P).length < 40 := by have := @stf_len false o P; omega
        obtain ⟨h3, y1, y2, y3, y4, y5, y6⟩ := mo_waits z3 10 lP
        obtain ⟨h4, a1, a2, a3⟩ := mo_adv y3 (y3.lt (by rw [c1]; decide))
        rw [y1, bind_some', isO_y y3.K, bind_some', a1, bind_some'] at s1
        have C4 : XMA h4 b n B c (stf true o P) (p.1 + 1) (emb a 10 p.2) := by
          have C3 : XMA h3 b n B c (stf true o P) p.1 (emb a 10 p.2) := ⟨y3, y4, y5, by rw [y6, z3.2.2.2.1, stf_lv, stf_lv], by show (stf false o P).length + 1 ≤ 40; omega, z3.2.2.2.2.2⟩
          exact C3.lmp a2 a3 z3.2.2.2.2.2
        have fin := ih M h4 P true o (p.1 + 1) _ hb C4 hv (by rw [stf_q] at q2 ⊢; simp at q2 ⊢; omega) hp (by omega) (by omega)
        dsimp only
        rw [if_pos c1]
        have tt : Sn LMA b h h4 := ((s2.tr z2).tr y2).tr (lmp_lma a2)
        cases e2 : chL (tkA B n) (siS (tkA B n) K d) k true o (p.1 + 1) (emb a 10 p.2) with
        | error er =>
          rw [e2] at fin
          obtain ⟨h', f1, f2, f3⟩ := fin
          exact ⟨h', s1.trans f1, tt.tr f2, f3⟩
        | ok r =>
          rw [e2] at fin
          obtain ⟨N2, h', f1, f2, f3⟩ := fin
          exact ⟨N2, h', s1.trans f1, tt.tr f2, f3⟩
      rw [if_pos (bI_f c1), isO_y K1, bind_some', wO, bind_some'] at s1
      dsimp only at s1
      obtain ⟨h3, y1, y2, y3⟩ := mo_settles (Or.inr (Or.inr rfl)) z3 q2
      rw [(stf_11 hb).1, (stf_11 hb).2, emb_x] at y3
      have q3 : (emb o 11 (emb a 10 p.2)).length + qP P ≤ p.1 := by
        rw [stf_q] at q2
        generalize emb a 10 p.2 = q at q2
        unfold emb
        cases o
        · simpa using q2
        · simp at q2 ⊢; omega
      by_cases c2 : tkA B n p.1 = 20020
      · rw [if_neg (bI_t c2), isO_y K1, bind_some', z1, bind_some', isO_y z3.1.K, bind_some', y1, bind_some', isO_y y3.1.K, bind_some'] at s1
        obtain ⟨h4, x1, x2, x3, x4, x5, x6⟩ := mo_waits y3 11 (by omega)
        obtain ⟨h5, a1, a2, a3⟩ := mo_adv x3 (x3.lt (by rw [c2]; decide))
        rw [x1, bind_some', isO_y x3.K, bind_some', a1, bind_some'] at s1
        have C4 : XMA h5 b n B c (stf false true P) (p.1 + 1) (emb o 11 (emb a 10 p.2)) := by
          have C3 : XMA h4 b n B c (stf false true P) p.1 (emb o 11 (emb a 10 p.2)) := ⟨x3, x4, x5, by rw [x6, y3.2.2.2.1, stf_lv], by show P.length + 1 ≤ 40; omega, y3.2.2.2.2.2⟩
          exact C3.lmp a2 a3 y3.2.2.2.2.2
        have fin := ih M h5 P false true (p.1 + 1) _ hb C4 hv (by rw [stf_q]; simp; omega) hp (by omega) (by omega)
        dsimp only
        rw [if_neg c1, if_pos c2]
        have tt : Sn LMA b h h5 := (((s2.tr z2).tr y2).tr x2).tr (lmp_lma a2)
        cases e2 : chL (tkA B n) (siS (tkA B n) K d) k false true (p.1 + 1) (emb o 11 (emb a 10 p.2)) with
        | error er =>
          rw [e2] at fin
          obtain ⟨h', f1, f2, f3⟩ := fin
          exact ⟨h', s1.trans f1, tt.tr f2, f3⟩
        | ok r =>
          rw [e2] at fin
          obtain ⟨N2, h', f1, f2, f3⟩ := fin
          exact ⟨N2, h', s1.trans f1, tt.tr f2, f3⟩
      rw [if_pos (bI_f c2), isO_y K1, bind_some', z1, bind_some', isO_y z3.1.K, bind_some', y1, bind_some'] at s1
      dsimp only
      rw [if_neg c1, if_neg c2]
      exact ⟨M, h3, s1, (s2.tr z2).tr y2, y3, by show c < p.1 + (M + 1); omega⟩
theorem si_0 {K : Nat} (hK : c < K) (hcE : tkA B n c = -1) {N d i : Nat} {h : PH} {P : List Int32} {cs : XCS} (C : XMA h b n B c P i cs) (hl : cs.length + qP P ≤ i) (hN : c < i + N) (c1 : ¬ tkA B n i = 20022) (c2 : ¬ tkA B n i = 10040) : SiR b n c B h N P (cmS (tkA B n) K i cs) := by
  have hn := C.1.hn
  have K1 := C.1.K
  obtain ⟨M, rfl⟩ : ∃ M, N = M + 1 := ⟨N - 1, by omega⟩
  have wN := mo_isW C.1 22 (by omega) (x := 6) (t := 20022) rfl rfl
  have sB := mo_isS C.1 40 (by decide) (by omega) (x := 40) (t := 10040) rfl rfl
  have step : f_Mo_readAny_9 (M + 1) (b + 131) (nI (brP P)) 1 h = (f_Mo_readCompared (b + 131) h).bind fun p39 => if p39.1 = (-1) then some ((-1), p39.2) else (isO p39.2 9 (b + 131)).bind fun _ => (f_Mo_settles (b + 131) 9 p39.2).bind fun h41 => f_Mo_readAny_9 M (b + 131) (nI (brP P)) 0 h41 := by
    rw [f_Mo_readAny_9, if_neg n10, isO_y K1, bind_some', wN, bind_some']
    dsimp only
    rw [if_pos (bI_f c1), isO_y K1, bind_some', sB, bind_some']
    dsimp only
    rw [if_pos (bI_f c2), isO_y K1, bind_some']
  have u := mo_cmp C.1 (by omega) hK
  have g := cm_gd hcE (K := K) (cs := cs) hn.2.2
  cases e : cmS (tkA B n) K i cs with
  | error er =>
    rw [e] at u
    obtain ⟨h2, u1, u2, u3⟩ := u
    rw [u1, bind_some'] at step
    dsimp only at step
    rw [if_pos rfl] at step
    exact ⟨h2, step, lmp_lma u2, u3⟩
  | ok p =>
    rw [e] at u g
    obtain ⟨h2, u1, u2, u3⟩ := u
    obtain ⟨g1, g2, v, g3, g4, -⟩ := g
    have hlen : p.2.length + qP P ≤ p.1 := by rw [g3, List.length_append]; omega
    rw [u1, bind_some'] at step
    dsimp only at step
    have C2 := C.lmp u2 u3 (by omega)
    obtain ⟨h3, z1, z2, z3⟩ := mo_settles (Or.inl rfl) C2 hlen
    rw [if_neg n0m, isO_y u3.K, bind_some', z1, bind_some'] at step
    exact ⟨M, h3, step, (lmp_lma u2).tr z2, z3, by show c < p.1 + M; omega⟩
end ANY
