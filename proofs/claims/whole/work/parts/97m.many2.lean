theorem brP_le : ∀ P : List Int32, brP P ≤ P.length
  | [] => Nat.le_refl _
  | x :: P => by
    have := brP_le P
    show brP P + _ ≤ P.length + 1
    split <;> omega
section ANY2
variable {b n c : Nat} {B : Nat → Nat}
/-- a not or a bracket is taken -/
theorem any_push {N i : Nat} {h : PH} {P : List Int32} {cs : XCS} (C : XMA h b n B c P i cs) (x : Int32) (hx : (x = 9 ∧ tkA B n i = 20022) ∨ (x = 12 ∧ tkA B n i = 10040)) (hv : lvP P < 8) (hp : P.length ≤ 3 * lvP P + 2) : ∃ h', f_Mo_readAny_9 (N + 1) (b + 131) (nI (brP P)) 1 h = f_Mo_readAny_9 N (b + 131) (nI (brP (x :: P))) 1 h' ∧ Sn LMA b h h' ∧ XMA h' b n B c (x :: P) (i + 1) cs := by
  have K1 := C.1.K
  have wN := mo_isW C.1 22 (by omega) (x := 6) (t := 20022) rfl rfl
  have sB := mo_isS C.1 40 (by decide) (by omega) (x := 40) (t := 10040) rfl rfl
  have C0 := C
  obtain ⟨c1, c2, c3, c4, c5, c6⟩ := C
  have t1 : Sn [(131, 29, 30)] b h (sI h (b + 131) 29 (nI (lvP P + 1))) := Sn.rf.put 131 29 _ (by decide)
  have n8 : ¬ nI (lvP P) = 8 := by
    have z : nI (lvP P) = 8 ↔ lvP P = 8 := nI_eqL (n := 8) (by omega) (by decide)
    rw [z]; omega
  have hl9 : lvP (x :: P) = lvP P + 1 := by
    show lvP P + _ = _
    rw [if_pos (by rcases hx with ⟨z, -⟩ | ⟨z, -⟩; exact Or.inl z; exact Or.inr z)]
  have C1 : XMR (sI h (b + 131) 29 (nI (lvP P + 1))) b n B c i cs := c1.sn t1 (by decide) c6
  have w : ∃ h2, f_Mo_waits (b + 131) x (sI h (b + 131) 29 (nI (lvP P + 1))) = some h2 ∧ Sn LMA b h h2 ∧ XMA h2 b n B c (x :: P) i cs := by
    have K := C1.K
    have s := C1.1.1
    have K149 : gK (sI h (b + 131) 29 (nI (lvP P + 1))) (b + 149) = (1, 40) := s.K 149 (by decide) rfl
    generalize hh : sI h (b + 131) 29 (nI (lvP P + 1)) = hA at *
    have d2 : gI hA (b + 131) 31 = nI P.length := by rw [← hh]; simp (disch := omega) only [gI_q, gI_n1, gI_n2]; exact c2
    have d3 : Stk hA (b + 149) P := c3.cg (fun j hj => by rw [← hh]; exact gI_n1 (by omega))
    have d4 : gI hA (b + 131) 29 = nI (lvP P + 1) := by rw [← hh]; simp (disch := omega) only [gI_q, gI_n1, gI_n2]
    have k1 : ∀ v, gK (sI hA (b + 149) P.length v) (b + 131) = (0, 9) := fun _ => K
    have t2 : Sn [(131, 31, 32), (149, 0, 40)] b hA (sI (sI hA (b + 149) P.length x) (b + 131) 31 (nI (P.length + 1))) := (Sn.rf.put 149 _ _ (inL_in (lo := 0) (hi := 40) (by decide) (by omega) (by omega))).put 131 31 _ (by decide)
    refine ⟨_, ?_, (t1.up (by decide)).tr (t2.up (by decide)), C1.sn t2 (by decide) c6, ?_, ⟨?_, ?_⟩, ?_, ?_, c6⟩
    · unfold f_Mo_waits
      rw [ldR_y K (s.R 131 30 rfl), bind_some', ldI_y K, bind_some', d2, wr_at K149 (by omega) (by omega), bind_some', ldI_y (k1 _), bind_some', gI_n1 (by omega), d2, nI_s, stI_y (k1 _), bind_some']
    · rw [List.length_cons]; simp (disch := omega) only [gI_q, gI_n1, gI_n2]
    · simp (disch := omega) only [gI_q, gI_n1, gI_n2]
    · exact (d3.put (Nat.le_refl _)).cg (fun j hj => gI_n1 (by omega))
    · rw [hl9]; simp (disch := omega) only [gI_q, gI_n1, gI_n2]; exact d4
    · rw [List.length_cons]; omega
  obtain ⟨h2, w1, w2, w3⟩ := w
  obtain ⟨h3, a1, a2, a3⟩ := mo_adv w3.1 (w3.1.lt (by rcases hx with ⟨-, z⟩ | ⟨-, z⟩ <;> rw [z] <;> decide))
  refine ⟨h3, ?_, w2.tr (lmp_lma a2), w3.lmp a2 a3 c6⟩
  rw [f_Mo_readAny_9, if_neg n10, isO_y K1, bind_some', wN, bind_some']
  dsimp only
  rcases hx with ⟨rfl, z⟩ | ⟨rfl, z⟩
  · rw [if_neg (bI_t z)]
    unfold f_Mo_readAny_33 f_Mo_readAny_66 f_Mo_readAny_78
    rw [ldI_y K1, bind_some', c4, if_neg n8, bind_some', nI_s, stI_y K1, bind_some', if_neg (bI_t z), if_neg (bI_t z), isO_y (by rw [gK_sI]; exact K1), bind_some', w1, bind_some', isO_y w3.1.K, bind_some', a1, bind_some']
    rfl
  · have z0 : ¬ tkA B n i = 20022 := by rw [z]; decide
    rw [if_pos (bI_f z0), isO_y K1, bind_some', sB, bind_some']
    dsimp only
    rw [if_neg (bI_t z)]
    unfold f_Mo_readAny_33 f_Mo_readAny_66 f_Mo_readAny_78
    rw [ldI_y K1, bind_some', c4, if_neg n8, bind_some', nI_s, stI_y K1, bind_some', if_pos (bI_f z0), if_pos (bI_f z0), isO_y (by rw [gK_sI]; exact K1), bind_some', w1, bind_some', isO_y w3.1.K, bind_some', a1, bind_some', nI_s]
    rfl
theorem si_all {K : Nat} (hK : c < K) (hcE : tkA B n c = -1) : ∀ d, d ≤ 8 → SiD b n c B K d := by
  intro d
  induction d with
  | zero =>
    intro _ N h P i cs C hv hl hp hN
    have hn := C.1.hn
    have K1 := C.1.K
    have wN := mo_isW C.1 22 (by omega) (x := 6) (t := 20022) rfl rfl
    have sB := mo_isS C.1 40 (by decide) (by omega) (x := 40) (t := 10040) rfl rfl
    have v8 : gI h (b + 131) 29 = 8 := by rw [C.2.2.2.1, show lvP P = 8 by omega]; rfl
    obtain ⟨h2, u1, u2, u3⟩ := mo_err C.1 (k := 3)
    have u1 : f_Mo_errs (b + 131) 3 h = some (-1, h2) := u1
    have bad : ∀ M x3, f_Mo_readAny_33 (fun a0 x1 x2 h => f_Mo_readAny_9 M a0 x1 x2 h) (b + 131) (nI (brP P)) 1 x3 h = some (-1, h2) := by
      intro M x3
      unfold f_Mo_readAny_33
      rw [ldI_y K1, bind_some', v8, if_pos rfl, isO_y K1, bind_some', u1, bind_some']
    unfold siS
    by_cases c1 : tkA B n i = 20022
    · rw [if_pos c1]
      obtain ⟨M, rfl⟩ : ∃ M, N = M + 1 := ⟨N - 1, by omega⟩
      refine ⟨h2, ?_, lmp_lma u2, u3⟩
      rw [f_Mo_readAny_9, if_neg n10, isO_y K1, bind_some', wN, bind_some']
      dsimp only
      rw [if_neg (bI_t c1)]
      exact bad M _
    rw [if_neg c1]
    by_cases c2 : tkA B n i = 10040
    · rw [if_pos c2]
      obtain ⟨M, rfl⟩ : ∃ M, N = M + 1 := ⟨N - 1, by omega⟩
      refine ⟨h2, ?_, lmp_lma u2, u3⟩
      rw [f_Mo_readAny_9, if_neg n10, isO_y K1, bind_some', wN, bind_some']
      dsimp only
      rw [if_pos (bI_f c1), isO_y K1, bind_some', sB, bind_some']
      dsimp only
      rw [if_neg (bI_t c2)]
      exact bad M _
    rw [if_neg c2]
    exact si_0 hK hcE (d := 0) C hl hN c1 c2
  | succ d ih =>
    intro hd N h P i cs C hv hl hp hN
    have hn := C.1.hn
    have S := ih (by omega)
    have CH := ch_of (by omega) hcE S
    unfold siS
    by_cases c1 : tkA B n i = 20022
    · rw [if_pos c1]
      obtain ⟨M, rfl⟩ : ∃ M, N = M + 1 := ⟨N - 1, by omega⟩
      obtain ⟨h1, p1, p2, p3⟩ := any_push (N := M) C 9 (Or.inl ⟨rfl, c1⟩) (by omega) hp
      have l9 : lvP ((9 : Int32) :: P) = lvP P + 1 := rfl
      have q9 : qP ((9 : Int32) :: P) = qP P + 1 := rfl
      have b9 : brP ((9 : Int32) :: P) = brP P := rfl
      have s := S M h1 (9 :: P) (i + 1) cs p3 (by omega) (by omega) (by rw [List.length_cons]; omega) (by omega)
      cases e : siS (tkA B n) K d (i + 1) cs with
      | error er =>
        rw [e] at s
        obtain ⟨h', s1, s2, s3⟩ := s
        exact ⟨h', p1.trans s1, p2.tr s2, s3⟩
      | ok r =>
        rw [e] at s
        obtain ⟨N', h', s1, s2, s3, s4⟩ := s
        rw [b9] at s1 p1
        refine ⟨N', h', p1.trans s1, p2.tr s2, ?_, s4⟩
        show XMA h' b n B c (drp 9 P) r.1 (r.2 ++ [(9, 0)] ++ emx 9 P)
        rw [show r.2 ++ [((9 : Int32), (0 : Int32))] ++ emx 9 P = r.2 ++ emx 9 (9 :: P) by simp [emx]]
        exact s3
    rw [if_neg c1]
    by_cases c2 : tkA B n i = 10040
    · rw [if_pos c2]
      obtain ⟨M, rfl⟩ : ∃ M, N = M + 1 := ⟨N - 1, by omega⟩
      obtain ⟨h1, p1, p2, p3⟩ := any_push (N := M) C 12 (Or.inr ⟨rfl, c2⟩) (by omega) hp
      have l9 : lvP ((12 : Int32) :: P) = lvP P + 1 := rfl
      have q9 : qP ((12 : Int32) :: P) = qP P := rfl
      have b9 : brP ((12 : Int32) :: P) = brP P + 1 := rfl
      have hn1 := p3.1.hn
      have s := CH K M h1 (12 :: P) false false (i + 1) cs (Or.inr ⟨P, rfl⟩) p3 (by omega) (by rw [stf_q, q9]; simp; omega) (by rw [List.length_cons]; omega) (by omega) (by omega)
      cases e : chL (tkA B n) (siS (tkA B n) K d) K false false (i + 1) cs with
      | error er =>
        rw [e] at s
        obtain ⟨h', s1, s2, s3⟩ := s
        exact ⟨h', p1.trans s1, p2.tr s2, s3⟩
      | ok r =>
        rw [e] at s
        obtain ⟨N', h2, s1, s2, s3, s4⟩ := s
        have g := ch_gd hcE (m := 26 - 2 * d) (by omega) (fun i cs hi => si_gd hcE (K := K) d i cs (by omega) hi) K false false (i + 1) cs hn1.2.2
        rw [e] at g
        obtain ⟨g1, g2, v, g3, g4, -⟩ := g
        have g4 : v.length ≤ r.1 - (i + 1) := by simpa using g4
        have hlen : r.2.length + qP P ≤ r.1 := by rw [g3, List.length_append]; omega
        have K2 := s3.1.K
        have sC := mo_isS s3.1 41 (by decide) (by omega) (x := 41) (t := 10041) rfl rfl
        have n0 : ¬ nI (brP ((12 : Int32) :: P)) = 0 := by
          have hb : brP P ≤ P.length := brP_le P
          have c5 := C.2.2.2.2.1
          have z : nI (brP ((12 : Int32) :: P)) = 0 ↔ brP ((12 : Int32) :: P) = 0 := nI_eqL (n := 0) (by omega) (by decide)
          rw [z]; omega
        unfold enF at s1
        rw [if_neg n0, isO_y K2, bind_some', sC, bind_some'] at s1
        dsimp only at s1 ⊢
        by_cases c3 : tkA B n r.1 = 10041
        · rw [if_pos c3]
          obtain ⟨m1, m2, m3, m4, m5, m6⟩ := s3
          rw [List.length_cons] at m2
          rw [if_neg (bI_t c3), ldI_y K2, bind_some', m2, show nI (P.length + 1) - 1 = nI P.length from nI_subL (n := 1) _ (by show 1 ≤ _; omega), stI_y K2, bind_some', ldI_y (by rw [gK_sI]; exact K2), bind_some', gI_n2 (by omega), m4, l9, show nI (lvP P + 1) - 1 = nI (lvP P) from nI_subL (n := 1) _ (by show 1 ≤ _; omega), stI_y (by rw [gK_sI]; exact K2), bind_some', isO_y (by rw [gK_sI, gK_sI]; exact K2), bind_some'] at s1
          have t5 : Sn [(131, 29, 30), (131, 31, 32)] b h2 (sI (sI h2 (b + 131) 31 (nI P.length)) (b + 131) 29 (nI (lvP P))) := (Sn.rf.put 131 31 _ (by decide)).put 131 29 _ (by decide)
          have C5 : XMA (sI (sI h2 (b + 131) 31 (nI P.length)) (b + 131) 29 (nI (lvP P))) b n B c P r.1 r.2 := ⟨m1.sn t5 (by decide) m6, by simp (disch := omega) only [gI_q, gI_n1, gI_n2], m3.2.cg (fun j hj => by rw [gI_n1 (by omega), gI_n1 (by omega)]), by simp (disch := omega) only [gI_q, gI_n1, gI_n2], by rw [List.length_cons] at m5; omega, m6⟩
          obtain ⟨h6, z1, z2, z3⟩ := mo_settles (Or.inl rfl) C5 hlen
          obtain ⟨h7, a1, a2, a3⟩ := mo_adv z3.1 (z3.1.lt (by rw [c3]; decide))
          rw [z1, bind_some', isO_y z3.1.K, bind_some', a1, bind_some', b9, show nI (brP P + 1) - 1 = nI (brP P) from nI_subL (n := 1) _ (by show 1 ≤ _; omega)] at s1
          exact ⟨N', h7, p1.trans s1, (((p2.tr s2).tr (t5.up (by decide))).tr z2).tr (lmp_lma a2), z3.lmp a2 a3 z3.2.2.2.2.2, by show c < r.1 + 1 + N'; omega⟩
        · rw [if_neg c3]
          obtain ⟨h3, u1, u2, u3⟩ := mo_err s3.1 (k := 1)
          rw [if_pos (bI_f c3), isO_y K2, bind_some', show f_Mo_errs (b + 131) 1 h2 = some (-1, h3) from u1, bind_some'] at s1
          exact ⟨h3, p1.trans s1, (p2.tr s2).tr (lmp_lma u2), u3⟩
    rw [if_neg c2]
    exact si_0 hK hcE (d := d) C hl hN c1 c2
/-- a condition is read -/
theorem mo_any {h : PH} {i K : Nat} {cs : XCS} (C : XMR h b n B c i cs) (h29 : gI h (b + 131) 29 = 0) (hl : cs.length ≤ i) (hK : c < K) : match chS (tkA B n) K 8 i cs with
    | .error e => ∃ h', f_Mo_readAny (b + 131) h = some (-1, h') ∧ Sn LMA b h h' ∧ XMF h' b n B e
    | .ok r => ∃ h', f_Mo_readAny (b + 131) h = some (0, h') ∧ Sn LMA b h h' ∧ XMR h' b n B c r.1 r.2 ∧ gI h' (b + 131) 29 = 0 := by
  have hn := C.hn
  have K1 := C.K
  have t1 : Sn [(131, 31, 32)] b h (sI h (b + 131) 31 0) := Sn.rf.put 131 31 _ (by decide)
  have C1 : XMA (sI h (b + 131) 31 0) b n B c (stf false false []) i cs := ⟨C.sn t1 (by decide) (by omega), by simp (disch := omega) only [gI_q, gI_n1, gI_n2]; rfl, trivial, by simp (disch := omega) only [gI_q, gI_n1, gI_n2]; exact h29, by decide, by omega⟩
  have s := ch_of (by omega) C.cE (si_all hK C.cE 8 (by omega)) K FU _ [] false false i cs (Or.inl rfl) C1 rfl (by show cs.length + 0 ≤ i; omega) (by decide) (by omega) (by rw [FU_eq]; omega)
  unfold f_Mo_readAny chS
  rw [stI_y K1, bind_some']
  cases e : chL (tkA B n) (siS (tkA B n) K 8) K false false i cs with
  | error er =>
    rw [e] at s
    obtain ⟨h', s1, s2, s3⟩ := s
    exact ⟨h', s1, (t1.up (by decide)).tr s2, s3⟩
  | ok r =>
    rw [e] at s
    obtain ⟨N', h', s1, s2, s3, s4⟩ := s
    exact ⟨h', s1, (t1.up (by decide)).tr s2, s3.1, s3.2.2.2.1⟩
end ANY2
