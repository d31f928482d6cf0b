theorem XMR.sg {h : PH} {b n c i : Nat} {B : Nat → Nat} {cs : XCS} (C : XMR h b n B c i cs) {m : Nat} (hm : txM m = true) (hb : m ≤ 255) (e : tkA B n i = nI (10000 + m)) : gI h (b + 131) 18 = nI m := by
  rcases C.tk with ⟨z, -⟩ | ⟨z, -⟩ | ⟨x, x1, z, -⟩ | ⟨x, x1, z, y⟩ | ⟨x, x1, z, -⟩
  · rw [z] at e; exact absurd e.symm (nI_ne_m1 (by omega))
  · rw [z] at e
    have := nI_pos (n := 10000 + m) (by omega)
    rw [← e] at this
    exact absurd (by decide) this
  · rw [z, nI_eq' (by omega) (by omega)] at e; omega
  · rw [z, nI_eq' (by omega) (by omega)] at e
    have e : x = m := by omega
    rcases y with ⟨-, -, y⟩ | ⟨y, -⟩
    · rw [y, e]
    · rw [e, hm] at y; cases y
  · rw [z, nI_eq' (by omega) (by omega)] at e; omega
theorem bI_t {p : Prop} [Decidable p] (h : p) : ¬ bI (decide p) = 0 := by simp [h, bI]
theorem bI_f {p : Prop} [Decidable p] (h : ¬ p) : bI (decide p) = 0 := by simp [h, bI]
theorem n0m : ¬ (0 : Int32) = -1 := by decide
section MREAD3
variable {b n c : Nat} {B : Nat → Nat}
theorem mo_cmp {h : PH} {i K : Nat} {cs : XCS} (C : XMR h b n B c i cs) (hl : cs.length ≤ i) (hK : c < K) : XMO h b n B c (cmS (tkA B n) K i cs) (f_Mo_readCompared (b + 131) h) := by
  have hn := C.hn
  have cE := C.cE
  have u := mo_sum C hl hK
  have g := sum_gd cE (K := K) (cs := cs) hn.2.2
  unfold cmS f_Mo_readCompared
  rw [isO_y C.K, bind_some']
  cases e : suS (tkA B n) K i cs with
  | error er =>
    rw [e] at u
    obtain ⟨h2, u1, u2, u3⟩ := u
    rw [u1, bind_some']
    exact ⟨h2, by rw [if_pos rfl], u2, u3⟩
  | ok p =>
    rw [e] at u g
    obtain ⟨h2, u1, u2, u3⟩ := u
    obtain ⟨g1, g2, v, g3, g4, -⟩ := g
    have hlen : p.2.length ≤ p.1 := by rw [g3, List.length_append]; omega
    have s60 := mo_isS u3 60 (by decide) (by omega) (x := 60) (t := 10060) rfl rfl
    have s61 := mo_isS u3 61 (by decide) (by omega) (x := 61) (t := 10061) rfl rfl
    have s62 := mo_isS u3 62 (by decide) (by omega) (x := 62) (t := 10062) rfl rfl
    rw [u1, bind_some']
    dsimp only
    rw [if_neg n0m, isO_y u3.K, bind_some', s60, bind_some']
    dsimp only
    have go : ∀ (o : Int32), cmO (tkA B n p.1) = o → ¬ o = 0 → XMO h b n B c (if cmO (tkA B n p.1) = 0 then .error (1, p.1) else (match suS (tkA B n) K (p.1 + 1) p.2 with | .ok q => .ok (q.1, q.2 ++ [(cmO (tkA B n p.1), 0)]) | .error e => .error e)) (f_Mo_readCompared_73 (b + 131) o h2) := by
      intro o ho o0
      have ne := (cmO_c (t := tkA B n p.1) (by rw [ho]; exact o0)).2
      have hic := u3.lt ne
      obtain ⟨h3, a1, a2, a3⟩ := mo_adv u3 hic
      have u' := mo_sum a3 (by omega) hK
      have g' := sum_gd cE (K := K) (i := p.1 + 1) (cs := p.2) (by omega)
      rw [if_neg (by rw [ho]; exact o0)]
      unfold f_Mo_readCompared_73
      rw [isO_y u3.K, bind_some', a1, bind_some', isO_y a3.K, bind_some']
      cases e : suS (tkA B n) K (p.1 + 1) p.2 with
      | error er =>
        rw [e] at u'
        obtain ⟨h4, z1, z2, z3⟩ := u'
        rw [z1, bind_some']
        exact ⟨h4, by rw [if_pos rfl], (u2.tr a2).tr z2, z3⟩
      | ok q =>
        rw [e] at u' g'
        obtain ⟨h4, z1, z2, z3⟩ := u'
        obtain ⟨y1, y2, v', y3, y4, -⟩ := g'
        have hl' : q.2.length < q.1 := by rw [y3, List.length_append]; omega
        rw [z1, bind_some']
        dsimp only
        obtain ⟨h5, w1, w2, w3⟩ := mo_emits z3 o 0 (by omega)
        rw [if_neg n0m, isO_y z3.K, bind_some', w1, bind_some', ho]
        exact ⟨h5, rfl, ((u2.tr a2).tr z2).tr w2, w3⟩
    by_cases c1 : tkA B n p.1 = 10060
    · rw [if_neg (bI_t c1)]
      unfold f_Mo_readCompared_43
      rw [ldI_y u3.K, bind_some', u3.sg (m := 60) (by decide) (by omega) c1, if_pos (show nI 60 = 60 from rfl)]
      exact go 6 (by rw [c1]; decide) (by decide)
    rw [if_pos (bI_f c1), isO_y u3.K, bind_some', s61, bind_some']
    dsimp only
    by_cases c2 : tkA B n p.1 = 10061
    · rw [if_neg (bI_t c2)]
      unfold f_Mo_readCompared_43
      rw [ldI_y u3.K, bind_some', u3.sg (m := 61) (by decide) (by omega) c2, if_neg (show ¬ nI 61 = 60 by decide), bind_some', if_pos (show nI 61 = 61 from rfl)]
      exact go 7 (by rw [c2]; decide) (by decide)
    rw [if_pos (bI_f c2), isO_y u3.K, bind_some', s62, bind_some']
    dsimp only
    by_cases c3 : tkA B n p.1 = 10062
    · rw [if_neg (bI_t c3)]
      unfold f_Mo_readCompared_43
      rw [ldI_y u3.K, bind_some', u3.sg (m := 62) (by decide) (by omega) c3, if_neg (show ¬ nI 62 = 60 by decide), bind_some', if_neg (show ¬ nI 62 = 61 by decide)]
      exact go 8 (by rw [c3]; decide) (by decide)
    have e0 : cmO (tkA B n p.1) = 0 := by unfold cmO; rw [if_neg c1, if_neg c2, if_neg c3]
    rw [if_pos (bI_f c3), if_pos e0, isO_y u3.K, bind_some']
    exact XMO.tr u2 (u3.err rfl)
end MREAD3
/-! what waits -/
def LMA : SL := [(131, 15, 19), (131, 28, 29), (131, 32, 34), (147, 800, 1200), (148, 800, 1200), (131, 29, 30), (131, 31, 32), (149, 0, 40)]
def lvP : List Int32 → Nat
  | [] => 0
  | x :: P => lvP P + (if x = 9 ∨ x = 12 then 1 else 0)
def brP : List Int32 → Nat
  | [] => 0
  | x :: P => brP P + (if x = 12 then 1 else 0)
def qP : List Int32 → Nat
  | [] => 0
  | x :: P => qP P + (if x = 12 then 0 else 1)
def drp (x : Int32) : List Int32 → List Int32
  | [] => []
  | y :: P => if y = x then drp x P else y :: P
def emx (x : Int32) : List Int32 → XCS
  | [] => []
  | y :: P => if y = x then (x, 0) :: emx x P else []
theorem brP_d : ∀ P, brP (drp 9 P) = brP P
  | [] => rfl
  | y :: P => by
    unfold drp
    by_cases e : y = 9
    · rw [if_pos e, brP_d P, e]; rfl
    · rw [if_neg e]
theorem emx_q {x : Int32} (hx : x ≠ 12) : ∀ P, (emx x P).length + qP (drp x P) = qP P
  | [] => rfl
  | y :: P => by
    unfold emx drp
    by_cases e : y = x
    · rw [if_pos e, if_pos e, List.length_cons]
      have := emx_q hx P
      show (emx x P).length + 1 + _ = qP P + _
      rw [if_neg (by rw [e]; exact hx)]
      omega
    · rw [if_neg e, if_neg e]; show 0 + _ = _; omega
theorem Stk.cg {h h2 : PH} {o : Nat} : ∀ {V : List Int32}, (∀ j, j < V.length → gI h2 o j = gI h o j) → Stk h o V → Stk h2 o V
  | [], _, _ => trivial
  | x :: V, e, s => ⟨by rw [e V.length (by simp)]; exact s.1, Stk.cg (fun j hj => e j (by simp only [List.length_cons]; omega)) s.2⟩
/-- the reference reads a condition, and P waits -/
def XMA (h : PH) (b n : Nat) (B : Nat → Nat) (c : Nat) (P : List Int32) (i : Nat) (cs : XCS) : Prop := XMR h b n B c i cs ∧ gI h (b + 131) 31 = nI P.length ∧ Stk h (b + 149) P ∧ gI h (b + 131) 29 = nI (lvP P) ∧ P.length ≤ 40 ∧ cs.length ≤ 400
section WAITS
variable {b n c i : Nat} {B : Nat → Nat}
theorem lmp_lma {h h2 : PH} (t : Sn LMP b h h2) : Sn LMA b h h2 := t.up (by decide)
theorem XMA.lmp {h h2 : PH} {P : List Int32} {i' : Nat} {cs cs' : XCS} (C : XMA h b n B c P i cs) (t : Sn LMP b h h2) (m : XMR h2 b n B c i' cs') (hl : cs'.length ≤ 400) : XMA h2 b n B c P i' cs' := by
  obtain ⟨-, c2, c3, c4, c5, -⟩ := C
  refine ⟨m, ?_, c3.cg (fun j hj => t.I (by simp [inL, LMP])), ?_, c5, hl⟩
  · rw [t.I (by decide)]; exact c2
  · rw [t.I (by decide)]; exact c4
theorem mo_waits {h : PH} {P : List Int32} {cs : XCS} (C : XMA h b n B c P i cs) (x : Int32) (hp : P.length < 40) : ∃ h', f_Mo_waits (b + 131) x h = some h' ∧ Sn LMA b h h' ∧ XMR h' b n B c i cs ∧ gI h' (b + 131) 31 = nI (P.length + 1) ∧ Stk h' (b + 149) (x :: P) ∧ gI h' (b + 131) 29 = gI h (b + 131) 29 := by
  obtain ⟨c1, c2, c3, c4, c5, c6⟩ := C
  have K := c1.K
  have s := c1.1.1
  have K149 : gK h (b + 149) = (1, 40) := s.K 149 (by decide) rfl
  have k1 : ∀ v, gK (sI h (b + 149) P.length v) (b + 131) = (0, 9) := fun _ => K
  have t2 : Sn [(131, 31, 32), (149, 0, 40)] b h (sI (sI h (b + 149) P.length x) (b + 131) 31 (nI (P.length + 1))) := (Sn.rf.put 149 _ _ (inL_in (lo := 0) (hi := 40) (by decide) (by omega) (by omega))).put 131 31 _ (by decide)
  refine ⟨_, ?_, t2.up (by decide), c1.sn t2 (by decide) c6, by simp (disch := omega) only [gI_q, gI_n1, gI_n2], ⟨by simp (disch := omega) only [gI_q, gI_n1, gI_n2], ?_⟩, by simp (disch := omega) only [gI_q, gI_n1, gI_n2]⟩
  · unfold f_Mo_waits
    rw [ldR_y K (s.R 131 30 rfl), bind_some', ldI_y K, bind_some', c2, wr_at K149 hp (by omega), bind_some', ldI_y (k1 _), bind_some', gI_n1 (by omega), c2, nI_s, stI_y (k1 _), bind_some']
  · exact (c3.put (Nat.le_refl _)).cg (fun j hj => gI_n1 (by omega))
theorem mo_settles0 {x : Int32} (hx : x = 9 ∨ x = 10 ∨ x = 11) : ∀ (P : List Int32) (N : Nat) (h : PH) (cs : XCS), XMA h b n B c P i cs → cs.length + qP P ≤ i → P.length < N → ∃ h', f_Mo_settles_0 N (b + 131) x h = some h' ∧ Sn LMA b h h' ∧ XMA h' b n B c (drp x P) i (cs ++ emx x P)
  | [], N, h, cs, C, hl, hN => by
    obtain ⟨M, rfl⟩ : ∃ M, N = M + 1 := ⟨N - 1, by omega⟩
    have K := C.1.K
    rw [f_Mo_settles_0, ldI_y K, bind_some', C.2.1, if_pos (show nI ([] : List Int32).length ≤ 0 by decide)]
    exact ⟨h, rfl, Sn.rf, by unfold drp emx; rw [List.append_nil]; exact C⟩
  | y :: P, N, h, cs, C, hl, hN => by
    obtain ⟨M, rfl⟩ : ∃ M, N = M + 1 := ⟨N - 1, by omega⟩
    have K := C.1.K
    have hn := C.1.hn
    have s := C.1.1.1
    have C0 := C
    obtain ⟨c1, c2, c3, c4, c5, c6⟩ := C
    rw [List.length_cons] at c2 c5 hN
    have K149 : gK h (b + 149) = (1, 40) := s.K 149 (by decide) rfl
    have hx12 : x ≠ 12 := by rcases hx with rfl | rfl | rfl <;> decide
    rw [f_Mo_settles_0, ldI_y K, bind_some', c2, if_neg (by
      have z : nI (P.length + 1) ≤ 0 ↔ P.length + 1 ≤ 0 := nI_leL (n := 0) (by omega) (by decide)
      rw [z]; omega), ldR_y K (s.R 131 30 rfl), bind_some', bind_some', show nI (P.length + 1) - 1 = nI P.length from nI_subL (n := 1) _ (by show 1 ≤ _; omega), rd_at K149 (by omega) (by omega) c3.1, bind_some']
    unfold drp emx
    by_cases e : y = x
    · rw [if_pos e, if_pos e, if_pos e, bind_some', show nI (P.length + 1) - 1 = nI P.length from nI_subL (n := 1) _ (by show 1 ≤ _; omega), stI_y K, bind_some']
      have q1 : qP (y :: P) = qP P + 1 := by show qP P + _ = _; rw [if_neg (by rw [e]; exact hx12)]
      rw [q1] at hl
      have t1 : Sn [(131, 31, 32)] b h (sI h (b + 131) 31 (nI P.length)) := Sn.rf.put 131 31 _ (by decide)
      have m1 := c1.sn t1 (by decide) c6
      obtain ⟨h2, w1, w2, w3⟩ := mo_emits m1 x 0 (by omega)
      have hl2 : (cs ++ [(x, (0 : Int32))]).length = cs.length + 1 := by rw [List.length_append]; rfl
      have g31 : gI h2 (b + 131) 31 = nI P.length := by rw [w2.I (by decide)]; simp (disch := omega) only [gI_q, gI_n1, gI_n2]
      have g29 : gI h2 (b + 131) 29 = nI (lvP (y :: P)) := by rw [w2.I (by decide)]; simp (disch := omega) only [gI_q, gI_n1, gI_n2]; exact c4
      have st2 : Stk h2 (b + 149) P := c3.2.cg (fun j hj => by rw [w2.I (by simp [inL, LMP])]; exact gI_n1 (by omega))
      have tt : Sn LMA b h h2 := (t1.up (by decide)).tr (lmp_lma w2)
      rw [isO_y (by rw [gK_sI]; exact K), bind_some', w1, bind_some']
      by_cases x9 : x = 9
      · rw [if_pos x9, ldI_y w3.K, bind_some', stI_y w3.K, bind_some', g29]
        have l9 : lvP (y :: P) = lvP P + 1 := by show lvP P + _ = _; rw [if_pos (Or.inl (e.trans x9))]
        rw [l9, show nI (lvP P + 1) - 1 = nI (lvP P) from nI_subL (n := 1) _ (by show 1 ≤ _; omega)]
        have t3 : Sn [(131, 29, 30)] b h2 (sI h2 (b + 131) 29 (nI (lvP P))) := Sn.rf.put 131 29 _ (by decide)
        have C2 : XMA (sI h2 (b + 131) 29 (nI (lvP P))) b n B c P i (cs ++ [(x, 0)]) := ⟨w3.sn t3 (by decide) (by omega), by simp (disch := omega) only [gI_q, gI_n1, gI_n2]; exact g31, st2.cg (fun j hj => gI_n1 (by omega)), by simp (disch := omega) only [gI_q, gI_n1, gI_n2], by omega, by omega⟩
        obtain ⟨h', z1, z2, z3⟩ := mo_settles0 hx P M _ _ C2 (by rw [hl2]; omega) (by omega)
        refine ⟨h', z1, (tt.tr (t3.up (by decide))).tr z2, ?_⟩
        rw [show cs ++ (x, (0 : Int32)) :: emx x P = cs ++ [(x, 0)] ++ emx x P by simp]
        exact z3
      · rw [if_neg x9]
        have l9 : lvP (y :: P) = lvP P := by show lvP P + _ = _; rw [if_neg (by rw [e]; rintro (z | z); exact x9 z; exact hx12 z)]; rfl
        rw [l9] at g29
        have C2 : XMA h2 b n B c P i (cs ++ [(x, 0)]) := ⟨w3, g31, st2, g29, by omega, by omega⟩
        obtain ⟨h', z1, z2, z3⟩ := mo_settles0 hx P M _ _ C2 (by rw [hl2]; omega) (by omega)
        refine ⟨h', z1, tt.tr z2, ?_⟩
        rw [show cs ++ (x, (0 : Int32)) :: emx x P = cs ++ [(x, 0)] ++ emx x P by simp]
        exact z3
    · rw [if_neg e, if_neg e, if_neg e, List.append_nil]
      exact ⟨h, rfl, Sn.rf, C0⟩
theorem mo_settles {x : Int32} (hx : x = 9 ∨ x = 10 ∨ x = 11) {P : List Int32} {h : PH} {cs : XCS} (C : XMA h b n B c P i cs) (hl : cs.length + qP P ≤ i) : ∃ h', f_Mo_settles (b + 131) x h = some h' ∧ Sn LMA b h h' ∧ XMA h' b n B c (drp x P) i (cs ++ emx x P) := mo_settles0 hx P FU h cs C hl (by have := C.2.2.2.2.1; rw [FU_eq]; omega)
end WAITS
