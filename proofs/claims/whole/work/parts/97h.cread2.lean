theorem n10 : ¬ (1 : Int32) = 0 := by decide
def wI (w : Int32) : Int32 := if w = 0 then 0 else enc w 0
theorem wI_0 {w : Int32} (hw : w = 0 ∨ w = 2 ∨ w = 3) : wI w = 0 ↔ w = 0 := by rcases hw with rfl | rfl | rfl <;> decide
section CREAD2
variable {b n c : Nat} {B : Nat → Nat}
theorem XCR.flush {h : PH} {i : Nat} {cs : XCS} (C : XCR h b n B c i cs) {w : Int32} (hw : w = 0 ∨ w = 2 ∨ w = 3) (hl : cs.length + (if w = 0 then 0 else 1) ≤ i) {k13 : Nat → Int32 → Int32 → PH → Option (Int32 × PH)} {x2 x3 : Int32} : ∃ h1, f_Reader_sum_46 k13 (b + 102) (wI w) x2 x3 0 h = f_Reader_sum_65 k13 (b + 102) (wI w) x2 x3 0 h1 ∧ Sn LCP b h h1 ∧ XCR h1 b n B c i (flu w cs) := by
  have hn := C.hn
  unfold f_Reader_sum_46 flu
  rw [if_pos rfl]
  by_cases q : w = 0
  · rw [if_pos ((wI_0 hw).mpr q), if_pos q]
    exact ⟨h, rfl, Sn.rf, C⟩
  · rw [if_neg (fun z => q ((wI_0 hw).mp z)), if_neg q]
    rw [if_neg q] at hl
    obtain ⟨h1, w1, w2, w3⟩ := cl_write C (o := w) (a := 0) (x := wI w) (by unfold wI; rw [if_neg q]) (by omega)
    rw [C.R.1, bind_some', isO_y C.K.2.1, bind_some', w1, bind_some']
    exact ⟨h1, rfl, w2, w3⟩
theorem cl_suL : ∀ (k N : Nat) (h : PH) (w : Int32) (i m : Nat) (cs : XCS), XCR h b n B c i cs → (w = 0 ∨ w = 2 ∨ w = 3) → m ≤ i → cs.length + (if w = 0 then 0 else 1) ≤ i → c < i + k → c < i + N → XCO h b n B c (suL (tkA B n) k w i cs) (f_Reader_sum_13 N (b + 102) (wI w) (nI m) h) := by
  intro k
  induction k with
  | zero => intro N h w i m cs C _ _ _ h1 _; have := C.hn; omega
  | succ k ih =>
    intro N h w i m cs C hw hm hl hk hN
    have hn := C.hn
    have cE := C.cE
    obtain ⟨M, rfl⟩ : ∃ M, N = M + 1 := ⟨N - 1, by omega⟩
    obtain ⟨K1, K2, K3, K4, K5⟩ := C.K
    obtain ⟨R1, R2, R3, R4⟩ := C.R
    have t9 := C.t9
    have i42 : tkA B n i - 10000 = 42 ↔ tkA B n i = 10042 := by rw [i32_sub, show (42 : Int32) + 10000 = 10042 by decide]
    have i47 : tkA B n i - 10000 = 47 ↔ tkA B n i = 10047 := by rw [i32_sub, show (47 : Int32) + 10000 = 10047 by decide]
    have i43 : tkA B n i - 10000 = 43 ↔ tkA B n i = 10043 := by rw [i32_sub, show (43 : Int32) + 10000 = 10043 by decide]
    have i45 : tkA B n i - 10000 = 45 ↔ tkA B n i = 10045 := by rw [i32_sub, show (45 : Int32) + 10000 = 10045 by decide]
    rw [f_Reader_sum_13, if_neg (by
      have z : 400 < nI m ↔ 400 < m := L_ltn (n := 400) (by omega) (by decide)
      rw [z]; omega), t9, bind_some']
    unfold suL
    by_cases c1 : tkA B n i = 10042
    · rw [if_pos c1, if_pos (i42.mpr c1)]
      have hic := C.lt (by rw [c1]; decide)
      obtain ⟨h1, a1, a2, a3⟩ := cl_adv C hic
      have u := cl_unit a3 (by omega)
      have g := un_gd cE (i := i + 1) (cs := cs) (by omega)
      unfold f_Reader_sum_41 f_Reader_sum_46
      rw [if_neg (by decide)]
      unfold f_Reader_sum_65
      rw [if_neg (by decide)]
      unfold f_Reader_sum_84
      rw [isO_y K1, bind_some', a1, bind_some', if_neg (by rw [c1]; decide), isO_y a3.K.1, bind_some']
      cases e : unS (tkA B n) (i + 1) cs with
      | error er =>
        rw [e] at u
        obtain ⟨h2, u1, u2, u3⟩ := u
        rw [u1, bind_some']
        exact ⟨h2, by rw [if_pos rfl, rtZ_0], a2.tr u2, u3⟩
      | ok p =>
        rw [e] at u g
        obtain ⟨h2, u1, u2, u3⟩ := u
        obtain ⟨g1, g2, v, g3, g4, g5, -⟩ := g
        have hlen : p.2.length = cs.length + 1 := by rw [g3, List.length_append, g5]
        rw [u1, bind_some']
        dsimp only
        rw [if_neg n10]
        unfold f_Reader_sum_113
        rw [if_neg (by decide), u3.R.1, bind_some', if_pos (by rw [c1]; decide)]
        unfold f_Reader_sum_135
        obtain ⟨h3, w1, w2, w3⟩ := cl_write u3 (o := 4) (a := 0) (x := -13) (by decide) (by omega)
        rw [isO_y u3.K.2.1, bind_some', w1, bind_some', nI_s]
        exact XCO.tr ((a2.tr u2).tr w2) (ih M h3 w p.1 (m + 1) _ w3 hw (by omega) (by rw [List.length_append, hlen]; show cs.length + 1 + 1 + _ ≤ _; omega) (by omega) (by omega))
    rw [if_neg c1, if_neg (fun z => c1 (i42.mp z))]
    by_cases c2 : tkA B n i = 10047
    · rw [if_pos c2, if_pos (i47.mpr c2)]
      have hic := C.lt (by rw [c2]; decide)
      obtain ⟨h1, a1, a2, a3⟩ := cl_adv C hic
      have u := cl_div a3 (by omega)
      have g := dv_gd cE (i := i + 1) (cs := cs) (by omega)
      unfold f_Reader_sum_41 f_Reader_sum_46
      rw [if_neg (by decide)]
      unfold f_Reader_sum_65
      rw [if_neg (by decide)]
      unfold f_Reader_sum_84
      rw [isO_y K1, bind_some', a1, bind_some', if_pos (by rw [c2]; decide), isO_y a3.K.1, bind_some']
      cases e : dvS (tkA B n) (i + 1) cs with
      | error er =>
        rw [e] at u
        obtain ⟨h2, u1, u2, u3⟩ := u
        rw [u1, bind_some']
        exact ⟨h2, by rw [if_pos rfl, rtZ_0], a2.tr u2, u3⟩
      | ok p =>
        rw [e] at u g
        obtain ⟨h2, u1, u2, u3⟩ := u
        obtain ⟨g1, g2, v, g3, g4, g5, -⟩ := g
        have hlen : p.2.length = cs.length + 1 := by rw [g3, List.length_append, g5]
        rw [u1, bind_some']
        dsimp only
        rw [if_neg n10]
        unfold f_Reader_sum_113
        rw [if_neg (by decide), u3.R.1, bind_some', if_neg (by rw [c2]; decide)]
        unfold f_Reader_sum_135
        obtain ⟨h3, w1, w2, w3⟩ := cl_write u3 (o := 5) (a := 0) (x := -14) (by decide) (by omega)
        rw [isO_y u3.K.2.1, bind_some', w1, bind_some', nI_s]
        exact XCO.tr ((a2.tr u2).tr w2) (ih M h3 w p.1 (m + 1) _ w3 hw (by omega) (by rw [List.length_append, hlen]; show cs.length + 1 + 1 + _ ≤ _; omega) (by omega) (by omega))
    rw [if_neg c2, if_neg (fun z => c2 (i47.mp z))]
    obtain ⟨h1, f1, f2, f3⟩ := C.flush hw hl (k13 := fun a0 x1 x2 h => f_Reader_sum_13 M a0 x1 x2 h) (x2 := nI m) (x3 := tkA B n i - 10000)
    rw [f1]
    have fl : (flu w cs).length = cs.length + (if w = 0 then 0 else 1) := by
      obtain ⟨v, v1, v2, -⟩ := flu_y hw (cs := cs)
      rw [v1, List.length_append, v2]
    unfold f_Reader_sum_65
    rw [if_pos rfl]
    have go : ∀ (o : Int32), (o = 2 ∨ o = 3) → tkA B n i - 10000 = (if o = 2 then 43 else 45) → tkA B n i ≠ -1 → XCO h b n B c (match unS (tkA B n) (i + 1) (flu w cs) with | .ok r => suL (tkA B n) k o r.1 r.2 | .error e => .error e) (f_Reader_sum_84 (fun a0 x1 x2 h => f_Reader_sum_13 M a0 x1 x2 h) (b + 102) (wI w) (nI m) (tkA B n i - 10000) 0 h1) := by
      intro o ho hv ne
      have hic := C.lt ne
      obtain ⟨h2, a1, a2, a3⟩ := cl_adv f3 hic
      have u := cl_unit a3 (by omega)
      have g := un_gd cE (i := i + 1) (cs := flu w cs) (by omega)
      unfold f_Reader_sum_84
      rw [isO_y f3.K.1, bind_some', a1, bind_some', if_neg (by rw [hv]; rcases ho with rfl | rfl <;> decide), isO_y a3.K.1, bind_some']
      cases e : unS (tkA B n) (i + 1) (flu w cs) with
      | error er =>
        rw [e] at u
        obtain ⟨h3, u1, u2, u3⟩ := u
        rw [u1, bind_some']
        exact ⟨h3, by rw [if_pos rfl, rtZ_0], (f2.tr a2).tr u2, u3⟩
      | ok p =>
        rw [e] at u g
        obtain ⟨h3, u1, u2, u3⟩ := u
        obtain ⟨g1, g2, v, g3, g4, g5, -⟩ := g
        have hlen : p.2.length = (flu w cs).length + 1 := by rw [g3, List.length_append, g5]
        rw [u1, bind_some']
        dsimp only
        rw [if_neg n10]
        unfold f_Reader_sum_113 f_Reader_sum_154
        rw [if_pos rfl]
        have o0 : ¬ o = 0 := by rcases ho with rfl | rfl <;> decide
        have fin := ih M h3 o p.1 (m + 1) _ u3 (Or.inr ho) (by omega) (by rw [if_neg o0, hlen, fl]; omega) (by omega) (by omega)
        rcases ho with rfl | rfl
        · rw [if_pos (by rw [hv]; rfl), nI_s]
          exact XCO.tr ((f2.tr a2).tr u2) fin
        · rw [if_neg (by rw [hv]; decide), nI_s]
          exact XCO.tr ((f2.tr a2).tr u2) fin
    by_cases c3 : tkA B n i = 10043
    · rw [if_pos c3, if_pos (i43.mpr c3)]
      exact go 2 (Or.inl rfl) (by rw [c3]; decide) (by rw [c3]; decide)
    rw [if_neg c3, if_neg (fun z => c3 (i43.mp z))]
    by_cases c4 : tkA B n i = 10045
    · rw [if_pos c4, if_pos (i45.mpr c4)]
      exact go 3 (Or.inr rfl) (by rw [c4]; decide) (by rw [c4]; decide)
    rw [if_neg c4, if_neg (fun z => c4 (i45.mp z))]
    exact ⟨h1, rtZ_1, f2, f3⟩
theorem cl_sum {h : PH} {i K : Nat} {cs : XCS} (C : XCR h b n B c i cs) (hl : cs.length ≤ i) (hK : c < K) : XCO h b n B c (suS (tkA B n) K i cs) (f_Reader_sum (b + 102) h) := by
  have hn := C.hn
  have u := cl_unit C hl
  have g := un_gd C.cE (cs := cs) hn.2.2
  unfold f_Reader_sum suS
  rw [isO_y C.K.1, bind_some']
  cases e : unS (tkA B n) i cs with
  | error er =>
    rw [e] at u
    obtain ⟨h2, u1, u2, u3⟩ := u
    rw [u1, bind_some']
    exact ⟨h2, by rw [if_pos rfl, rtZ_0], u2, u3⟩
  | ok p =>
    rw [e] at u g
    obtain ⟨h2, u1, u2, u3⟩ := u
    obtain ⟨g1, g2, v, g3, g4, g5, -⟩ := g
    have hlen : p.2.length = cs.length + 1 := by rw [g3, List.length_append, g5]
    rw [u1, bind_some']
    dsimp only
    rw [if_neg n10]
    exact XCO.tr u2 (cl_suL K FU h2 0 p.1 0 p.2 u3 (Or.inl rfl) (by omega) (by rw [if_pos rfl]; omega) (by omega) (by rw [FU_eq]; omega))
theorem cl_pass {h : PH} {i : Nat} {cs : XCS} (C : XCR h b n B c i cs) {t : Int32} (ht : t ≠ -1) : XCO h b n B c (if tkA B n i = t then .ok (i + 1, cs) else .error (1, i)) (f_Reader_pass (b + 102) t h) := by
  unfold f_Reader_pass
  rw [C.t9, bind_some']
  by_cases q : tkA B n i = t
  · rw [if_pos q, if_pos q, isO_y C.K.1, bind_some']
    obtain ⟨h1, a1, a2, a3⟩ := cl_adv C (C.lt (by rw [q]; exact ht))
    rw [a1, bind_some']
    exact ⟨h1, rtZ_1, a2, a3⟩
  · rw [if_neg q, if_neg q, isO_y C.K.1, bind_some']
    exact C.err rfl
theorem cl_cmp {h : PH} {i K : Nat} {cs : XCS} (C : XCR h b n B c i cs) (hl : cs.length ≤ i) (hK : c < K) {fc fs : Nat → Int32 → PH → Option (Int32 × PH)} : XCO h b n B c (cmS (tkA B n) K i cs) ((f_Reader_sum (b + 102) h).bind fun p2 => if p2.1 = 0 then rtZ 0 p2.2 else (ldI p2.2 4 (b + 102) 9).bind fun v4 => if v4 = 10060 then f_Reader_single_140 fc fs (b + 102) (-15) p2.2 else (ldI p2.2 4 (b + 102) 9).bind fun v5 => if v5 = 10061 then f_Reader_single_140 fc fs (b + 102) (-16) p2.2 else f_Reader_single_140 fc fs (b + 102) (-17) p2.2) := by
  have hn := C.hn
  have cE := C.cE
  have u := cl_sum C hl hK
  have g := sum_gd cE (K := K) (cs := cs) hn.2.2
  unfold cmS
  cases e : suS (tkA B n) K i cs with
  | error er =>
    rw [e] at u
    obtain ⟨h2, u1, u2, u3⟩ := u
    rw [u1, bind_some']
    exact ⟨h2, by rw [if_pos rfl, rtZ_0], u2, u3⟩
  | ok p =>
    rw [e] at u g
    obtain ⟨h2, u1, u2, u3⟩ := u
    obtain ⟨g1, g2, v, g3, g4, -⟩ := g
    have hlen : p.2.length ≤ p.1 := by rw [g3, List.length_append]; omega
    rw [u1, bind_some']
    dsimp only
    rw [if_neg n10, u3.t9, bind_some', bind_some']
    have go : ∀ (o x : Int32), x = enc o 0 → cmO (tkA B n p.1) = o → ¬ o = 0 → (x = -17 → tkA B n p.1 = 10062) → XCO h b n B c (if cmO (tkA B n p.1) = 0 then .error (1, p.1) else (match suS (tkA B n) K (p.1 + 1) p.2 with | .ok q => .ok (q.1, q.2 ++ [(cmO (tkA B n p.1), 0)]) | .error e => .error e)) (f_Reader_single_140 fc fs (b + 102) x h2) := by
      intro o x hx ho o0 h17
      have ne := (cmO_c (t := tkA B n p.1) (by rw [ho]; exact o0)).2
      have hic := u3.lt ne
      obtain ⟨h3, a1, a2, a3⟩ := cl_adv u3 hic
      have u' := cl_sum a3 (by omega) hK
      have g' := sum_gd cE (K := K) (i := p.1 + 1) (cs := p.2) (by omega)
      rw [if_neg (by rw [ho]; exact o0)]
      have e163 : f_Reader_single_140 fc fs (b + 102) x h2 = f_Reader_single_163 fc fs (b + 102) x h2 := by
        unfold f_Reader_single_140
        by_cases z : x = -17
        · rw [if_pos z, u3.t9, bind_some', if_pos (h17 z)]
        · rw [if_neg z]
      rw [e163]
      unfold f_Reader_single_163
      rw [isO_y u3.K.1, bind_some', a1, bind_some', isO_y a3.K.1, bind_some']
      cases e : suS (tkA B n) K (p.1 + 1) p.2 with
      | error er =>
        rw [e] at u'
        obtain ⟨h4, z1, z2, z3⟩ := u'
        rw [z1, bind_some']
        exact ⟨h4, by rw [if_pos rfl, rtZ_0], (u2.tr a2).tr z2, z3⟩
      | ok q =>
        rw [e] at u' g'
        obtain ⟨h4, z1, z2, z3⟩ := u'
        obtain ⟨y1, y2, v', y3, y4, -⟩ := g'
        have hl' : q.2.length < q.1 := by rw [y3, List.length_append]; omega
        rw [z1, bind_some']
        dsimp only
        rw [if_neg n10, z3.R.1, bind_some', isO_y z3.K.2.1, bind_some']
        obtain ⟨h5, w1, w2, w3⟩ := cl_write z3 (o := o) (a := 0) hx (by omega)
        rw [w1, bind_some', ho]
        exact ⟨h5, rtZ_1, ((u2.tr a2).tr z2).tr w2, w3⟩
    by_cases c1 : tkA B n p.1 = 10060
    · rw [if_pos c1]
      exact go 6 (-15) (by decide) (by rw [c1]; decide) (by decide) (fun z => absurd z (by decide))
    rw [if_neg c1]
    by_cases c2 : tkA B n p.1 = 10061
    · rw [if_pos c2]
      exact go 7 (-16) (by decide) (by rw [c2]; decide) (by decide) (fun z => absurd z (by decide))
    rw [if_neg c2]
    by_cases c3 : tkA B n p.1 = 10062
    · exact go 8 (-17) (by decide) (by rw [c3]; decide) (by decide) (fun _ => c3)
    · have e0 : cmO (tkA B n p.1) = 0 := by unfold cmO; rw [if_neg c1, if_neg c2, if_neg c3]
      rw [if_pos e0]
      unfold f_Reader_single_140
      rw [if_pos rfl, u3.t9, bind_some', if_neg c3, isO_y u3.K.1, bind_some']
      exact XCO.tr u2 (u3.err rfl)
theorem cl_chL {m' : Nat} (hm' : m' ≤ 28) {sg : Nat → XCS → XPR} {fc fs : Nat → Int32 → PH → Option (Int32 × PH)} {x1 : Int32} (hgd : ∀ i cs, i ≤ c → XGd c i cs (YB m') (sg i cs)) (hsg : ∀ h i cs, XCR h b n B c i cs → cs.length ≤ i → XCO h b n B c (sg i cs) (fs (b + 102) x1 h)) : ∀ (k N : Nat) (h : PH) (a o : Bool) (i m : Nat) (cs : XCS), XCR h b n B c i cs → m ≤ i → cs.length + (if a = true then 1 else 0) + (if o = true then 1 else 0) ≤ i → c < i + k → c < i + N → XCO h b n B c (chL (tkA B n) sg k a o i cs) (f_Reader_choice_7 fc fs N (b + 102) x1 (bI a) (bI o) (nI m) h) := by
  intro k
  induction k with
  | zero => intro N h a o i m cs C _ _ h1 _; have := C.hn; omega
  | succ k ih =>
    intro N h a o i m cs C hm hl hk hN
    have hn := C.hn
    have cE := C.cE
    obtain ⟨M, rfl⟩ : ∃ M, N = M + 1 := ⟨N - 1, by omega⟩
    rw [f_Reader_choice_7, if_neg (by
      have z : 400 < nI m ↔ 400 < m := L_ltn (n := 400) (by omega) (by decide)
      rw [z]; omega), isO_y C.K.1, bind_some']
    unfold chL
    have u := hsg h i cs C (by omega)
    have g := hgd i cs hn.2.2
    cases e : sg i cs with
    | error er =>
      rw [e] at u
      obtain ⟨h2, u1, u2, u3⟩ := u
      rw [u1, bind_some']
      exact ⟨h2, by rw [if_pos rfl, rtZ_0], u2, u3⟩
    | ok p =>
      rw [e] at u g
      obtain ⟨h2, u1, u2, u3⟩ := u
      obtain ⟨g1, g2, v, g3, g4, -⟩ := g
      have hlen : p.2.length + (if a = true then 1 else 0) + (if o = true then 1 else 0) ≤ p.1 := by rw [g3, List.length_append]; omega
      rw [u1, bind_some']
      dsimp only
      rw [if_neg n10]
      have st1 : ∃ h3, (if bI a = 0 then f_Reader_choice_38 fc fs (fun a0 x1 x2 x3 x4 h => f_Reader_choice_7 fc fs M a0 x1 x2 x3 x4 h) (b + 102) x1 (bI o) (nI m) h2 else (ldR h2 4 (b + 102) 4).bind fun v3 => (isO h2 2 v3).bind fun _ => (f_Law_write v3 (-18) h2).bind fun h4 => f_Reader_choice_38 fc fs (fun a0 x1 x2 x3 x4 h => f_Reader_choice_7 fc fs M a0 x1 x2 x3 x4 h) (b + 102) x1 (bI o) (nI m) h4) = f_Reader_choice_38 fc fs (fun a0 x1 x2 x3 x4 h => f_Reader_choice_7 fc fs M a0 x1 x2 x3 x4 h) (b + 102) x1 (bI o) (nI m) h3 ∧ Sn LCP b h h3 ∧ XCR h3 b n B c p.1 (emb a 10 p.2) ∧ (emb a 10 p.2).length + (if o = true then 1 else 0) ≤ p.1 := by
        unfold emb
        cases a with
        | false => 
          rw [if_pos (show bI false = 0 from rfl), if_neg (show ¬ (false = true) by decide)]
          rw [if_neg (show ¬ (false = true) by decide)] at hlen
          exact ⟨h2, rfl, u2, u3, by omega⟩
        | true =>
          rw [if_neg (show ¬ bI true = 0 by decide), if_pos (show true = true from rfl)]
          rw [if_pos (show true = true from rfl)] at hlen
          obtain ⟨h3, w1, w2, w3⟩ := cl_write u3 (o := 10) (a := 0) (x := -18) (by decide) (by omega)
          rw [u3.R.1, bind_some', isO_y u3.K.2.1, bind_some', w1, bind_some']
          exact ⟨h3, rfl, u2.tr w2, w3, by rw [List.length_append]; show p.2.length + 1 + _ ≤ _; omega⟩
      obtain ⟨h3, s1, s2, s3, s4⟩ := st1
      rw [s1]
      unfold f_Reader_choice_38
      rw [s3.t9, bind_some']
      by_cases c1 : tkA B n p.1 = 20021
      · rw [if_pos c1, if_pos c1]
        unfold f_Reader_choice_53
        rw [if_neg (by decide)]
        unfold f_Reader_choice_93
        obtain ⟨h4, a1, a2, a3⟩ := cl_adv s3 (s3.lt (by rw [c1]; decide))
        rw [isO_y s3.K.1, bind_some', a1, bind_some', nI_s]
        exact XCO.tr (s2.tr a2) (ih M h4 true o (p.1 + 1) (m + 1) _ a3 (by omega) (by rw [if_pos rfl]; omega) (by omega) (by omega))
      rw [if_neg c1, if_neg c1]
      unfold f_Reader_choice_53
      rw [if_pos rfl]
      have st2 : ∃ h4, (if bI o = 0 then f_Reader_choice_71 fc fs (fun a0 x1 x2 x3 x4 h => f_Reader_choice_7 fc fs M a0 x1 x2 x3 x4 h) (b + 102) x1 0 (nI m) h3 else (ldR h3 4 (b + 102) 4).bind fun v1 => (isO h3 2 v1).bind fun _ => (f_Law_write v1 (-19) h3).bind fun h2 => f_Reader_choice_71 fc fs (fun a0 x1 x2 x3 x4 h => f_Reader_choice_7 fc fs M a0 x1 x2 x3 x4 h) (b + 102) x1 0 (nI m) h2) = f_Reader_choice_71 fc fs (fun a0 x1 x2 x3 x4 h => f_Reader_choice_7 fc fs M a0 x1 x2 x3 x4 h) (b + 102) x1 0 (nI m) h4 ∧ Sn LCP b h h4 ∧ XCR h4 b n B c p.1 (emb o 11 (emb a 10 p.2)) ∧ (emb o 11 (emb a 10 p.2)).length ≤ p.1 := by
        generalize emb a 10 p.2 = q at s3 s4
        unfold emb
        cases o with
        | false =>
          rw [if_pos (show bI false = 0 from rfl), if_neg (show ¬ (false = true) by decide)]
          rw [if_neg (show ¬ (false = true) by decide)] at s4
          exact ⟨h3, rfl, s2, s3, by omega⟩
        | true =>
          rw [if_neg (show ¬ bI true = 0 by decide), if_pos (show true = true from rfl)]
          rw [if_pos (show true = true from rfl)] at s4
          obtain ⟨h4, w1, w2, w3⟩ := cl_write s3 (o := 11) (a := 0) (x := -19) (by decide) (by omega)
          rw [s3.R.1, bind_some', isO_y s3.K.2.1, bind_some', w1, bind_some']
          exact ⟨h4, rfl, s2.tr w2, w3, by rw [List.length_append]; show q.length + 1 ≤ _; omega⟩
      obtain ⟨h4, r1, r2, r3, r4⟩ := st2
      rw [r1]
      unfold f_Reader_choice_71
      rw [r3.t9, bind_some']
      by_cases c2 : tkA B n p.1 = 20020
      · rw [if_pos c2, if_pos c2]
        unfold f_Reader_choice_86
        rw [if_neg (by decide)]
        unfold f_Reader_choice_93
        obtain ⟨h5, a1, a2, a3⟩ := cl_adv r3 (r3.lt (by rw [c2]; decide))
        rw [isO_y r3.K.1, bind_some', a1, bind_some', nI_s]
        exact XCO.tr (r2.tr a2) (ih M h5 false true (p.1 + 1) (m + 1) _ a3 (by omega) (by rw [if_neg (by decide), if_pos rfl]; omega) (by omega) (by omega))
      rw [if_neg c2, if_neg c2]
      unfold f_Reader_choice_86
      rw [if_pos rfl]
      exact ⟨h4, rtZ_1, r2, r3⟩
theorem cl_cs {K : Nat} (hK : c < K) (hcE : tkA B n c = -1) : ∀ d, d ≤ 8 → (∀ (F : Nat) (h : PH) (i : Nat) (cs : XCS), 2 * d + 1 ≤ F → XCR h b n B c i cs → cs.length ≤ i → XCO h b n B c (siS (tkA B n) K d i cs) (f_Reader_cs F 1 (b + 102) (nI (8 - d)) h)) ∧ ∀ (F : Nat) (h : PH) (i : Nat) (cs : XCS), 2 * d + 2 ≤ F → XCR h b n B c i cs → cs.length ≤ i → XCO h b n B c (chS (tkA B n) K d i cs) (f_Reader_cs F 0 (b + 102) (nI (8 - d)) h) := by
  have cho : ∀ d, d ≤ 8 → (∀ (F : Nat) (h : PH) (i : Nat) (cs : XCS), 2 * d + 1 ≤ F → XCR h b n B c i cs → cs.length ≤ i → XCO h b n B c (siS (tkA B n) K d i cs) (f_Reader_cs F 1 (b + 102) (nI (8 - d)) h)) → ∀ (F : Nat) (h : PH) (i : Nat) (cs : XCS), 2 * d + 2 ≤ F → XCR h b n B c i cs → cs.length ≤ i → XCO h b n B c (chS (tkA B n) K d i cs) (f_Reader_cs F 0 (b + 102) (nI (8 - d)) h) := by
    intro d hd hs F h i cs hF C hl
    have hn := C.hn
    obtain ⟨M, rfl⟩ : ∃ M, F = M + 1 := ⟨F - 1, by omega⟩
    rw [f_Reader_cs]
    unfold f_Reader_choice chS
    exact cl_chL (m' := 26 - 2 * d) (by omega) (fun i cs hi => si_gd hcE d i cs hd hi) (fun h i cs C hl => hs M h i cs (by omega) C hl) K FU h false false i 0 cs C (by omega) (by rw [if_neg (show ¬ (false = true) by decide)]; omega) (by omega) (by rw [FU_eq]; omega)
  intro d
  induction d with
  | zero =>
    intro hd
    have si : ∀ (F : Nat) (h : PH) (i : Nat) (cs : XCS), 2 * 0 + 1 ≤ F → XCR h b n B c i cs → cs.length ≤ i → XCO h b n B c (siS (tkA B n) K 0 i cs) (f_Reader_cs F 1 (b + 102) (nI (8 - 0)) h) := by
      intro F h i cs hF C hl
      obtain ⟨M, rfl⟩ : ∃ M, F = M + 1 := ⟨F - 1, by omega⟩
      rw [f_Reader_cs]
      unfold f_Reader_single siS
      rw [C.t9, bind_some']
      have bad : ∀ x2 : Int32, XCO h b n B c (.error (3, i)) (f_Reader_single_30 (fun a x h => f_Reader_cs M 0 a x h) (fun a x h => f_Reader_cs M 1 a x h) (b + 102) (nI (8 - 0)) x2 h) := by
        intro x2
        unfold f_Reader_single_30
        rw [if_neg (by decide), isO_y C.K.1, bind_some']
        exact C.err rfl
      by_cases c1 : tkA B n i = 20022
      · rw [if_pos c1, if_pos c1]
        unfold f_Reader_single_15
        rw [if_neg (by decide)]
        exact bad 1
      rw [if_neg c1, if_neg c1]
      unfold f_Reader_single_15
      rw [if_pos rfl, C.t9, bind_some']
      by_cases c2 : tkA B n i = 10040
      · rw [if_pos c2, if_pos c2]
        exact bad 0
      rw [if_neg c2, if_neg c2, isO_y C.K.1, bind_some']
      exact cl_cmp C hl hK
    exact ⟨si, cho 0 hd si⟩
  | succ d ih =>
    intro hd
    obtain ⟨ihS, ihC⟩ := ih (by omega)
    have si : ∀ (F : Nat) (h : PH) (i : Nat) (cs : XCS), 2 * (d + 1) + 1 ≤ F → XCR h b n B c i cs → cs.length ≤ i → XCO h b n B c (siS (tkA B n) K (d + 1) i cs) (f_Reader_cs F 1 (b + 102) (nI (8 - (d + 1))) h) := by
      intro F h i cs hF C hl
      have hn := C.hn
      obtain ⟨M, rfl⟩ : ∃ M, F = M + 1 := ⟨F - 1, by omega⟩
      have lt8 : nI (8 - (d + 1)) < 8 := by
        have z : nI (8 - (d + 1)) < 8 ↔ 8 - (d + 1) < 8 := nI_ltL (n := 8) (by omega) (by decide)
        rw [z]; omega
      have e8 : nI (8 - (d + 1)) + 1 = nI (8 - d) := by rw [nI_s, show 8 - (d + 1) + 1 = 8 - d by omega]
      rw [f_Reader_cs]
      unfold f_Reader_single siS
      rw [C.t9, bind_some']
      by_cases c1 : tkA B n i = 20022
      · rw [if_pos c1, if_pos c1]
        unfold f_Reader_single_15
        rw [if_neg (by decide)]
        unfold f_Reader_single_30
        obtain ⟨h1, a1, a2, a3⟩ := cl_adv C (C.lt (by rw [c1]; decide))
        rw [if_pos lt8, isO_y C.K.1, bind_some', a1, bind_some', if_neg (by decide), isO_y a3.K.1, bind_some', e8]
        have u := ihS M h1 (i + 1) cs (by omega) a3 (by omega)
        have g := si_gd hcE (K := K) d (i + 1) cs (by omega) a3.hn.2.2
        cases e : siS (tkA B n) K d (i + 1) cs with
        | error er =>
          rw [e] at u
          obtain ⟨h2, u1, u2, u3⟩ := u
          dsimp only
          rw [u1, bind_some']
          exact ⟨h2, by rw [if_pos rfl, rtZ_0], a2.tr u2, u3⟩
        | ok p =>
          rw [e] at u g
          obtain ⟨h2, u1, u2, u3⟩ := u
          obtain ⟨g1, g2, v, g3, g4, -⟩ := g
          have hlen : p.2.length < p.1 := by rw [g3, List.length_append]; omega
          dsimp only
          rw [u1, bind_some']
          dsimp only
          rw [if_neg n10, u3.R.1, bind_some', isO_y u3.K.2.1, bind_some']
          obtain ⟨h3, w1, w2, w3⟩ := cl_write u3 (o := 9) (a := 0) (x := -20) (by decide) (by omega)
          rw [w1, bind_some']
          exact ⟨h3, rtZ_1, (a2.tr u2).tr w2, w3⟩
      rw [if_neg c1, if_neg c1]
      unfold f_Reader_single_15
      rw [if_pos rfl, C.t9, bind_some']
      by_cases c2 : tkA B n i = 10040
      · rw [if_pos c2, if_pos c2]
        unfold f_Reader_single_30
        obtain ⟨h1, a1, a2, a3⟩ := cl_adv C (C.lt (by rw [c2]; decide))
        rw [if_pos lt8, isO_y C.K.1, bind_some', a1, bind_some', if_pos rfl, isO_y a3.K.1, bind_some', e8]
        have u := ihC M h1 (i + 1) cs (by omega) a3 (by omega)
        unfold chS at u
        cases e : chL (tkA B n) (siS (tkA B n) K d) K false false (i + 1) cs with
        | error er =>
          rw [e] at u
          obtain ⟨h2, u1, u2, u3⟩ := u
          dsimp only
          rw [u1, bind_some']
          exact ⟨h2, by rw [if_pos rfl, rtZ_0], a2.tr u2, u3⟩
        | ok p =>
          rw [e] at u
          obtain ⟨h2, u1, u2, u3⟩ := u
          dsimp only
          rw [u1, bind_some']
          dsimp only
          rw [if_neg n10, isO_y u3.K.1, bind_some']
          have w := cl_pass u3 (t := 10041) (by decide)
          by_cases c3 : tkA B n p.1 = 10041
          · rw [if_pos c3] at w ⊢
            obtain ⟨h3, w1, w2, w3⟩ := w
            rw [w1, bind_some']
            exact ⟨h3, by dsimp only; rw [if_neg n10, rtZ_1], (a2.tr u2).tr w2, w3⟩
          · rw [if_neg c3] at w ⊢
            obtain ⟨h3, w1, w2, w3⟩ := w
            rw [w1, bind_some']
            exact ⟨h3, by rw [if_pos rfl, rtZ_0], (a2.tr u2).tr w2, w3⟩
      rw [if_neg c2, if_neg c2, isO_y C.K.1, bind_some']
      exact cl_cmp C hl hK
    exact ⟨si, cho (d + 1) hd si⟩
theorem cl_cho {h : PH} {i K : Nat} {cs : XCS} (C : XCR h b n B c i cs) (hl : cs.length ≤ i) (hK : c < K) : XCO h b n B c (chS (tkA B n) K 8 i cs) (g_Reader_choice (b + 102) 0 h) := (cl_cs hK C.cE 8 (by omega)).2 20 h i cs (by omega) C hl
end CREAD2
