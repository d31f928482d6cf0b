/-! ===== texts: lines ===== -/
abbrev XLS : Type := List (Nat × Nat × Nat × Nat)
abbrev XLR : Type := Except (Nat × Nat) (Nat × XCS × XLS)
def nL : Nat × Nat × Nat × Nat := (0, 0, 0, 0)
section LSPEC
variable (T : Nat → Int32)
def nmS (below : Nat) (oth : Option Nat) (i : Nat) : Except (Nat × Nat) Nat := if isNm (T i) = true then (if below ≤ (T i).toNatClampNeg ∨ oth = some (T i).toNatClampNeg then .error (2, i) else .ok (T i).toNatClampNeg) else .error (1, i)
def lwS (K : Nat) (i : Nat) (cs : XCS) (ls : XLS) : XLR :=
  if T i = 20000 ∨ T i = 20001 ∨ T i = 20002 then (if ls.length = 16 then .error (3, i) else match suS T K (i + 1) cs with
    | .error e => .error e
    | .ok r => match (if T r.1 = 20019 then chS T K 8 (r.1 + 1) r.2 else .ok r) with
      | .error e => .error e
      | .ok q => if T q.1 = 10059 then .ok (q.1 + 1, q.2, ls ++ [((T i).toNatClampNeg - 20000, cs.length, r.2.length, q.2.length)]) else .error (1, q.1))
  else .error (1, i)
def knS (nt : Nat) (i : Nat) (cs : XCS) (ls : XLS) : XLR :=
  if T i = 20023 then (if ls.length = 16 then .error (3, i) else match nmS T nt none (i + 1) with
    | .error e => .error e
    | .ok x => if T (i + 2) = 20024 then (match nmS T nt (some x) (i + 3) with
      | .error e => .error e
      | .ok y => if T (i + 4) = 10059 then .ok (i + 5, cs, ls ++ [(x, y, 0, 0)]) else .error (1, i + 4)) else .error (1, i + 2))
  else .error (1, i)
def dbl (nt no w : Nat) : Nat := if w = 3 then no else if w = 4 ∨ w = 5 then 4 else nt
def sfS (nt no : Nat) (i : Nat) (cs : XCS) (ls : XLS) : XLR :=
  if T i = 20025 then (if ls.length = 16 then .error (3, i) else match nmS T 1000 none (i + 1) with
    | .error e => .error e
    | .ok hr => if 20013 ≤ (T (i + 2)).toNatClampNeg ∧ (T (i + 2)).toNatClampNeg ≤ 20018 then (match nmS T (dbl nt no ((T (i + 2)).toNatClampNeg - 20013)) none (i + 3) with
      | .error e => .error e
      | .ok who => if (T (i + 2)).toNatClampNeg - 20013 = 0 ∨ (T (i + 2)).toNatClampNeg - 20013 = 3 then (if T (i + 4) = 20026 then (match nmS T 4 none (i + 5) with
          | .error e => .error e
          | .ok v => if T (i + 6) = 10059 then .ok (i + 7, cs, ls ++ [(hr, (T (i + 2)).toNatClampNeg - 20013, who, v)]) else .error (1, i + 6)) else .error (1, i + 4))
        else if T (i + 4) = 10059 then .ok (i + 5, cs, ls ++ [(hr, (T (i + 2)).toNatClampNeg - 20013, who, who)]) else .error (1, i + 4)) else .error (1, i + 2))
  else .error (1, i)
def roS (i : Nat) (cs : XCS) (ls : XLS) : XLR :=
  if T i = 20027 then (if ls.length = 16 then .error (3, i) else match nmS T 10 none (i + 1) with
    | .error e => .error e
    | .ok x => match nmS T 10 (some x) (i + 2) with
      | .error e => .error e
      | .ok y => if T (i + 3) = 20028 then (match nmS T 100 none (i + 4) with
        | .error e => .error e
        | .ok u => if T (i + 5) = 20005 then (match nmS T 100 none (i + 6) with
          | .error e => .error e
          | .ok w => if T (i + 7) = 10059 then .ok (i + 8, cs, ls ++ [(x, y, u, w)]) else .error (1, i + 7)) else .error (1, i + 5)) else .error (1, i + 3))
  else .error (1, i)
def tlL (line : Nat → XCS → XLS → XLR) : Nat → Nat → XCS → XLS → Except (Nat × Nat) (XCS × XLS)
  | 0, i, _, _ => .error (0, i)
  | k + 1, i, cs, ls => if T i = -1 then .ok (cs, ls) else match line i cs ls with | .ok r => tlL line k r.1 r.2.1 r.2.2 | .error e => .error e
end LSPEC
/-- a row of the class holds lines -/
def RwL (h : PH) (b a : Nat) (ls : XLS) : Prop := gI h (b + a) 0 = nI 4 ∧ gI h (b + a) 2 = nI ls.length ∧ ls.length ≤ 16 ∧ ∀ l, l < ls.length → gI h (b + (a + 1)) (4 * l) = nI (ls.getD l nL).1 ∧ gI h (b + (a + 1)) (4 * l + 1) = nI (ls.getD l nL).2.1 ∧ gI h (b + (a + 1)) (4 * l + 2) = nI (ls.getD l nL).2.2.1 ∧ gI h (b + (a + 1)) (4 * l + 3) = nI (ls.getD l nL).2.2.2
theorem getD_ap {α : Type} {l : List α} {x d : α} {j : Nat} : (l ++ [x]).getD j d = if j = l.length then x else l.getD j d := by
  by_cases e : j = l.length
  · rw [if_pos e, e, List.getD_eq_getElem?_getD, List.getElem?_concat_length]; rfl
  · rw [if_neg e, List.getD_eq_getElem?_getD, List.getD_eq_getElem?_getD]
    rcases Nat.lt_or_ge j l.length with q | q
    · rw [List.getElem?_append_left q]
    · rw [List.getElem?_eq_none (by rw [List.length_append]; show l.length + 1 ≤ j; omega), List.getElem?_eq_none q]
theorem RwL.put {L : SL} {h : PH} {b a : Nat} {ls : XLS} (s : Shp h b) (ha : a = 105 ∨ a = 110) (r : RwL h b a ls) (hl : ls.length < 16) (x1 x2 x3 x4 : Nat) (h1 : inL L a 2 = true) (h2 : (a + 1, 0, 64) ∈ L) : ∃ h' z, f_Row_put (b + a) (nI x1) (nI x2) (nI x3) (nI x4) h = some (z, h') ∧ Sn L b h h' ∧ RwL h' b a (ls ++ [(x1, x2, x3, x4)]) := by
  obtain ⟨r1, r2, r3, r4⟩ := r
  have K : gK h (b + a) = (0, 6) := by rcases ha with rfl | rfl; exact s.K 105 (by decide) rfl; exact s.K 110 (by decide) rfl
  have R : gR h (b + a) 1 = some (b + (a + 1)) := by rcases ha with rfl | rfl; exact s.R 105 1 rfl; exact s.R 110 1 rfl
  have Kc : gK h (b + (a + 1)) = (1, 64) := by rcases ha with rfl | rfl; exact s.K 106 (by decide) rfl; exact s.K 111 (by decide) rfl
  have e := row_put4 (x1 := nI x1) (x2 := nI x2) (x3 := nI x3) (x4 := nI x4) K R Kc r1 r2 r3 (by omega)
  rw [if_pos hl] at e
  obtain ⟨h', eh⟩ : ∃ h', h' = sI (sI (sI (sI (sI h (b + (a + 1)) (4 * ls.length) (nI x1)) (b + (a + 1)) (4 * ls.length + 1) (nI x2)) (b + (a + 1)) (4 * ls.length + 2) (nI x3)) (b + (a + 1)) (4 * ls.length + 3) (nI x4)) (b + a) 2 (nI (ls.length + 1)) := ⟨_, rfl⟩
  rw [← eh] at e
  have q : ∀ j, j < 64 → inL L (a + 1) j = true := fun j hj => inL_in h2 (by omega) hj
  refine ⟨h', _, e, ?_, ?_, ?_, ?_, fun l hl2 => ?_⟩
  · rw [eh]
    exact ((((Sn.rf.put (a + 1) _ _ (q _ (by omega))).put (a + 1) _ _ (q _ (by omega))).put (a + 1) _ _ (q _ (by omega))).put (a + 1) _ _ (q _ (by omega))).put a 2 _ h1
  · rw [eh]; simp (disch := omega) only [gI_q, gI_n1, gI_n2]; exact r1
  · rw [eh, List.length_append]; simp (disch := omega) only [gI_q, gI_n1, gI_n2]; rfl
  · rw [List.length_append]; show ls.length + 1 ≤ 16; omega
  · rw [List.length_append] at hl2
    have hl2 : l < ls.length + 1 := hl2
    rw [getD_ap]
    by_cases z : l = ls.length
    · rw [if_pos z, eh, z]
      refine ⟨?_, ?_, ?_, ?_⟩ <;> simp (disch := omega) only [gI_q, gI_n1, gI_n2]
    · rw [if_neg z, eh]
      obtain ⟨y1, y2, y3, y4⟩ := r4 l (by omega)
      refine ⟨?_, ?_, ?_, ?_⟩
      · simp (disch := omega) only [gI_q, gI_n1, gI_n2]; exact y1
      · simp (disch := omega) only [gI_q, gI_n1, gI_n2]; exact y2
      · simp (disch := omega) only [gI_q, gI_n1, gI_n2]; exact y3
      · simp (disch := omega) only [gI_q, gI_n1, gI_n2]; exact y4
theorem RwL.sn {L : SL} {h h2 : PH} {b a : Nat} {ls : XLS} (r : RwL h b a ls) (t : Sn L b h h2) (hd : disj L [(a, 0, 3), (a + 1, 0, 64)] = true) : RwL h2 b a ls := by
  obtain ⟨r1, r2, r3, r4⟩ := r
  have g : ∀ j, j < 64 → gI h2 (b + (a + 1)) j = gI h (b + (a + 1)) j := fun j hj => t.I (disj_ok hd (inL_in (lo := 0) (hi := 64) (by simp) (by omega) hj))
  refine ⟨?_, ?_, r3, fun l hl => ?_⟩
  · rw [t.I (disj_ok hd (inL_in (lo := 0) (hi := 3) (by simp) (by omega) (by omega)))]; exact r1
  · rw [t.I (disj_ok hd (inL_in (lo := 0) (hi := 3) (by simp) (by omega) (by omega)))]; exact r2
  · rw [g _ (by omega), g _ (by omega), g _ (by omega), g _ (by omega)]; exact r4 l hl
def LCT : SL := [(102, 2, 4), (102, 8, 11), (104, 2, 3), (107, 0, 400), (105, 2, 3), (106, 0, 64), (110, 2, 3), (111, 0, 64)]
/-- the class reads lines into the row a -/
def XCT (h : PH) (b n : Nat) (B : Nat → Nat) (c a i : Nat) (cs : XCS) (ls : XLS) : Prop := XCR h b n B c i cs ∧ RwL h b a ls ∧ cs.length ≤ i
def XLO (h0 : PH) (b n : Nat) (B : Nat → Nat) (c a : Nat) (r : XLR) (x : Option (Int32 × PH)) : Prop := match r with
  | .ok p => ∃ h', x = some (1, h') ∧ Sn LCT b h0 h' ∧ XCT h' b n B c a p.1 p.2.1 p.2.2
  | .error e => ∃ h', x = some (0, h') ∧ Sn LCT b h0 h' ∧ gI h' (b + 102) 2 = nI e.1 ∧ gI h' (b + 102) 3 = nI (psN B n e.2)
theorem lcp_lct {b : Nat} {h h2 : PH} (t : Sn LCP b h h2) : Sn LCT b h h2 := t.up (by decide)
theorem nI_toN {x : Nat} (hx : x < 2147483648) : (nI x).toNatClampNeg = x := tn_nI hx
section CLINES
variable {b n c : Nat} {B : Nat → Nat}
theorem cl_begin {h : PH} {i : Nat} {cs : XCS} (C : XCR h b n B c i cs) {t : Int32} (ht : t ≠ -1) {m : Nat} (hm : m ≤ 16) : XCO h b n B c (if tkA B n i = t then (if m = 16 then .error (3, i) else .ok (i + 1, cs)) else .error (1, i)) (f_Reader_begin (b + 102) t (nI m) h) := by
  unfold f_Reader_begin
  rw [C.t9, bind_some']
  by_cases q : tkA B n i = t
  · rw [if_pos q, if_pos q]
    have z : nI m < 16 ↔ m < 16 := nI_ltL (n := 16) (by omega) (by decide)
    by_cases q2 : m = 16
    · rw [if_pos q2, if_neg (by rw [z]; omega), isO_y C.K.1, bind_some']
      exact C.err rfl
    · rw [if_neg q2, if_pos (by rw [z]; omega), isO_y C.K.1, bind_some']
      obtain ⟨h1, a1, a2, a3⟩ := cl_adv C (C.lt (by rw [q]; exact ht))
      rw [a1, bind_some']
      exact ⟨h1, rtZ_1, a2, a3⟩
  · rw [if_neg q, if_neg q, isO_y C.K.1, bind_some']
    exact C.err rfl
/-- a number is passed -/
def XNO (h0 : PH) (b n : Nat) (B : Nat → Nat) (c i : Nat) (cs : XCS) (r : Except (Nat × Nat) Nat) (x : Option (Int32 × PH)) : Prop := match r with
  | .ok v => ∃ h', x = some (1, h') ∧ Sn LCP b h0 h' ∧ XCR h' b n B c (i + 1) cs ∧ gI h' (b + 102) 10 = nI v ∧ v ≤ 9999
  | .error e => ∃ h', x = some (0, h') ∧ Sn LCP b h0 h' ∧ gI h' (b + 102) 2 = nI e.1 ∧ gI h' (b + 102) 3 = nI (psN B n e.2)
def oI : Option Nat → Int32
  | some x => nI x
  | none => -1
theorem cl_passN {h : PH} {i below : Nat} {cs : XCS} (C : XCR h b n B c i cs) (hl : cs.length ≤ 400) (hb : below ≤ 10000) {o : Option Nat} (ho : ∀ x, o = some x → x ≤ 9999) : XNO h b n B c i cs (nmS (tkA B n) below o i) (f_Reader_passNumber (b + 102) (nI below) (oI o) h) := by
  have hn := C.hn
  have K1 := C.K.1
  unfold f_Reader_passNumber nmS
  rw [isO_y K1, bind_some', cl_isN C, bind_some']
  dsimp only
  have er : ∀ (k : Nat) (x : Int32), x = nI k → ∃ h', ((f_Reader_fail (b + 102) x h).bind fun p => rtZ p.1 p.2) = some (0, h') ∧ Sn LCP b h h' ∧ gI h' (b + 102) 2 = nI k ∧ gI h' (b + 102) 3 = nI (psN B n i) := fun k x hx => C.err hx
  by_cases q : isNm (tkA B n i) = true
  · obtain ⟨x, x1, x2⟩ := isNm_g q
    have tn : (tkA B n i).toNatClampNeg = x := by rw [x2]; exact tn_nI (by omega)
    rw [if_pos q, if_neg (show ¬ bI (isNm (tkA B n i)) = 0 by rw [q]; decide), C.t9, bind_some', bind_some', bind_some', tn, x2]
    have z1 : nI below ≤ nI x ↔ below ≤ x := nI_le' (by omega) (by omega)
    have z2 : nI x = oI o ↔ o = some x := by
      cases o with
      | none => exact ⟨fun e => absurd e (nI_ne_m1 (by omega)), fun e => by cases e⟩
      | some y =>
        show nI x = nI y ↔ _
        rw [nI_eq' (by omega) (by have := ho y rfl; omega)]
        exact ⟨fun e => by rw [e], fun e => by injection e with e; exact e.symm⟩
    by_cases q1 : below ≤ x
    · rw [if_pos (z1.mpr q1), if_pos (Or.inl q1)]
      unfold f_Reader_passNumber_29
      rw [isO_y K1, bind_some']
      exact er 2 2 rfl
    · rw [if_neg (fun z => q1 (z1.mp z))]
      by_cases q2 : o = some x
      · rw [if_pos (z2.mpr q2), if_pos (Or.inr q2)]
        unfold f_Reader_passNumber_29
        rw [isO_y K1, bind_some']
        exact er 2 2 rfl
      · rw [if_neg (fun z => q2 (z2.mp z)), if_neg (by rintro (z | z); exact q1 z; exact q2 z), stI_y K1, bind_some']
        have t1 : Sn [(102, 10, 11)] b h (sI h (b + 102) 10 (nI x)) := Sn.rf.put 102 10 _ (by decide)
        have C1 := C.sn t1 (by decide) hl
        obtain ⟨h2, a1, a2, a3⟩ := cl_adv2 C1 (C1.lt (by rw [x2]; exact nI_ne_m1 (by omega)))
        rw [isO_y C1.K.1, bind_some', a1, bind_some']
        have h10 : gI h2 (b + 102) 10 = nI x := by rw [a2.I (by decide)]; simp (disch := omega) only [gI_q, gI_n1, gI_n2]
        exact ⟨h2, rtZ_1, (t1.up (by decide)).tr (a2.up (by decide)), a3, h10, x1⟩
  · rw [if_neg q, if_pos (show bI (isNm (tkA B n i)) = 0 by rw [show isNm (tkA B n i) = false by simpa using q]; rfl), isO_y K1, bind_some']
    exact er 1 1 rfl
end CLINES
