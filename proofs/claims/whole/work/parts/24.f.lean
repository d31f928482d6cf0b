def f_Tc_who (a0 : Nat) (x1 : Int32) (x2 : Int32) (h : PH) : Option (Int32 × PH) :=
  (ldR h 8 a0 0).bind fun v1 =>
  (ldR h 1 v1 0).bind fun v2 =>
  (isO h 5 v2).bind fun _ =>
  (f_Realm_isOfficer v2 x1 h).bind fun p3 =>
  if p3.1 = 0 then
    some ((-1), p3.2)
  else
    if x2 = 0 then
      (ldR p3.2 5 v2 10).bind fun v5 =>
      (rdA p3.2 v5 x1).bind fun v6 =>
      some (v6, p3.2)
    else
      if x2 = 1 then
        (ldR p3.2 5 v2 11).bind fun v7 =>
        (rdA p3.2 v7 x1).bind fun v8 =>
        some (v8, p3.2)
      else
        if x2 = 2 then
          (ldR p3.2 5 v2 12).bind fun v9 =>
          (rdA p3.2 v9 x1).bind fun v10 =>
          some (v10, p3.2)
        else
          if x2 = 3 then
            (ldR p3.2 5 v2 13).bind fun v11 =>
            (rdA p3.2 v11 x1).bind fun v12 =>
            some (v12, p3.2)
          else
            some ((-1), p3.2)
theorem t_Tc_who {d : Nat} (hd : 1 ≤ d) {a0 : Nat} {x1 : Int32} {x2 : Int32} {h : PH} {r : Int32 × PH} (hq : f_Tc_who a0 x1 x2 h = some r) : E d 0 0 m_Tc_who 0 [(0, .ref a0), (1, .int x1), (2, .int x2)] [] h (PI r) := by
  unfold f_Tc_who at hq
  obtain ⟨d, rfl⟩ : ∃ e, d = e + 1 := ⟨d - 1, by omega⟩
  refine E_aln 0 d_Tc_who_0 rfl rfl ?_
  obtain ⟨v1, ev1, hq⟩ := bd hq
  refine E_gR d_Tc_who_1 lk_Tc_10 rfl ev1 ?_
  obtain ⟨v2, ev2, hq⟩ := bd hq
  refine E_gR d_Tc_who_4 lk_Tc_47 rfl ev2 ?_
  refine E_asn (ls' := [(3, .ref v2), (0, .ref a0), (1, .int x1), (2, .int x2)]) d_Tc_who_7 (Nat.le_of_ble_eq_true rfl) rfl ?_
  refine E_aln 0 d_Tc_who_8 rfl rfl ?_
  refine E_iln 2 d_Tc_who_9 rfl rfl ?_
  obtain ⟨q4, eq4, hq⟩ := bd hq
  obtain ⟨p3, ep3, hq⟩ := bd hq
  refine E_cV1I d_Tc_who_10 ck_Tc_90 rfl rfl eq4 (Nat.le_of_ble_eq_true rfl) (Nat.le_of_ble_eq_true rfl) (t_Realm_isOfficer (by omega) ep3) ?_
  refine E_zne (tgt := 18) d_Tc_who_13 (by decide) (fun c => ?_) (fun c => ?_)
  · rw [if_neg c] at hq
    refine E_iln 3 d_Tc_who_18 rfl rfl ?_
    by_cases c0 : x2 = 0
    · rw [if_pos c0] at hq
      refine E_table (tgt := 48) d_Tc_who_19 (by rw [c0]; decide) (fun _ _ => ⟨29, by rw [c0]; decide, by decide⟩) ?_
      refine E_aln 0 d_Tc_who_48 rfl rfl ?_
      obtain ⟨v5, ev5, hq⟩ := bd hq
      refine E_gR d_Tc_who_49 lk_Tc_197 rfl ev5 ?_
      refine E_iln 2 d_Tc_who_52 rfl rfl ?_
      obtain ⟨v6, ev6, hq⟩ := bd hq
      refine E_ra d_Tc_who_53 ev6 ?_
      exact E_rI d_Tc_who_54 rfl hq
    · rw [if_neg c0] at hq
      by_cases c1 : x2 = 1
      · rw [if_pos c1] at hq
        refine E_table (tgt := 55) d_Tc_who_19 (by rw [c1]; decide) (fun _ _ => ⟨36, by rw [c1]; decide, by decide⟩) ?_
        refine E_aln 0 d_Tc_who_55 rfl rfl ?_
        obtain ⟨v7, ev7, hq⟩ := bd hq
        refine E_gR d_Tc_who_56 lk_Tc_200 rfl ev7 ?_
        refine E_iln 2 d_Tc_who_59 rfl rfl ?_
        obtain ⟨v8, ev8, hq⟩ := bd hq
        refine E_ra d_Tc_who_60 ev8 ?_
        exact E_rI d_Tc_who_61 rfl hq
      · rw [if_neg c1] at hq
        by_cases c2 : x2 = 2
        · rw [if_pos c2] at hq
          refine E_table (tgt := 62) d_Tc_who_19 (by rw [c2]; decide) (fun _ _ => ⟨43, by rw [c2]; decide, by decide⟩) ?_
          refine E_aln 0 d_Tc_who_62 rfl rfl ?_
          obtain ⟨v9, ev9, hq⟩ := bd hq
          refine E_gR d_Tc_who_63 lk_Tc_203 rfl ev9 ?_
          refine E_iln 2 d_Tc_who_66 rfl rfl ?_
          obtain ⟨v10, ev10, hq⟩ := bd hq
          refine E_ra d_Tc_who_67 ev10 ?_
          exact E_rI d_Tc_who_68 rfl hq
        · rw [if_neg c2] at hq
          by_cases c3 : x2 = 3
          · rw [if_pos c3] at hq
            refine E_table (tgt := 69) d_Tc_who_19 (by rw [c3]; decide) (fun _ _ => ⟨50, by rw [c3]; decide, by decide⟩) ?_
            refine E_aln 0 d_Tc_who_69 rfl rfl ?_
            obtain ⟨v11, ev11, hq⟩ := bd hq
            refine E_gR d_Tc_who_70 lk_Tc_206 rfl ev11 ?_
            refine E_iln 2 d_Tc_who_73 rfl rfl ?_
            obtain ⟨v12, ev12, hq⟩ := bd hq
            refine E_ra d_Tc_who_74 ev12 ?_
            exact E_rI d_Tc_who_75 rfl hq
          · rw [if_neg c3] at hq
            refine E_table (tgt := 76) d_Tc_who_19 (fun _ => by decide) (fun z1 z2 => (tab_out (l := [0, 1, 2, 3]) ⟨(fun z => c0 (z.trans (by decide))), (fun z => c1 (z.trans (by decide))), (fun z => c2 (z.trans (by decide))), (fun z => c3 (z.trans (by decide))), trivial⟩ (by decide) z1 z2).elim) ?_
            refine E_ic (v := (-1)) d_Tc_who_76 (by decide) ?_
            exact E_rI d_Tc_who_77 rfl hq
  · rw [if_pos c] at hq
    refine E_ic (v := (-1)) d_Tc_who_16 (by decide) ?_
    exact E_rI d_Tc_who_17 rfl hq
def f_Land_bookCell (a0 : Nat) (x1 : Int32) (x2 : Int32) (h : PH) : Option (Int32 × PH) :=
  (ldR h 1 a0 1).bind fun v1 =>
  (lnA h v1).bind fun v2 =>
  (f_Tc_within ((x1 * 4) + x2) (v2 - 1) h).bind fun p3 =>
  if p3.1 = 0 then
    some ((-1), p3.2)
  else
    (ldR p3.2 1 a0 1).bind fun v4 =>
    (rdA p3.2 v4 ((x1 * 4) + x2)).bind fun v5 =>
    some (v5, p3.2)
theorem t_Land_bookCell {d : Nat} (hd : 1 ≤ d) {a0 : Nat} {x1 : Int32} {x2 : Int32} {h : PH} {r : Int32 × PH} (hq : f_Land_bookCell a0 x1 x2 h = some r) : E d 0 0 m_Land_bookCell 0 [(0, .ref a0), (1, .int x1), (2, .int x2)] [] h (PI r) := by
  unfold f_Land_bookCell at hq
  obtain ⟨d, rfl⟩ : ∃ e, d = e + 1 := ⟨d - 1, by omega⟩
  refine E_iln 1 d_Land_bookCell_0 rfl rfl ?_
  refine E_ic (v := 4) d_Land_bookCell_1 (by decide) ?_
  refine E_imul d_Land_bookCell_2 ?_
  refine E_iln 2 d_Land_bookCell_3 rfl rfl ?_
  refine E_iadd d_Land_bookCell_4 ?_
  refine E_isn (ls' := [(3, .int ((x1 * 4) + x2)), (0, .ref a0), (1, .int x1), (2, .int x2)]) d_Land_bookCell_5 (Nat.le_of_ble_eq_true rfl) rfl ?_
  refine E_iln 0 d_Land_bookCell_6 rfl rfl ?_
  refine E_aln 1 d_Land_bookCell_7 rfl rfl ?_
  obtain ⟨v1, ev1, hq⟩ := bd hq
  refine E_gR d_Land_bookCell_8 lk_Land_18 rfl ev1 ?_
  obtain ⟨v2, ev2, hq⟩ := bd hq
  refine E_ln d_Land_bookCell_11 ev2 ?_
  refine E_ic (v := 1) d_Land_bookCell_12 (by decide) ?_
  refine E_isub d_Land_bookCell_13 ?_
  obtain ⟨p3, ep3, hq⟩ := bd hq
  refine E_cS2I d_Land_bookCell_14 ck_Land_70 (Nat.le_of_ble_eq_true rfl) (Nat.le_of_ble_eq_true rfl) (t_Tc_within (by omega) ep3) ?_
  refine E_zeq (tgt := 29) d_Land_bookCell_17 (by decide) (fun c => ?_) (fun c => ?_)
  · rw [if_pos c] at hq
    refine E_ic (v := (-1)) d_Land_bookCell_29 (by decide) ?_
    exact E_rI d_Land_bookCell_30 rfl hq
  · rw [if_neg c] at hq
    refine E_aln 1 d_Land_bookCell_20 rfl rfl ?_
    obtain ⟨v4, ev4, hq⟩ := bd hq
    refine E_gR d_Land_bookCell_21 lk_Land_18 rfl ev4 ?_
    refine E_iln 0 d_Land_bookCell_24 rfl rfl ?_
    obtain ⟨v5, ev5, hq⟩ := bd hq
    refine E_ra d_Land_bookCell_25 ev5 ?_
    refine E_goto (tgt := 30) d_Land_bookCell_26 (by decide) ?_
    exact E_rI d_Land_bookCell_30 rfl hq
def f_Tc_book (a0 : Nat) (x1 : Int32) (x2 : Int32) (h : PH) : Option (Int32 × PH) :=
  if x1 < 0 then
    some ((-1), h)
  else
    (ldR h 8 a0 0).bind fun v1 =>
    (ldR h 1 v1 0).bind fun v2 =>
    (ldI h 5 v2 19).bind fun v3 =>
    if v3 ≤ x1 then
      some ((-1), h)
    else
      (f_Tc_within x2 3 h).bind fun p4 =>
      if p4.1 = 0 then
        some ((-1), p4.2)
      else
        (ldR p4.2 8 a0 0).bind fun v5 =>
        (isO p4.2 1 v5).bind fun _ =>
        (f_Land_bookCell v5 x1 x2 p4.2).bind fun p6 =>
        some (p6.1, p6.2)
theorem t_Tc_book {d : Nat} (hd : 2 ≤ d) {a0 : Nat} {x1 : Int32} {x2 : Int32} {h : PH} {r : Int32 × PH} (hq : f_Tc_book a0 x1 x2 h = some r) : E d 0 0 m_Tc_book 0 [(0, .ref a0), (1, .int x1), (2, .int x2)] [] h (PI r) := by
  unfold f_Tc_book at hq
  obtain ⟨d, rfl⟩ : ∃ e, d = e + 1 := ⟨d - 1, by omega⟩
  refine E_iln 1 d_Tc_book_0 rfl rfl ?_
  refine E_zlt (tgt := 26) d_Tc_book_1 (by decide) (fun c => ?_) (fun c => ?_)
  · rw [if_pos c] at hq
    refine E_ic (v := (-1)) d_Tc_book_26 (by decide) ?_
    exact E_rI d_Tc_book_27 rfl hq
  · rw [if_neg c] at hq
    refine E_iln 1 d_Tc_book_4 rfl rfl ?_
    refine E_aln 0 d_Tc_book_5 rfl rfl ?_
    obtain ⟨v1, ev1, hq⟩ := bd hq
    refine E_gR d_Tc_book_6 lk_Tc_10 rfl ev1 ?_
    obtain ⟨v2, ev2, hq⟩ := bd hq
    refine E_gR d_Tc_book_9 lk_Tc_47 rfl ev2 ?_
    obtain ⟨v3, ev3, hq⟩ := bd hq
    refine E_gI d_Tc_book_12 lk_Tc_209 rfl ev3 ?_
    refine E_jge (tgt := 26) d_Tc_book_15 (by decide) (fun c => ?_) (fun c => ?_)
    · rw [if_pos c] at hq
      refine E_ic (v := (-1)) d_Tc_book_26 (by decide) ?_
      exact E_rI d_Tc_book_27 rfl hq
    · rw [if_neg c] at hq
      refine E_iln 2 d_Tc_book_18 rfl rfl ?_
      refine E_ic (v := 3) d_Tc_book_19 (by decide) ?_
      obtain ⟨p4, ep4, hq⟩ := bd hq
      refine E_cS2I d_Tc_book_20 ck_Tc_57 (Nat.le_of_ble_eq_true rfl) (Nat.le_of_ble_eq_true rfl) (t_Tc_within (by omega) ep4) ?_
      refine E_zne (tgt := 28) d_Tc_book_23 (by decide) (fun c => ?_) (fun c => ?_)
      · rw [if_neg c] at hq
        refine E_aln 0 d_Tc_book_28 rfl rfl ?_
        obtain ⟨v5, ev5, hq⟩ := bd hq
        refine E_gR d_Tc_book_29 lk_Tc_10 rfl ev5 ?_
        refine E_iln 1 d_Tc_book_32 rfl rfl ?_
        refine E_iln 2 d_Tc_book_33 rfl rfl ?_
        obtain ⟨q7, eq7, hq⟩ := bd hq
        obtain ⟨p6, ep6, hq⟩ := bd hq
        refine E_cV2I d_Tc_book_34 ck_Tc_211 rfl rfl eq7 (Nat.le_of_ble_eq_true rfl) (Nat.le_of_ble_eq_true rfl) (t_Land_bookCell (by omega) ep6) ?_
        exact E_rI d_Tc_book_37 rfl hq
      · rw [if_pos c] at hq
        refine E_ic (v := (-1)) d_Tc_book_26 (by decide) ?_
        exact E_rI d_Tc_book_27 rfl hq
def f_Tc_goes_37 : Nat → Nat → Int32 → Int32 → Int32 → PH → Option (Int32 × PH)
  | 0, _, _, _, _, _ => none
  | n + 1, a0, x1, x2, x3, h =>
    if x1 ≤ x3 then
      if x2 = 0 then
        (ldR h 8 a0 3).bind fun v1 =>
        (ldI h 5 v1 15).bind fun v2 =>
        some (v2, h)
      else
        if x2 = 1 then
          (ldR h 8 a0 3).bind fun v3 =>
          (ldI h 5 v3 7).bind fun v4 =>
          (f_Int_bitCount v4 h).bind fun p5 =>
          some (p5.1, p5.2)
        else
          if x2 = 2 then
            (ldR h 8 a0 3).bind fun v6 =>
            (ldI h 5 v6 16).bind fun v7 =>
            some (v7, h)
          else
            (ldR h 8 a0 3).bind fun v8 =>
            (ldI h 5 v8 8).bind fun v9 =>
            (f_Int_bitCount v9 h).bind fun p10 =>
            some (p10.1, p10.2)
    else
      (ldR h 8 a0 0).bind fun v11 =>
      (ldR h 8 a0 3).bind fun v12 =>
      (isO h 1 v11).bind fun _ =>
      (f_Land_passHour v11 v12 1 h).bind fun h13 =>
      f_Tc_goes_37 n a0 x1 x2 (x3 + 1) h13
theorem t_Tc_goes_37 {d : Nat} (hd : 6 ≤ d) : ∀ (n : Nat) (a0 : Nat) (x1 : Int32) (x2 : Int32) (x3 : Int32) (h : PH) (r : Int32 × PH), f_Tc_goes_37 n a0 x1 x2 x3 h = some r → E d 0 0 m_Tc_goes 37 [(0, .ref a0), (1, .int x1), (2, .int x2), (3, .int x3)] [] h (PI r) := by
  intro n
  induction n with
  | zero => intro a0 x1 x2 x3 h r hq; rw [f_Tc_goes_37] at hq; cases hq
  | succ n ih =>
    intro a0 x1 x2 x3 h r hq
    rw [f_Tc_goes_37] at hq
    obtain ⟨d, rfl⟩ : ∃ e, d = e + 1 := ⟨d - 1, by omega⟩
    refine E_iln 3 d_Tc_goes_37 rfl rfl ?_
    refine E_iln 1 d_Tc_goes_38 rfl rfl ?_
    refine E_jge (tgt := 60) d_Tc_goes_39 (by decide) (fun c => ?_) (fun c => ?_)
    · rw [if_pos c] at hq
      refine E_iln 2 d_Tc_goes_60 rfl rfl ?_
      by_cases c0 : x2 = 0
      · rw [if_pos c0] at hq
        refine E_table (tgt := 88) d_Tc_goes_61 (by rw [c0]; decide) (fun _ _ => ⟨27, by rw [c0]; decide, by decide⟩) ?_
        refine E_aln 0 d_Tc_goes_88 rfl rfl ?_
        obtain ⟨v1, ev1, hq⟩ := bd hq
        refine E_gR d_Tc_goes_89 lk_Tc_33 rfl ev1 ?_
        obtain ⟨v2, ev2, hq⟩ := bd hq
        refine E_gI d_Tc_goes_92 lk_Tc_217 rfl ev2 ?_
        exact E_rI d_Tc_goes_95 rfl hq
      · rw [if_neg c0] at hq
        by_cases c1 : x2 = 1
        · rw [if_pos c1] at hq
          refine E_table (tgt := 96) d_Tc_goes_61 (by rw [c1]; decide) (fun _ _ => ⟨35, by rw [c1]; decide, by decide⟩) ?_
          refine E_aln 0 d_Tc_goes_96 rfl rfl ?_
          obtain ⟨v3, ev3, hq⟩ := bd hq
          refine E_gR d_Tc_goes_97 lk_Tc_33 rfl ev3 ?_
          obtain ⟨v4, ev4, hq⟩ := bd hq
          refine E_gI d_Tc_goes_100 lk_Tc_100 rfl ev4 ?_
          obtain ⟨p5, ep5, hq⟩ := bd hq
          refine E_cS1I d_Tc_goes_103 ck_Tc_103 (Nat.le_of_ble_eq_true rfl) (Nat.le_of_ble_eq_true rfl) (t_Int_bitCount (by omega) ep5) ?_
          exact E_rI d_Tc_goes_106 rfl hq
        · rw [if_neg c1] at hq
          by_cases c2 : x2 = 2
          · rw [if_pos c2] at hq
            refine E_table (tgt := 107) d_Tc_goes_61 (by rw [c2]; decide) (fun _ _ => ⟨46, by rw [c2]; decide, by decide⟩) ?_
            refine E_aln 0 d_Tc_goes_107 rfl rfl ?_
            obtain ⟨v6, ev6, hq⟩ := bd hq
            refine E_gR d_Tc_goes_108 lk_Tc_33 rfl ev6 ?_
            obtain ⟨v7, ev7, hq⟩ := bd hq
            refine E_gI d_Tc_goes_111 lk_Tc_220 rfl ev7 ?_
            exact E_rI d_Tc_goes_114 rfl hq
          · rw [if_neg c2] at hq
            refine E_table (tgt := 115) d_Tc_goes_61 (fun _ => by decide) (fun z1 z2 => (tab_out (l := [0, 1, 2]) ⟨(fun z => c0 (z.trans (by decide))), (fun z => c1 (z.trans (by decide))), (fun z => c2 (z.trans (by decide))), trivial⟩ (by decide) z1 z2).elim) ?_
            refine E_aln 0 d_Tc_goes_115 rfl rfl ?_
            obtain ⟨v8, ev8, hq⟩ := bd hq
            refine E_gR d_Tc_goes_116 lk_Tc_33 rfl ev8 ?_
            obtain ⟨v9, ev9, hq⟩ := bd hq
            refine E_gI d_Tc_goes_119 lk_Tc_191 rfl ev9 ?_
            obtain ⟨p10, ep10, hq⟩ := bd hq
            refine E_cS1I d_Tc_goes_122 ck_Tc_103 (Nat.le_of_ble_eq_true rfl) (Nat.le_of_ble_eq_true rfl) (t_Int_bitCount (by omega) ep10) ?_
            exact E_rI d_Tc_goes_125 rfl hq
    · rw [if_neg c] at hq
      refine E_aln 0 d_Tc_goes_42 rfl rfl ?_
      obtain ⟨v11, ev11, hq⟩ := bd hq
      refine E_gR d_Tc_goes_43 lk_Tc_10 rfl ev11 ?_
      refine E_aln 0 d_Tc_goes_46 rfl rfl ?_
      obtain ⟨v12, ev12, hq⟩ := bd hq
      refine E_gR d_Tc_goes_47 lk_Tc_33 rfl ev12 ?_
      refine E_ic (v := 1) d_Tc_goes_50 (by decide) ?_
      obtain ⟨q14, eq14, hq⟩ := bd hq
      obtain ⟨h13, eh13, hq⟩ := bd hq
      refine E_cV2V d_Tc_goes_51 ck_Tc_109 rfl rfl eq14 (Nat.le_of_ble_eq_true rfl) (Nat.le_of_ble_eq_true rfl) (t_Land_passHour (by omega) eh13) ?_
      refine E_inc (v := 1) (ls' := [(3, .int (x3 + 1)), (0, .ref a0), (1, .int x1), (2, .int x2)]) 3 d_Tc_goes_54 rfl (Nat.le_of_ble_eq_true rfl) (by decide) rfl ?_
      refine E_goto (tgt := 37) d_Tc_goes_57 (by decide) ?_
      exact E_sub (ks := [1, 2, 3, 0]) rfl <| ih _ _ _ _ _ _ hq
def f_Tc_goes (a0 : Nat) (x1 : Int32) (x2 : Int32) (h : PH) : Option (Int32 × PH) :=
  if x1 < 1 then
    some ((-1), h)
  else
    if 60 < x1 then
      some ((-1), h)
    else
      (f_Tc_within x2 3 h).bind fun p1 =>
      if p1.1 = 0 then
        some ((-1), p1.2)
      else
        (ldR p1.2 8 a0 3).bind fun v2 =>
        (ldR p1.2 8 a0 0).bind fun v3 =>
        (ldR p1.2 1 v3 0).bind fun v4 =>
        (isO p1.2 5 v2).bind fun _ =>
        (f_Realm_copyFrom v2 v4 p1.2).bind fun h5 =>
        f_Tc_goes_37 FU a0 x1 x2 0 h5
theorem t_Tc_goes {d : Nat} (hd : 6 ≤ d) {a0 : Nat} {x1 : Int32} {x2 : Int32} {h : PH} {r : Int32 × PH} (hq : f_Tc_goes a0 x1 x2 h = some r) : E d 0 0 m_Tc_goes 0 [(0, .ref a0), (1, .int x1), (2, .int x2)] [] h (PI r) := by
  unfold f_Tc_goes at hq
  obtain ⟨d, rfl⟩ : ∃ e, d = e + 1 := ⟨d - 1, by omega⟩
  refine E_iln 1 d_Tc_goes_0 rfl rfl ?_
  refine E_ic (v := 1) d_Tc_goes_1 (by decide) ?_
  refine E_jlt (tgt := 19) d_Tc_goes_2 (by decide) (fun c => ?_) (fun c => ?_)
  · rw [if_pos c] at hq
    refine E_ic (v := (-1)) d_Tc_goes_19 (by decide) ?_
    exact E_rI d_Tc_goes_20 rfl hq
  · rw [if_neg c] at hq
    refine E_iln 1 d_Tc_goes_5 rfl rfl ?_
    refine E_bi (v := 60) d_Tc_goes_6 (by decide) ?_
    refine E_jgt (tgt := 19) d_Tc_goes_8 (by decide) (fun c => ?_) (fun c => ?_)
    · rw [if_pos c] at hq
      refine E_ic (v := (-1)) d_Tc_goes_19 (by decide) ?_
      exact E_rI d_Tc_goes_20 rfl hq
    · rw [if_neg c] at hq
      refine E_iln 2 d_Tc_goes_11 rfl rfl ?_
      refine E_ic (v := 3) d_Tc_goes_12 (by decide) ?_
      obtain ⟨p1, ep1, hq⟩ := bd hq
      refine E_cS2I d_Tc_goes_13 ck_Tc_57 (Nat.le_of_ble_eq_true rfl) (Nat.le_of_ble_eq_true rfl) (t_Tc_within (by omega) ep1) ?_
      refine E_zne (tgt := 21) d_Tc_goes_16 (by decide) (fun c => ?_) (fun c => ?_)
      · rw [if_neg c] at hq
        refine E_aln 0 d_Tc_goes_21 rfl rfl ?_
        obtain ⟨v2, ev2, hq⟩ := bd hq
        refine E_gR d_Tc_goes_22 lk_Tc_33 rfl ev2 ?_
        refine E_aln 0 d_Tc_goes_25 rfl rfl ?_
        obtain ⟨v3, ev3, hq⟩ := bd hq
        refine E_gR d_Tc_goes_26 lk_Tc_10 rfl ev3 ?_
        obtain ⟨v4, ev4, hq⟩ := bd hq
        refine E_gR d_Tc_goes_29 lk_Tc_47 rfl ev4 ?_
        obtain ⟨q6, eq6, hq⟩ := bd hq
        obtain ⟨h5, eh5, hq⟩ := bd hq
        refine E_cV1V d_Tc_goes_32 ck_Tc_215 rfl rfl eq6 (Nat.le_of_ble_eq_true rfl) (Nat.le_of_ble_eq_true rfl) (t_Realm_copyFrom (by omega) eh5) ?_
        refine E_ic (v := 0) d_Tc_goes_35 (by decide) ?_
        refine E_isn (ls' := [(3, .int 0), (0, .ref a0), (1, .int x1), (2, .int x2)]) d_Tc_goes_36 (Nat.le_of_ble_eq_true rfl) rfl ?_
        exact E_sub (ks := [1, 2, 3, 0]) rfl <| t_Tc_goes_37 (by omega) _ _ _ _ _ _ _ hq
      · rw [if_pos c] at hq
        refine E_ic (v := (-1)) d_Tc_goes_19 (by decide) ?_
        exact E_rI d_Tc_goes_20 rfl hq
def f_Realm_takenAt_4 : Nat → Nat → Int32 → Int32 → Int32 → PH → Option (Int32 × PH)
  | 0, _, _, _, _, _ => none
  | n + 1, a0, x1, x2, x3, h =>
    (ldI h 5 a0 1).bind fun v1 =>
    if v1 ≤ x3 then
      some (x2, h)
    else
      (isO h 5 a0).bind fun _ =>
      (f_Realm_isInside a0 x3 h).bind fun p2 =>
      if p2.1 = 0 then
        f_Realm_takenAt_4 n a0 x1 x2 (x3 + 1) p2.2
      else
        (ldR p2.2 5 a0 4).bind fun v4 =>
        (rdA p2.2 v4 x3).bind fun v5 =>
        (ldR p2.2 5 a0 5).bind fun v6 =>
        (rdA p2.2 v6 x3).bind fun v7 =>
        if v5 < (x1 * v7) then
          f_Realm_takenAt_4 n a0 x1 x2 (x3 + 1) p2.2
        else
          (ldR p2.2 5 a0 5).bind fun v8 =>
          (rdA p2.2 v8 x3).bind fun v9 =>
          f_Realm_takenAt_4 n a0 x1 (x2 + (x1 * v9)) (x3 + 1) p2.2
theorem t_Realm_takenAt_4 {d : Nat} (hd : 2 ≤ d) : ∀ (n : Nat) (a0 : Nat) (x1 : Int32) (x2 : Int32) (x3 : Int32) (h : PH) (r : Int32 × PH), f_Realm_takenAt_4 n a0 x1 x2 x3 h = some r → E d 0 0 m_Realm_takenAt 4 [(0, .ref a0), (1, .int x1), (2, .int x2), (3, .int x3)] [] h (PI r) := by
  intro n
  induction n with
  | zero => intro a0 x1 x2 x3 h r hq; rw [f_Realm_takenAt_4] at hq; cases hq
  | succ n ih =>
    intro a0 x1 x2 x3 h r hq
    rw [f_Realm_takenAt_4] at hq
    obtain ⟨d, rfl⟩ : ∃ e, d = e + 1 := ⟨d - 1, by omega⟩
    refine E_iln 3 d_Realm_takenAt_4 rfl rfl ?_
    refine E_aln 0 d_Realm_takenAt_5 rfl rfl ?_
    obtain ⟨v1, ev1, hq⟩ := bd hq
    refine E_gI d_Realm_takenAt_6 lk_Realm_15 rfl ev1 ?_
    refine E_jge (tgt := 54) d_Realm_takenAt_9 (by decide) (fun c => ?_) (fun c => ?_)
    · rw [if_pos c] at hq
      refine E_iln 2 d_Realm_takenAt_54 rfl rfl ?_
      exact E_rI d_Realm_takenAt_55 rfl hq
    · rw [if_neg c] at hq
      refine E_aln 0 d_Realm_takenAt_12 rfl rfl ?_
      refine E_iln 3 d_Realm_takenAt_13 rfl rfl ?_
      obtain ⟨q3, eq3, hq⟩ := bd hq
      obtain ⟨p2, ep2, hq⟩ := bd hq
      refine E_cV1I d_Realm_takenAt_14 ck_Realm_90 rfl rfl eq3 (Nat.le_of_ble_eq_true rfl) (Nat.le_of_ble_eq_true rfl) (t_Realm_isInside (by omega) ep2) ?_
      refine E_zeq (tgt := 48) d_Realm_takenAt_17 (by decide) (fun c => ?_) (fun c => ?_)
      · rw [if_pos c] at hq
        refine E_inc (v := 1) (ls' := [(3, .int (x3 + 1)), (0, .ref a0), (1, .int x1), (2, .int x2)]) 3 d_Realm_takenAt_48 rfl (Nat.le_of_ble_eq_true rfl) (by decide) rfl ?_
        refine E_goto (tgt := 4) d_Realm_takenAt_51 (by decide) ?_
        exact E_sub (ks := [1, 2, 3, 0]) rfl <| ih _ _ _ _ _ _ hq
      · rw [if_neg c] at hq
        refine E_aln 0 d_Realm_takenAt_20 rfl rfl ?_
        obtain ⟨v4, ev4, hq⟩ := bd hq
        refine E_gR d_Realm_takenAt_21 lk_Realm_25 rfl ev4 ?_
        refine E_iln 3 d_Realm_takenAt_24 rfl rfl ?_
        obtain ⟨v5, ev5, hq⟩ := bd hq
        refine E_ra d_Realm_takenAt_25 ev5 ?_
        refine E_iln 1 d_Realm_takenAt_26 rfl rfl ?_
        refine E_aln 0 d_Realm_takenAt_27 rfl rfl ?_
        obtain ⟨v6, ev6, hq⟩ := bd hq
        refine E_gR d_Realm_takenAt_28 lk_Realm_28 rfl ev6 ?_
        refine E_iln 3 d_Realm_takenAt_31 rfl rfl ?_
        obtain ⟨v7, ev7, hq⟩ := bd hq
        refine E_ra d_Realm_takenAt_32 ev7 ?_
        refine E_imul d_Realm_takenAt_33 ?_
        refine E_jlt (tgt := 48) d_Realm_takenAt_34 (by decide) (fun c => ?_) (fun c => ?_)
        · rw [if_pos c] at hq
          refine E_inc (v := 1) (ls' := [(3, .int (x3 + 1)), (0, .ref a0), (1, .int x1), (2, .int x2)]) 3 d_Realm_takenAt_48 rfl (Nat.le_of_ble_eq_true rfl) (by decide) rfl ?_
          refine E_goto (tgt := 4) d_Realm_takenAt_51 (by decide) ?_
          exact E_sub (ks := [1, 2, 3, 0]) rfl <| ih _ _ _ _ _ _ hq
        · rw [if_neg c] at hq
          refine E_iln 2 d_Realm_takenAt_37 rfl rfl ?_
          refine E_iln 1 d_Realm_takenAt_38 rfl rfl ?_
          refine E_aln 0 d_Realm_takenAt_39 rfl rfl ?_
          obtain ⟨v8, ev8, hq⟩ := bd hq
          refine E_gR d_Realm_takenAt_40 lk_Realm_28 rfl ev8 ?_
          refine E_iln 3 d_Realm_takenAt_43 rfl rfl ?_
          obtain ⟨v9, ev9, hq⟩ := bd hq
          refine E_ra d_Realm_takenAt_44 ev9 ?_
          refine E_imul d_Realm_takenAt_45 ?_
          refine E_iadd d_Realm_takenAt_46 ?_
          refine E_isn (ls' := [(2, .int (x2 + (x1 * v9))), (0, .ref a0), (1, .int x1), (3, .int x3)]) d_Realm_takenAt_47 (Nat.le_of_ble_eq_true rfl) rfl ?_
          refine E_inc (v := 1) (ls' := [(3, .int (x3 + 1)), (2, .int (x2 + (x1 * v9))), (0, .ref a0), (1, .int x1)]) 3 d_Realm_takenAt_48 rfl (Nat.le_of_ble_eq_true rfl) (by decide) rfl ?_
          refine E_goto (tgt := 4) d_Realm_takenAt_51 (by decide) ?_
          exact E_sub (ks := [2, 3, 1, 0]) rfl <| ih _ _ _ _ _ _ hq
def f_Realm_takenAt (a0 : Nat) (x1 : Int32) (h : PH) : Option (Int32 × PH) :=
  f_Realm_takenAt_4 FU a0 x1 0 0 h
theorem t_Realm_takenAt {d : Nat} (hd : 2 ≤ d) {a0 : Nat} {x1 : Int32} {h : PH} {r : Int32 × PH} (hq : f_Realm_takenAt a0 x1 h = some r) : E d 0 0 m_Realm_takenAt 0 [(0, .ref a0), (1, .int x1)] [] h (PI r) := by
  unfold f_Realm_takenAt at hq
  obtain ⟨d, rfl⟩ : ∃ e, d = e + 1 := ⟨d - 1, by omega⟩
  refine E_ic (v := 0) d_Realm_takenAt_0 (by decide) ?_
  refine E_isn (ls' := [(2, .int 0), (0, .ref a0), (1, .int x1)]) d_Realm_takenAt_1 (Nat.le_of_ble_eq_true rfl) rfl ?_
  refine E_ic (v := 0) d_Realm_takenAt_2 (by decide) ?_
  refine E_isn (ls' := [(3, .int 0), (2, .int 0), (0, .ref a0), (1, .int x1)]) d_Realm_takenAt_3 (Nat.le_of_ble_eq_true rfl) rfl ?_
  exact E_sub (ks := [2, 3, 1, 0]) rfl <| t_Realm_takenAt_4 (by omega) _ _ _ _ _ _ _ hq
def f_Realm_bestRate_6 : Nat → Nat → Int32 → Int32 → Int32 → PH → Option (Int32 × PH)
  | 0, _, _, _, _, _ => none
  | n + 1, a0, x1, x2, x3, h =>
    if 99 < x3 then
      some (x1, h)
    else
      (isO h 5 a0).bind fun _ =>
      (f_Realm_takenAt a0 x3 h).bind fun p1 =>
      if p1.1 ≤ x2 then
        f_Realm_bestRate_6 n a0 x1 x2 (x3 + 1) p1.2
      else
        f_Realm_bestRate_6 n a0 x3 p1.1 (x3 + 1) p1.2
theorem t_Realm_bestRate_6 {d : Nat} (hd : 3 ≤ d) : ∀ (n : Nat) (a0 : Nat) (x1 : Int32) (x2 : Int32) (x3 : Int32) (h : PH) (r : Int32 × PH), f_Realm_bestRate_6 n a0 x1 x2 x3 h = some r → E d 0 0 m_Realm_bestRate 6 [(0, .ref a0), (1, .int x1), (2, .int x2), (3, .int x3)] [] h (PI r) := by
  intro n
  induction n with
  | zero => intro a0 x1 x2 x3 h r hq; rw [f_Realm_bestRate_6] at hq; cases hq
  | succ n ih =>
    intro a0 x1 x2 x3 h r hq
    rw [f_Realm_bestRate_6] at hq
    obtain ⟨d, rfl⟩ : ∃ e, d = e + 1 := ⟨d - 1, by omega⟩
    refine E_iln 3 d_Realm_bestRate_6 rfl rfl ?_
    refine E_bi (v := 99) d_Realm_bestRate_7 (by decide) ?_
    refine E_jgt (tgt := 36) d_Realm_bestRate_9 (by decide) (fun c => ?_) (fun c => ?_)
    · rw [if_pos c] at hq
      refine E_iln 1 d_Realm_bestRate_36 rfl rfl ?_
      exact E_rI d_Realm_bestRate_37 rfl hq
    · rw [if_neg c] at hq
      refine E_aln 0 d_Realm_bestRate_12 rfl rfl ?_
      refine E_iln 3 d_Realm_bestRate_13 rfl rfl ?_
      obtain ⟨q2, eq2, hq⟩ := bd hq
      obtain ⟨p1, ep1, hq⟩ := bd hq
      refine E_cV1I d_Realm_bestRate_14 ck_Realm_108 rfl rfl eq2 (Nat.le_of_ble_eq_true rfl) (Nat.le_of_ble_eq_true rfl) (t_Realm_takenAt (by omega) ep1) ?_
      refine E_is (ls' := [(4, .int p1.1), (0, .ref a0), (1, .int x1), (2, .int x2), (3, .int x3)]) d_Realm_bestRate_17 (Nat.le_of_ble_eq_true rfl) rfl ?_
      refine E_il 0 d_Realm_bestRate_19 rfl ?_
      refine E_iln 3 d_Realm_bestRate_21 rfl rfl ?_
      refine E_jle (tgt := 30) d_Realm_bestRate_22 (by decide) (fun c => ?_) (fun c => ?_)
      · rw [if_pos c] at hq
        refine E_inc (v := 1) (ls' := [(3, .int (x3 + 1)), (4, .int p1.1), (0, .ref a0), (1, .int x1), (2, .int x2)]) 4 d_Realm_bestRate_30 rfl (Nat.le_of_ble_eq_true rfl) (by decide) rfl ?_
        refine E_goto (tgt := 6) d_Realm_bestRate_33 (by decide) ?_
        exact E_sub (ks := [2, 3, 4, 0]) rfl <| ih _ _ _ _ _ _ hq
      · rw [if_neg c] at hq
        refine E_il 0 d_Realm_bestRate_25 rfl ?_
        refine E_isn (ls' := [(2, .int p1.1), (4, .int p1.1), (0, .ref a0), (1, .int x1), (3, .int x3)]) d_Realm_bestRate_27 (Nat.le_of_ble_eq_true rfl) rfl ?_
        refine E_iln 4 d_Realm_bestRate_28 rfl rfl ?_
        refine E_isn (ls' := [(1, .int x3), (2, .int p1.1), (4, .int p1.1), (0, .ref a0), (3, .int x3)]) d_Realm_bestRate_29 (Nat.le_of_ble_eq_true rfl) rfl ?_
        refine E_inc (v := 1) (ls' := [(3, .int (x3 + 1)), (1, .int x3), (2, .int p1.1), (4, .int p1.1), (0, .ref a0)]) 4 d_Realm_bestRate_30 rfl (Nat.le_of_ble_eq_true rfl) (by decide) rfl ?_
        refine E_goto (tgt := 6) d_Realm_bestRate_33 (by decide) ?_
        exact E_sub (ks := [4, 1, 2, 0]) rfl <| ih _ _ _ _ _ _ hq
def f_Realm_bestRate (a0 : Nat) (h : PH) : Option (Int32 × PH) :=
  f_Realm_bestRate_6 FU a0 0 0 1 h
theorem t_Realm_bestRate {d : Nat} (hd : 3 ≤ d) {a0 : Nat} {h : PH} {r : Int32 × PH} (hq : f_Realm_bestRate a0 h = some r) : E d 0 0 m_Realm_bestRate 0 [(0, .ref a0)] [] h (PI r) := by
  unfold f_Realm_bestRate at hq
  obtain ⟨d, rfl⟩ : ∃ e, d = e + 1 := ⟨d - 1, by omega⟩
  refine E_ic (v := 0) d_Realm_bestRate_0 (by decide) ?_
  refine E_isn (ls' := [(1, .int 0), (0, .ref a0)]) d_Realm_bestRate_1 (Nat.le_of_ble_eq_true rfl) rfl ?_
  refine E_ic (v := 0) d_Realm_bestRate_2 (by decide) ?_
  refine E_isn (ls' := [(2, .int 0), (1, .int 0), (0, .ref a0)]) d_Realm_bestRate_3 (Nat.le_of_ble_eq_true rfl) rfl ?_
  refine E_ic (v := 1) d_Realm_bestRate_4 (by decide) ?_
  refine E_isn (ls' := [(3, .int 1), (2, .int 0), (1, .int 0), (0, .ref a0)]) d_Realm_bestRate_5 (Nat.le_of_ble_eq_true rfl) rfl ?_
  exact E_sub (ks := [3, 2, 1, 0]) rfl <| t_Realm_bestRate_6 (by omega) _ _ _ _ _ _ _ hq
def f_Tc_rate (a0 : Nat) (x1 : Int32) (h : PH) : Option (Int32 × PH) :=
  (f_Tc_within x1 1 h).bind fun p1 =>
  if p1.1 = 0 then
    some ((-1), p1.2)
  else
    (ldR p1.2 8 a0 0).bind fun v2 =>
    (ldR p1.2 1 v2 0).bind fun v3 =>
    (isO p1.2 5 v3).bind fun _ =>
    (f_Realm_bestRate v3  p1.2).bind fun p4 =>
    if x1 = 0 then
      some (p4.1, p4.2)
    else
      (ldR p4.2 8 a0 0).bind fun v6 =>
      (ldR p4.2 1 v6 0).bind fun v7 =>
      (isO p4.2 5 v7).bind fun _ =>
      (f_Realm_takenAt v7 p4.1 p4.2).bind fun p8 =>
      some (p8.1, p8.2)
theorem t_Tc_rate {d : Nat} (hd : 4 ≤ d) {a0 : Nat} {x1 : Int32} {h : PH} {r : Int32 × PH} (hq : f_Tc_rate a0 x1 h = some r) : E d 0 0 m_Tc_rate 0 [(0, .ref a0), (1, .int x1)] [] h (PI r) := by
  unfold f_Tc_rate at hq
  obtain ⟨d, rfl⟩ : ∃ e, d = e + 1 := ⟨d - 1, by omega⟩
  refine E_iln 1 d_Tc_rate_0 rfl rfl ?_
  refine E_ic (v := 1) d_Tc_rate_1 (by decide) ?_
  obtain ⟨p1, ep1, hq⟩ := bd hq
  refine E_cS2I d_Tc_rate_2 ck_Tc_57 (Nat.le_of_ble_eq_true rfl) (Nat.le_of_ble_eq_true rfl) (t_Tc_within (by omega) ep1) ?_
  refine E_zne (tgt := 10) d_Tc_rate_5 (by decide) (fun c => ?_) (fun c => ?_)
  · rw [if_neg c] at hq
    refine E_aln 0 d_Tc_rate_10 rfl rfl ?_
    obtain ⟨v2, ev2, hq⟩ := bd hq
    refine E_gR d_Tc_rate_11 lk_Tc_10 rfl ev2 ?_
    obtain ⟨v3, ev3, hq⟩ := bd hq
    refine E_gR d_Tc_rate_14 lk_Tc_47 rfl ev3 ?_
    obtain ⟨q5, eq5, hq⟩ := bd hq
    obtain ⟨p4, ep4, hq⟩ := bd hq
    refine E_cV0I d_Tc_rate_17 ck_Tc_223 rfl rfl eq5 (Nat.le_of_ble_eq_true rfl) (Nat.le_of_ble_eq_true rfl) (t_Realm_bestRate (by omega) ep4) ?_
    refine E_isn (ls' := [(2, .int p4.1), (0, .ref a0), (1, .int x1)]) d_Tc_rate_20 (Nat.le_of_ble_eq_true rfl) rfl ?_
    refine E_iln 2 d_Tc_rate_21 rfl rfl ?_
    refine E_zne (tgt := 29) d_Tc_rate_22 (by decide) (fun c => ?_) (fun c => ?_)
    · rw [if_neg c] at hq
      refine E_aln 1 d_Tc_rate_29 rfl rfl ?_
      obtain ⟨v6, ev6, hq⟩ := bd hq
      refine E_gR d_Tc_rate_30 lk_Tc_10 rfl ev6 ?_
      obtain ⟨v7, ev7, hq⟩ := bd hq
      refine E_gR d_Tc_rate_33 lk_Tc_47 rfl ev7 ?_
      refine E_iln 0 d_Tc_rate_36 rfl rfl ?_
      obtain ⟨q9, eq9, hq⟩ := bd hq
      obtain ⟨p8, ep8, hq⟩ := bd hq
      refine E_cV1I d_Tc_rate_37 ck_Tc_227 rfl rfl eq9 (Nat.le_of_ble_eq_true rfl) (Nat.le_of_ble_eq_true rfl) (t_Realm_takenAt (by omega) ep8) ?_
      exact E_rI d_Tc_rate_40 rfl hq
    · rw [if_pos c] at hq
      refine E_iln 0 d_Tc_rate_25 rfl rfl ?_
      refine E_goto (tgt := 40) d_Tc_rate_26 (by decide) ?_
      exact E_rI d_Tc_rate_40 rfl hq
  · rw [if_pos c] at hq
    refine E_ic (v := (-1)) d_Tc_rate_8 (by decide) ?_
    exact E_rI d_Tc_rate_9 rfl hq
def f_Tc_order (a0 : Nat) (x1 : Int32) (x2 : Int32) (x3 : Int32) (h : PH) : Option (Int32 × PH) :=
  if x1 = (-1) then
    (ldR h 8 a0 0).bind fun v8 =>
    (ldR h 1 v8 6).bind fun v9 =>
    (ldR h 7 v9 0).bind fun v10 =>
    (isO h 6 v10).bind fun _ =>
    (f_Row_clear v10  h).bind fun p11 =>
    some (p11.1, p11.2)
  else
    (f_Tc_within x1 99 h).bind fun p1 =>
    if p1.1 = 0 then
      some ((-1), p1.2)
    else
      (f_Tc_within x2 9 p1.2).bind fun p2 =>
      if p2.1 = 0 then
        some ((-1), p2.2)
      else
        if x3 < 1 then
          some ((-1), p2.2)
        else
          if x3 ≤ 9 then
            (ldR p2.2 8 a0 0).bind fun v3 =>
            (ldR p2.2 1 v3 6).bind fun v4 =>
            (ldR p2.2 7 v4 0).bind fun v5 =>
            (isO p2.2 6 v5).bind fun _ =>
            (f_Row_put v5 x1 x2 x3 0 p2.2).bind fun p6 =>
            some (p6.1, p6.2)
          else
            some ((-1), p2.2)
theorem t_Tc_order {d : Nat} (hd : 1 ≤ d) {a0 : Nat} {x1 : Int32} {x2 : Int32} {x3 : Int32} {h : PH} {r : Int32 × PH} (hq : f_Tc_order a0 x1 x2 x3 h = some r) : E d 0 0 m_Tc_order 0 [(0, .ref a0), (1, .int x1), (2, .int x2), (3, .int x3)] [] h (PI r) := by
  unfold f_Tc_order at hq
  obtain ⟨d, rfl⟩ : ∃ e, d = e + 1 := ⟨d - 1, by omega⟩
  refine E_iln 1 d_Tc_order_0 rfl rfl ?_
  refine E_ic (v := (-1)) d_Tc_order_1 (by decide) ?_
  refine E_jne (tgt := 19) d_Tc_order_2 (by decide) (fun c => ?_) (fun c => ?_)
  · rw [if_neg c] at hq
    refine E_iln 1 d_Tc_order_19 rfl rfl ?_
    refine E_bi (v := 99) d_Tc_order_20 (by decide) ?_
    obtain ⟨p1, ep1, hq⟩ := bd hq
    refine E_cS2I d_Tc_order_22 ck_Tc_57 (Nat.le_of_ble_eq_true rfl) (Nat.le_of_ble_eq_true rfl) (t_Tc_within (by omega) ep1) ?_
    refine E_zeq (tgt := 48) d_Tc_order_25 (by decide) (fun c => ?_) (fun c => ?_)
    · rw [if_pos c] at hq
      refine E_ic (v := (-1)) d_Tc_order_48 (by decide) ?_
      exact E_rI d_Tc_order_49 rfl hq
    · rw [if_neg c] at hq
      refine E_iln 2 d_Tc_order_28 rfl rfl ?_
      refine E_bi (v := 9) d_Tc_order_29 (by decide) ?_
      obtain ⟨p2, ep2, hq⟩ := bd hq
      refine E_cS2I d_Tc_order_31 ck_Tc_57 (Nat.le_of_ble_eq_true rfl) (Nat.le_of_ble_eq_true rfl) (t_Tc_within (by omega) ep2) ?_
      refine E_zeq (tgt := 48) d_Tc_order_34 (by decide) (fun c => ?_) (fun c => ?_)
      · rw [if_pos c] at hq
        refine E_ic (v := (-1)) d_Tc_order_48 (by decide) ?_
        exact E_rI d_Tc_order_49 rfl hq
      · rw [if_neg c] at hq
        refine E_iln 3 d_Tc_order_37 rfl rfl ?_
        refine E_ic (v := 1) d_Tc_order_38 (by decide) ?_
        refine E_jlt (tgt := 48) d_Tc_order_39 (by decide) (fun c => ?_) (fun c => ?_)
        · rw [if_pos c] at hq
          refine E_ic (v := (-1)) d_Tc_order_48 (by decide) ?_
          exact E_rI d_Tc_order_49 rfl hq
        · rw [if_neg c] at hq
          refine E_iln 3 d_Tc_order_42 rfl rfl ?_
          refine E_bi (v := 9) d_Tc_order_43 (by decide) ?_
          refine E_jle (tgt := 50) d_Tc_order_45 (by decide) (fun c => ?_) (fun c => ?_)
          · rw [if_pos c] at hq
            refine E_aln 0 d_Tc_order_50 rfl rfl ?_
            obtain ⟨v3, ev3, hq⟩ := bd hq
            refine E_gR d_Tc_order_51 lk_Tc_10 rfl ev3 ?_
            obtain ⟨v4, ev4, hq⟩ := bd hq
            refine E_gR d_Tc_order_54 lk_Tc_230 rfl ev4 ?_
            obtain ⟨v5, ev5, hq⟩ := bd hq
            refine E_gR d_Tc_order_57 lk_Tc_234 rfl ev5 ?_
            refine E_iln 1 d_Tc_order_60 rfl rfl ?_
            refine E_iln 2 d_Tc_order_61 rfl rfl ?_
            refine E_iln 3 d_Tc_order_62 rfl rfl ?_
            refine E_ic (v := 0) d_Tc_order_63 (by decide) ?_
            obtain ⟨q7, eq7, hq⟩ := bd hq
            obtain ⟨p6, ep6, hq⟩ := bd hq
            refine E_cV4I d_Tc_order_64 ck_Tc_242 rfl rfl eq7 (Nat.le_of_ble_eq_true rfl) (Nat.le_of_ble_eq_true rfl) (t_Row_put (by omega) ep6) ?_
            exact E_rI d_Tc_order_67 rfl hq
          · rw [if_neg c] at hq
            refine E_ic (v := (-1)) d_Tc_order_48 (by decide) ?_
            exact E_rI d_Tc_order_49 rfl hq
  · rw [if_pos c] at hq
    refine E_aln 0 d_Tc_order_5 rfl rfl ?_
    obtain ⟨v8, ev8, hq⟩ := bd hq
    refine E_gR d_Tc_order_6 lk_Tc_10 rfl ev8 ?_
    obtain ⟨v9, ev9, hq⟩ := bd hq
    refine E_gR d_Tc_order_9 lk_Tc_230 rfl ev9 ?_
    obtain ⟨v10, ev10, hq⟩ := bd hq
    refine E_gR d_Tc_order_12 lk_Tc_234 rfl ev10 ?_
    obtain ⟨q12, eq12, hq⟩ := bd hq
    obtain ⟨p11, ep11, hq⟩ := bd hq
    refine E_cV0I d_Tc_order_15 ck_Tc_239 rfl rfl eq12 (Nat.le_of_ble_eq_true rfl) (Nat.le_of_ble_eq_true rfl) (t_Row_clear (by omega) ep11) ?_
    exact E_rI d_Tc_order_18 rfl hq
def f_Desk_hourly (a0 : Nat) (a1 : Nat) (x2 : Int32) (h : PH) : Option (Int32 × PH) :=
  (isO h 6 a1).bind fun _ =>
  (f_Row_get a1 x2 1 h).bind fun p1 =>
  (isO p1.2 6 a1).bind fun _ =>
  (f_Row_get a1 x2 2 p1.2).bind fun p3 =>
  some ((p1.1 * p3.1), p3.2)
theorem t_Desk_hourly {d : Nat} (hd : 1 ≤ d) {a0 : Nat} {a1 : Nat} {x2 : Int32} {h : PH} {r : Int32 × PH} (hq : f_Desk_hourly a0 a1 x2 h = some r) : E d 0 0 m_Desk_hourly 0 [(0, .ref a0), (1, .ref a1), (2, .int x2)] [] h (PI r) := by
  unfold f_Desk_hourly at hq
  obtain ⟨d, rfl⟩ : ∃ e, d = e + 1 := ⟨d - 1, by omega⟩
  refine E_aln 1 d_Desk_hourly_0 rfl rfl ?_
  refine E_iln 2 d_Desk_hourly_1 rfl rfl ?_
  refine E_ic (v := 1) d_Desk_hourly_2 (by decide) ?_
  obtain ⟨q2, eq2, hq⟩ := bd hq
  obtain ⟨p1, ep1, hq⟩ := bd hq
  refine E_cV2I d_Desk_hourly_3 ck_Desk_30 rfl rfl eq2 (Nat.le_of_ble_eq_true rfl) (Nat.le_of_ble_eq_true rfl) (t_Row_get (by omega) ep1) ?_
  refine E_aln 1 d_Desk_hourly_6 rfl rfl ?_
  refine E_iln 2 d_Desk_hourly_7 rfl rfl ?_
  refine E_ic (v := 2) d_Desk_hourly_8 (by decide) ?_
  obtain ⟨q4, eq4, hq⟩ := bd hq
  obtain ⟨p3, ep3, hq⟩ := bd hq
  refine E_cV2I d_Desk_hourly_9 ck_Desk_30 rfl rfl eq4 (Nat.le_of_ble_eq_true rfl) (Nat.le_of_ble_eq_true rfl) (t_Row_get (by omega) ep3) ?_
  refine E_imul d_Desk_hourly_12 ?_
  exact E_rI d_Desk_hourly_13 rfl hq
def f_Desk_turnOf_46 (k5 : Nat → Nat → Int32 → Int32 → Int32 → PH → Option (Int32 × PH)) (a0 : Nat) (a1 : Nat) (x2 : Int32) (x3 : Int32) (x4 : Int32) (h : PH) : Option (Int32 × PH) :=
  k5 a0 a1 x2 (x3 + 1) (x4 + 1) h
theorem t_Desk_turnOf_46 {d : Nat} (hd : 2 ≤ d) {k5 : Nat → Nat → Int32 → Int32 → Int32 → PH → Option (Int32 × PH)} (hk5 : ∀ (a0 : Nat) (a1 : Nat) (x2 : Int32) (x3 : Int32) (x4 : Int32) (h : PH) (r : Int32 × PH), k5 a0 a1 x2 x3 x4 h = some r → E d 0 0 m_Desk_turnOf 5 [(0, .ref a0), (1, .ref a1), (2, .int x2), (3, .int x3), (4, .int x4)] [] h (PI r)) {a0 : Nat} {a1 : Nat} {x2 : Int32} {x3 : Int32} {x4 : Int32} {h : PH} {r : Int32 × PH} (hq : f_Desk_turnOf_46 k5 a0 a1 x2 x3 x4 h = some r) : E d 0 0 m_Desk_turnOf 46 [(0, .ref a0), (1, .ref a1), (2, .int x2), (3, .int x3), (4, .int x4)] [] h (PI r) := by
  unfold f_Desk_turnOf_46 at hq
  obtain ⟨d, rfl⟩ : ∃ e, d = e + 1 := ⟨d - 1, by omega⟩
  refine E_inc (v := 1) (ls' := [(3, .int (x3 + 1)), (0, .ref a0), (1, .ref a1), (2, .int x2), (4, .int x4)]) 3 d_Desk_turnOf_46 rfl (Nat.le_of_ble_eq_true rfl) (by decide) rfl ?_
  refine E_inc (v := 1) (ls' := [(4, .int (x4 + 1)), (3, .int (x3 + 1)), (0, .ref a0), (1, .ref a1), (2, .int x2)]) 4 d_Desk_turnOf_49 rfl (Nat.le_of_ble_eq_true rfl) (by decide) rfl ?_
  refine E_goto (tgt := 5) d_Desk_turnOf_52 (by decide) ?_
  exact E_sub (ks := [2, 3, 4, 1, 0]) rfl <| hk5 _ _ _ _ _ _ _ hq
def f_Desk_turnOf_5 : Nat → Nat → Nat → Int32 → Int32 → Int32 → PH → Option (Int32 × PH)
  | 0, _, _, _, _, _, _ => none
  | n + 1, a0, a1, x2, x3, x4, h =>
    (ldI h 6 a1 2).bind fun v1 =>
    if v1 ≤ x4 then
      some (x3, h)
    else
      (isO h 0 a0).bind fun _ =>
      (f_Desk_hourly a0 a1 x4 h).bind fun p2 =>
      (isO p2.2 0 a0).bind fun _ =>
      (f_Desk_hourly a0 a1 x2 p2.2).bind fun p4 =>
      if 0 < (p2.1 - p4.1) then
        f_Desk_turnOf_46 (fun a0 a1 x2 x3 x4 h => f_Desk_turnOf_5 n a0 a1 x2 x3 x4 h) a0 a1 x2 x3 x4 p4.2
      else
        if (p2.1 - p4.1) = 0 then
          if x2 ≤ x4 then
            f_Desk_turnOf_5 n a0 a1 x2 x3 (x4 + 1) p4.2
          else
            f_Desk_turnOf_46 (fun a0 a1 x2 x3 x4 h => f_Desk_turnOf_5 n a0 a1 x2 x3 x4 h) a0 a1 x2 x3 x4 p4.2
        else
          f_Desk_turnOf_5 n a0 a1 x2 x3 (x4 + 1) p4.2
theorem t_Desk_turnOf_5 {d : Nat} (hd : 2 ≤ d) : ∀ (n : Nat) (a0 : Nat) (a1 : Nat) (x2 : Int32) (x3 : Int32) (x4 : Int32) (h : PH) (r : Int32 × PH), f_Desk_turnOf_5 n a0 a1 x2 x3 x4 h = some r → E d 0 0 m_Desk_turnOf 5 [(0, .ref a0), (1, .ref a1), (2, .int x2), (3, .int x3), (4, .int x4)] [] h (PI r) := by
  intro n
  induction n with
  | zero => intro a0 a1 x2 x3 x4 h r hq; rw [f_Desk_turnOf_5] at hq; cases hq
  | succ n ih =>
    intro a0 a1 x2 x3 x4 h r hq
    rw [f_Desk_turnOf_5] at hq
    obtain ⟨d, rfl⟩ : ∃ e, d = e + 1 := ⟨d - 1, by omega⟩
    refine E_il 4 d_Desk_turnOf_5 rfl ?_
    refine E_aln 1 d_Desk_turnOf_7 rfl rfl ?_
    obtain ⟨v1, ev1, hq⟩ := bd hq
    refine E_gI d_Desk_turnOf_8 lk_Desk_36 rfl ev1 ?_
    refine E_jge (tgt := 55) d_Desk_turnOf_11 (by decide) (fun c => ?_) (fun c => ?_)
    · rw [if_pos c] at hq
      refine E_iln 3 d_Desk_turnOf_55 rfl rfl ?_
      exact E_rI d_Desk_turnOf_56 rfl hq
    · rw [if_neg c] at hq
      refine E_aln 0 d_Desk_turnOf_14 rfl rfl ?_
      refine E_aln 1 d_Desk_turnOf_15 rfl rfl ?_
      refine E_il 4 d_Desk_turnOf_16 rfl ?_
      obtain ⟨q3, eq3, hq⟩ := bd hq
      obtain ⟨p2, ep2, hq⟩ := bd hq
      refine E_cV2I d_Desk_turnOf_18 ck_Desk_40 rfl rfl eq3 (Nat.le_of_ble_eq_true rfl) (Nat.le_of_ble_eq_true rfl) (t_Desk_hourly (by omega) ep2) ?_
      refine E_aln 0 d_Desk_turnOf_21 rfl rfl ?_
      refine E_aln 1 d_Desk_turnOf_22 rfl rfl ?_
      refine E_iln 2 d_Desk_turnOf_23 rfl rfl ?_
      obtain ⟨q5, eq5, hq⟩ := bd hq
      obtain ⟨p4, ep4, hq⟩ := bd hq
      refine E_cV2I d_Desk_turnOf_24 ck_Desk_40 rfl rfl eq5 (Nat.le_of_ble_eq_true rfl) (Nat.le_of_ble_eq_true rfl) (t_Desk_hourly (by omega) ep4) ?_
      refine E_isub d_Desk_turnOf_27 ?_
      refine E_is (ls' := [(5, .int (p2.1 - p4.1)), (0, .ref a0), (1, .ref a1), (2, .int x2), (3, .int x3), (4, .int x4)]) d_Desk_turnOf_28 (Nat.le_of_ble_eq_true rfl) rfl ?_
      refine E_il 0 d_Desk_turnOf_30 rfl ?_
      refine E_zgt (tgt := 46) d_Desk_turnOf_32 (by decide) (fun c => ?_) (fun c => ?_)
      · rw [if_pos c] at hq
        exact E_sub (ks := [1, 2, 3, 4, 5]) rfl <| t_Desk_turnOf_46 (by omega) ih hq
      · rw [if_neg c] at hq
        refine E_il 0 d_Desk_turnOf_35 rfl ?_
        refine E_zne (tgt := 49) d_Desk_turnOf_37 (by decide) (fun c => ?_) (fun c => ?_)
        · rw [if_neg c] at hq
          refine E_inc (v := 1) (ls' := [(4, .int (x4 + 1)), (5, .int (p2.1 - p4.1)), (0, .ref a0), (1, .ref a1), (2, .int x2), (3, .int x3)]) 5 d_Desk_turnOf_49 rfl (Nat.le_of_ble_eq_true rfl) (by decide) rfl ?_
          refine E_goto (tgt := 5) d_Desk_turnOf_52 (by decide) ?_
          exact E_sub (ks := [2, 3, 4, 5, 0]) rfl <| ih _ _ _ _ _ _ _ hq
        · rw [if_pos c] at hq
          refine E_il 5 d_Desk_turnOf_40 rfl ?_
          refine E_iln 3 d_Desk_turnOf_42 rfl rfl ?_
          refine E_jge (tgt := 49) d_Desk_turnOf_43 (by decide) (fun c => ?_) (fun c => ?_)
          · rw [if_pos c] at hq
            refine E_inc (v := 1) (ls' := [(4, .int (x4 + 1)), (5, .int (p2.1 - p4.1)), (0, .ref a0), (1, .ref a1), (2, .int x2), (3, .int x3)]) 5 d_Desk_turnOf_49 rfl (Nat.le_of_ble_eq_true rfl) (by decide) rfl ?_
            refine E_goto (tgt := 5) d_Desk_turnOf_52 (by decide) ?_
            exact E_sub (ks := [2, 3, 4, 5, 0]) rfl <| ih _ _ _ _ _ _ _ hq
          · rw [if_neg c] at hq
            exact E_sub (ks := [1, 2, 3, 4, 5]) rfl <| t_Desk_turnOf_46 (by omega) ih hq
def f_Desk_turnOf (a0 : Nat) (a1 : Nat) (x2 : Int32) (h : PH) : Option (Int32 × PH) :=
  f_Desk_turnOf_5 FU a0 a1 x2 0 0 h
theorem t_Desk_turnOf {d : Nat} (hd : 2 ≤ d) {a0 : Nat} {a1 : Nat} {x2 : Int32} {h : PH} {r : Int32 × PH} (hq : f_Desk_turnOf a0 a1 x2 h = some r) : E d 0 0 m_Desk_turnOf 0 [(0, .ref a0), (1, .ref a1), (2, .int x2)] [] h (PI r) := by
  unfold f_Desk_turnOf at hq
  obtain ⟨d, rfl⟩ : ∃ e, d = e + 1 := ⟨d - 1, by omega⟩
  refine E_ic (v := 0) d_Desk_turnOf_0 (by decide) ?_
  refine E_isn (ls' := [(3, .int 0), (0, .ref a0), (1, .ref a1), (2, .int x2)]) d_Desk_turnOf_1 (Nat.le_of_ble_eq_true rfl) rfl ?_
  refine E_ic (v := 0) d_Desk_turnOf_2 (by decide) ?_
  refine E_is (ls' := [(4, .int 0), (3, .int 0), (0, .ref a0), (1, .ref a1), (2, .int x2)]) d_Desk_turnOf_3 (Nat.le_of_ble_eq_true rfl) rfl ?_
  exact E_sub (ks := [2, 3, 4, 1, 0]) rfl <| t_Desk_turnOf_5 (by omega) _ _ _ _ _ _ _ _ hq
def f_Desk_orderSum_4 : Nat → Nat → Nat → Int32 → Int32 → PH → Option (Int32 × PH)
  | 0, _, _, _, _, _ => none
  | n + 1, a0, a1, x2, x3, h =>
    (ldI h 6 a1 2).bind fun v1 =>
    if v1 ≤ x3 then
      some (x2, h)
    else
      (isO h 6 a1).bind fun _ =>
      (f_Row_get a1 x3 0 h).bind fun p2 =>
      (isO p2.2 6 a1).bind fun _ =>
      (f_Row_get a1 x3 2 p2.2).bind fun p4 =>
      (isO p4.2 0 a0).bind fun _ =>
      (f_Desk_turnOf a0 a1 x3 p4.2).bind fun p6 =>
      (isO p6.2 0 a0).bind fun _ =>
      (f_Desk_hourly a0 a1 x3 p6.2).bind fun p8 =>
      f_Desk_orderSum_4 n a0 a1 (x2 + ((p2.1 * p4.1) + (p6.1 * p8.1))) (x3 + 1) p8.2
theorem t_Desk_orderSum_4 {d : Nat} (hd : 3 ≤ d) : ∀ (n : Nat) (a0 : Nat) (a1 : Nat) (x2 : Int32) (x3 : Int32) (h : PH) (r : Int32 × PH), f_Desk_orderSum_4 n a0 a1 x2 x3 h = some r → E d 0 0 m_Desk_orderSum 4 [(0, .ref a0), (1, .ref a1), (2, .int x2), (3, .int x3)] [] h (PI r) := by
  intro n
  induction n with
  | zero => intro a0 a1 x2 x3 h r hq; rw [f_Desk_orderSum_4] at hq; cases hq
  | succ n ih =>
    intro a0 a1 x2 x3 h r hq
    rw [f_Desk_orderSum_4] at hq
    obtain ⟨d, rfl⟩ : ∃ e, d = e + 1 := ⟨d - 1, by omega⟩
    refine E_iln 3 d_Desk_orderSum_4 rfl rfl ?_
    refine E_aln 1 d_Desk_orderSum_5 rfl rfl ?_
    obtain ⟨v1, ev1, hq⟩ := bd hq
    refine E_gI d_Desk_orderSum_6 lk_Desk_36 rfl ev1 ?_
    refine E_jge (tgt := 48) d_Desk_orderSum_9 (by decide) (fun c => ?_) (fun c => ?_)
    · rw [if_pos c] at hq
      refine E_iln 2 d_Desk_orderSum_48 rfl rfl ?_
      exact E_rI d_Desk_orderSum_49 rfl hq
    · rw [if_neg c] at hq
      refine E_iln 2 d_Desk_orderSum_12 rfl rfl ?_
      refine E_aln 1 d_Desk_orderSum_13 rfl rfl ?_
      refine E_iln 3 d_Desk_orderSum_14 rfl rfl ?_
      refine E_ic (v := 0) d_Desk_orderSum_15 (by decide) ?_
      obtain ⟨q3, eq3, hq⟩ := bd hq
      obtain ⟨p2, ep2, hq⟩ := bd hq
      refine E_cV2I d_Desk_orderSum_16 ck_Desk_30 rfl rfl eq3 (Nat.le_of_ble_eq_true rfl) (Nat.le_of_ble_eq_true rfl) (t_Row_get (by omega) ep2) ?_
      refine E_aln 1 d_Desk_orderSum_19 rfl rfl ?_
      refine E_iln 3 d_Desk_orderSum_20 rfl rfl ?_
      refine E_ic (v := 2) d_Desk_orderSum_21 (by decide) ?_
      obtain ⟨q5, eq5, hq⟩ := bd hq
      obtain ⟨p4, ep4, hq⟩ := bd hq
      refine E_cV2I d_Desk_orderSum_22 ck_Desk_30 rfl rfl eq5 (Nat.le_of_ble_eq_true rfl) (Nat.le_of_ble_eq_true rfl) (t_Row_get (by omega) ep4) ?_
      refine E_imul d_Desk_orderSum_25 ?_
      refine E_aln 0 d_Desk_orderSum_26 rfl rfl ?_
      refine E_aln 1 d_Desk_orderSum_27 rfl rfl ?_
      refine E_iln 3 d_Desk_orderSum_28 rfl rfl ?_
      obtain ⟨q7, eq7, hq⟩ := bd hq
      obtain ⟨p6, ep6, hq⟩ := bd hq
      refine E_cV2I d_Desk_orderSum_29 ck_Desk_44 rfl rfl eq7 (Nat.le_of_ble_eq_true rfl) (Nat.le_of_ble_eq_true rfl) (t_Desk_turnOf (by omega) ep6) ?_
      refine E_aln 0 d_Desk_orderSum_32 rfl rfl ?_
      refine E_aln 1 d_Desk_orderSum_33 rfl rfl ?_
      refine E_iln 3 d_Desk_orderSum_34 rfl rfl ?_
      obtain ⟨q9, eq9, hq⟩ := bd hq
      obtain ⟨p8, ep8, hq⟩ := bd hq
      refine E_cV2I d_Desk_orderSum_35 ck_Desk_40 rfl rfl eq9 (Nat.le_of_ble_eq_true rfl) (Nat.le_of_ble_eq_true rfl) (t_Desk_hourly (by omega) ep8) ?_
      refine E_imul d_Desk_orderSum_38 ?_
      refine E_iadd d_Desk_orderSum_39 ?_
      refine E_iadd d_Desk_orderSum_40 ?_
      refine E_isn (ls' := [(2, .int (x2 + ((p2.1 * p4.1) + (p6.1 * p8.1)))), (0, .ref a0), (1, .ref a1), (3, .int x3)]) d_Desk_orderSum_41 (Nat.le_of_ble_eq_true rfl) rfl ?_
      refine E_inc (v := 1) (ls' := [(3, .int (x3 + 1)), (2, .int (x2 + ((p2.1 * p4.1) + (p6.1 * p8.1)))), (0, .ref a0), (1, .ref a1)]) 3 d_Desk_orderSum_42 rfl (Nat.le_of_ble_eq_true rfl) (by decide) rfl ?_
      refine E_goto (tgt := 4) d_Desk_orderSum_45 (by decide) ?_
      exact E_sub (ks := [2, 3, 1, 0]) rfl <| ih _ _ _ _ _ _ hq
def f_Desk_orderSum (a0 : Nat) (a1 : Nat) (h : PH) : Option (Int32 × PH) :=
  f_Desk_orderSum_4 FU a0 a1 0 0 h
theorem t_Desk_orderSum {d : Nat} (hd : 3 ≤ d) {a0 : Nat} {a1 : Nat} {h : PH} {r : Int32 × PH} (hq : f_Desk_orderSum a0 a1 h = some r) : E d 0 0 m_Desk_orderSum 0 [(0, .ref a0), (1, .ref a1)] [] h (PI r) := by
  unfold f_Desk_orderSum at hq
  obtain ⟨d, rfl⟩ : ∃ e, d = e + 1 := ⟨d - 1, by omega⟩
  refine E_ic (v := 0) d_Desk_orderSum_0 (by decide) ?_
  refine E_isn (ls' := [(2, .int 0), (0, .ref a0), (1, .ref a1)]) d_Desk_orderSum_1 (Nat.le_of_ble_eq_true rfl) rfl ?_
  refine E_ic (v := 0) d_Desk_orderSum_2 (by decide) ?_
  refine E_isn (ls' := [(3, .int 0), (2, .int 0), (0, .ref a0), (1, .ref a1)]) d_Desk_orderSum_3 (Nat.le_of_ble_eq_true rfl) rfl ?_
  exact E_sub (ks := [2, 3, 1, 0]) rfl <| t_Desk_orderSum_4 (by omega) _ _ _ _ _ _ _ hq
def f_Desk_orderFirst_2 : Nat → Nat → Nat → Int32 → PH → Option (Int32 × PH)
  | 0, _, _, _, _ => none
  | n + 1, a0, a1, x2, h =>
    (ldI h 6 a1 2).bind fun v1 =>
    if v1 ≤ x2 then
      some ((-1), h)
    else
      (isO h 0 a0).bind fun _ =>
      (f_Desk_turnOf a0 a1 x2 h).bind fun p2 =>
      if p2.1 = 0 then
        some (x2, p2.2)
      else
        f_Desk_orderFirst_2 n a0 a1 (x2 + 1) p2.2
theorem t_Desk_orderFirst_2 {d : Nat} (hd : 3 ≤ d) : ∀ (n : Nat) (a0 : Nat) (a1 : Nat) (x2 : Int32) (h : PH) (r : Int32 × PH), f_Desk_orderFirst_2 n a0 a1 x2 h = some r → E d 0 0 m_Desk_orderFirst 2 [(0, .ref a0), (1, .ref a1), (2, .int x2)] [] h (PI r) := by
  intro n
  induction n with
  | zero => intro a0 a1 x2 h r hq; rw [f_Desk_orderFirst_2] at hq; cases hq
  | succ n ih =>
    intro a0 a1 x2 h r hq
    rw [f_Desk_orderFirst_2] at hq
    obtain ⟨d, rfl⟩ : ∃ e, d = e + 1 := ⟨d - 1, by omega⟩
    refine E_iln 2 d_Desk_orderFirst_2 rfl rfl ?_
    refine E_aln 1 d_Desk_orderFirst_3 rfl rfl ?_
    obtain ⟨v1, ev1, hq⟩ := bd hq
    refine E_gI d_Desk_orderFirst_4 lk_Desk_36 rfl ev1 ?_
    refine E_jge (tgt := 27) d_Desk_orderFirst_7 (by decide) (fun c => ?_) (fun c => ?_)
    · rw [if_pos c] at hq
      refine E_ic (v := (-1)) d_Desk_orderFirst_27 (by decide) ?_
      exact E_rI d_Desk_orderFirst_28 rfl hq
    · rw [if_neg c] at hq
      refine E_aln 0 d_Desk_orderFirst_10 rfl rfl ?_
      refine E_aln 1 d_Desk_orderFirst_11 rfl rfl ?_
      refine E_iln 2 d_Desk_orderFirst_12 rfl rfl ?_
      obtain ⟨q3, eq3, hq⟩ := bd hq
      obtain ⟨p2, ep2, hq⟩ := bd hq
      refine E_cV2I d_Desk_orderFirst_13 ck_Desk_44 rfl rfl eq3 (Nat.le_of_ble_eq_true rfl) (Nat.le_of_ble_eq_true rfl) (t_Desk_turnOf (by omega) ep2) ?_
      refine E_zne (tgt := 21) d_Desk_orderFirst_16 (by decide) (fun c => ?_) (fun c => ?_)
      · rw [if_neg c] at hq
        refine E_inc (v := 1) (ls' := [(2, .int (x2 + 1)), (0, .ref a0), (1, .ref a1)]) 2 d_Desk_orderFirst_21 rfl (Nat.le_of_ble_eq_true rfl) (by decide) rfl ?_
        refine E_goto (tgt := 2) d_Desk_orderFirst_24 (by decide) ?_
        exact E_sub (ks := [1, 2, 0]) rfl <| ih _ _ _ _ _ hq
      · rw [if_pos c] at hq
        refine E_iln 2 d_Desk_orderFirst_19 rfl rfl ?_
        exact E_rI d_Desk_orderFirst_20 rfl hq
def f_Desk_orderFirst (a0 : Nat) (a1 : Nat) (h : PH) : Option (Int32 × PH) :=
  f_Desk_orderFirst_2 FU a0 a1 0 h
theorem t_Desk_orderFirst {d : Nat} (hd : 3 ≤ d) {a0 : Nat} {a1 : Nat} {h : PH} {r : Int32 × PH} (hq : f_Desk_orderFirst a0 a1 h = some r) : E d 0 0 m_Desk_orderFirst 0 [(0, .ref a0), (1, .ref a1)] [] h (PI r) := by
  unfold f_Desk_orderFirst at hq
  obtain ⟨d, rfl⟩ : ∃ e, d = e + 1 := ⟨d - 1, by omega⟩
  refine E_ic (v := 0) d_Desk_orderFirst_0 (by decide) ?_
  refine E_isn (ls' := [(2, .int 0), (0, .ref a0), (1, .ref a1)]) d_Desk_orderFirst_1 (Nat.le_of_ble_eq_true rfl) rfl ?_
  exact E_sub (ks := [1, 2, 0]) rfl <| t_Desk_orderFirst_2 (by omega) _ _ _ _ _ _ hq
def f_Tc_ordered (a0 : Nat) (x1 : Int32) (h : PH) : Option (Int32 × PH) :=
  if x1 = 0 then
    (ldR h 8 a0 4).bind fun v7 =>
    (ldR h 8 a0 0).bind fun v8 =>
    (ldR h 1 v8 6).bind fun v9 =>
    (ldR h 7 v9 0).bind fun v10 =>
    (isO h 0 v7).bind fun _ =>
    (f_Desk_orderSum v7 v10 h).bind fun p11 =>
    some (p11.1, p11.2)
  else
    if x1 = 1 then
      (ldR h 8 a0 4).bind fun v1 =>
      (ldR h 8 a0 0).bind fun v2 =>
      (ldR h 1 v2 6).bind fun v3 =>
      (ldR h 7 v3 0).bind fun v4 =>
      (isO h 0 v1).bind fun _ =>
      (f_Desk_orderFirst v1 v4 h).bind fun p5 =>
      some (p5.1, p5.2)
    else
      some ((-1), h)
theorem t_Tc_ordered {d : Nat} (hd : 4 ≤ d) {a0 : Nat} {x1 : Int32} {h : PH} {r : Int32 × PH} (hq : f_Tc_ordered a0 x1 h = some r) : E d 0 0 m_Tc_ordered 0 [(0, .ref a0), (1, .int x1)] [] h (PI r) := by
  unfold f_Tc_ordered at hq
  obtain ⟨d, rfl⟩ : ∃ e, d = e + 1 := ⟨d - 1, by omega⟩
  refine E_iln 1 d_Tc_ordered_0 rfl rfl ?_
  refine E_zne (tgt := 22) d_Tc_ordered_1 (by decide) (fun c => ?_) (fun c => ?_)
  · rw [if_neg c] at hq
    refine E_iln 1 d_Tc_ordered_22 rfl rfl ?_
    refine E_ic (v := 1) d_Tc_ordered_23 (by decide) ?_
    refine E_jne (tgt := 47) d_Tc_ordered_24 (by decide) (fun c => ?_) (fun c => ?_)
    · rw [if_neg c] at hq
      refine E_ic (v := (-1)) d_Tc_ordered_47 (by decide) ?_
      exact E_rI d_Tc_ordered_48 rfl hq
    · rw [if_pos c] at hq
      refine E_aln 0 d_Tc_ordered_27 rfl rfl ?_
      obtain ⟨v1, ev1, hq⟩ := bd hq
      refine E_gR d_Tc_ordered_28 lk_Tc_40 rfl ev1 ?_
      refine E_aln 0 d_Tc_ordered_31 rfl rfl ?_
      obtain ⟨v2, ev2, hq⟩ := bd hq
      refine E_gR d_Tc_ordered_32 lk_Tc_10 rfl ev2 ?_
      obtain ⟨v3, ev3, hq⟩ := bd hq
      refine E_gR d_Tc_ordered_35 lk_Tc_230 rfl ev3 ?_
      obtain ⟨v4, ev4, hq⟩ := bd hq
      refine E_gR d_Tc_ordered_38 lk_Tc_234 rfl ev4 ?_
      obtain ⟨q6, eq6, hq⟩ := bd hq
      obtain ⟨p5, ep5, hq⟩ := bd hq
      refine E_cV1I d_Tc_ordered_41 ck_Tc_250 rfl rfl eq6 (Nat.le_of_ble_eq_true rfl) (Nat.le_of_ble_eq_true rfl) (t_Desk_orderFirst (by omega) ep5) ?_
      refine E_goto (tgt := 48) d_Tc_ordered_44 (by decide) ?_
      exact E_rI d_Tc_ordered_48 rfl hq
  · rw [if_pos c] at hq
    refine E_aln 0 d_Tc_ordered_4 rfl rfl ?_
    obtain ⟨v7, ev7, hq⟩ := bd hq
    refine E_gR d_Tc_ordered_5 lk_Tc_40 rfl ev7 ?_
    refine E_aln 0 d_Tc_ordered_8 rfl rfl ?_
    obtain ⟨v8, ev8, hq⟩ := bd hq
    refine E_gR d_Tc_ordered_9 lk_Tc_10 rfl ev8 ?_
    obtain ⟨v9, ev9, hq⟩ := bd hq
    refine E_gR d_Tc_ordered_12 lk_Tc_230 rfl ev9 ?_
    obtain ⟨v10, ev10, hq⟩ := bd hq
    refine E_gR d_Tc_ordered_15 lk_Tc_234 rfl ev10 ?_
    obtain ⟨q12, eq12, hq⟩ := bd hq
    obtain ⟨p11, ep11, hq⟩ := bd hq
    refine E_cV1I d_Tc_ordered_18 ck_Tc_246 rfl rfl eq12 (Nat.le_of_ble_eq_true rfl) (Nat.le_of_ble_eq_true rfl) (t_Desk_orderSum (by omega) ep11) ?_
    exact E_rI d_Tc_ordered_21 rfl hq
def f_Tc_hand (a0 : Nat) (x1 : Int32) (x2 : Int32) (h : PH) : Option (Int32 × PH) :=
  if x1 = (-1) then
    (ldR h 8 a0 0).bind fun v8 =>
    (ldR h 1 v8 6).bind fun v9 =>
    (ldR h 7 v9 1).bind fun v10 =>
    (isO h 6 v10).bind fun _ =>
    (f_Row_clear v10  h).bind fun p11 =>
    some (p11.1, p11.2)
  else
    (f_Tc_within x1 5 h).bind fun p1 =>
    if p1.1 = 0 then
      some ((-1), p1.2)
    else
      (f_Tc_within x2 5 p1.2).bind fun p2 =>
      if p2.1 = 0 then
        some ((-1), p2.2)
      else
        (ldR p2.2 8 a0 0).bind fun v3 =>
        (ldR p2.2 1 v3 6).bind fun v4 =>
        (ldR p2.2 7 v4 1).bind fun v5 =>
        (isO p2.2 6 v5).bind fun _ =>
        (f_Row_put v5 x1 x2 0 0 p2.2).bind fun p6 =>
        some (p6.1, p6.2)
theorem t_Tc_hand {d : Nat} (hd : 1 ≤ d) {a0 : Nat} {x1 : Int32} {x2 : Int32} {h : PH} {r : Int32 × PH} (hq : f_Tc_hand a0 x1 x2 h = some r) : E d 0 0 m_Tc_hand 0 [(0, .ref a0), (1, .int x1), (2, .int x2)] [] h (PI r) := by
  unfold f_Tc_hand at hq
  obtain ⟨d, rfl⟩ : ∃ e, d = e + 1 := ⟨d - 1, by omega⟩
  refine E_iln 1 d_Tc_hand_0 rfl rfl ?_
  refine E_ic (v := (-1)) d_Tc_hand_1 (by decide) ?_
  refine E_jne (tgt := 19) d_Tc_hand_2 (by decide) (fun c => ?_) (fun c => ?_)
  · rw [if_neg c] at hq
    refine E_iln 1 d_Tc_hand_19 rfl rfl ?_
    refine E_ic (v := 5) d_Tc_hand_20 (by decide) ?_
    obtain ⟨p1, ep1, hq⟩ := bd hq
    refine E_cS2I d_Tc_hand_21 ck_Tc_57 (Nat.le_of_ble_eq_true rfl) (Nat.le_of_ble_eq_true rfl) (t_Tc_within (by omega) ep1) ?_
    refine E_zeq (tgt := 35) d_Tc_hand_24 (by decide) (fun c => ?_) (fun c => ?_)
    · rw [if_pos c] at hq
      refine E_ic (v := (-1)) d_Tc_hand_35 (by decide) ?_
      exact E_rI d_Tc_hand_36 rfl hq
    · rw [if_neg c] at hq
      refine E_iln 2 d_Tc_hand_27 rfl rfl ?_
      refine E_ic (v := 5) d_Tc_hand_28 (by decide) ?_
      obtain ⟨p2, ep2, hq⟩ := bd hq
      refine E_cS2I d_Tc_hand_29 ck_Tc_57 (Nat.le_of_ble_eq_true rfl) (Nat.le_of_ble_eq_true rfl) (t_Tc_within (by omega) ep2) ?_
      refine E_zne (tgt := 37) d_Tc_hand_32 (by decide) (fun c => ?_) (fun c => ?_)
      · rw [if_neg c] at hq
        refine E_aln 0 d_Tc_hand_37 rfl rfl ?_
        obtain ⟨v3, ev3, hq⟩ := bd hq
        refine E_gR d_Tc_hand_38 lk_Tc_10 rfl ev3 ?_
        obtain ⟨v4, ev4, hq⟩ := bd hq
        refine E_gR d_Tc_hand_41 lk_Tc_230 rfl ev4 ?_
        obtain ⟨v5, ev5, hq⟩ := bd hq
        refine E_gR d_Tc_hand_44 lk_Tc_253 rfl ev5 ?_
        refine E_iln 1 d_Tc_hand_47 rfl rfl ?_
        refine E_iln 2 d_Tc_hand_48 rfl rfl ?_
        refine E_ic (v := 0) d_Tc_hand_49 (by decide) ?_
        refine E_ic (v := 0) d_Tc_hand_50 (by decide) ?_
        obtain ⟨q7, eq7, hq⟩ := bd hq
        obtain ⟨p6, ep6, hq⟩ := bd hq
        refine E_cV4I d_Tc_hand_51 ck_Tc_242 rfl rfl eq7 (Nat.le_of_ble_eq_true rfl) (Nat.le_of_ble_eq_true rfl) (t_Row_put (by omega) ep6) ?_
        exact E_rI d_Tc_hand_54 rfl hq
      · rw [if_pos c] at hq
        refine E_ic (v := (-1)) d_Tc_hand_35 (by decide) ?_
        exact E_rI d_Tc_hand_36 rfl hq
  · rw [if_pos c] at hq
    refine E_aln 0 d_Tc_hand_5 rfl rfl ?_
    obtain ⟨v8, ev8, hq⟩ := bd hq
    refine E_gR d_Tc_hand_6 lk_Tc_10 rfl ev8 ?_
    obtain ⟨v9, ev9, hq⟩ := bd hq
    refine E_gR d_Tc_hand_9 lk_Tc_230 rfl ev9 ?_
    obtain ⟨v10, ev10, hq⟩ := bd hq
    refine E_gR d_Tc_hand_12 lk_Tc_253 rfl ev10 ?_
    obtain ⟨q12, eq12, hq⟩ := bd hq
    obtain ⟨p11, ep11, hq⟩ := bd hq
    refine E_cV0I d_Tc_hand_15 ck_Tc_239 rfl rfl eq12 (Nat.le_of_ble_eq_true rfl) (Nat.le_of_ble_eq_true rfl) (t_Row_clear (by omega) ep11) ?_
    exact E_rI d_Tc_hand_18 rfl hq
def f_Desk_handsOf_5 : Nat → Nat → Int32 → Int32 → Int32 → PH → Option (Int32 × PH)
  | 0, _, _, _, _, _ => none
  | n + 1, a1, x2, x3, x4, h =>
    (ldI h 6 a1 2).bind fun v1 =>
    if v1 ≤ x4 then
      some (x3, h)
    else
      (isO h 6 a1).bind fun _ =>
      (f_Row_get a1 x4 0 h).bind fun p2 =>
      if p2.1 = x2 then
        (isO p2.2 6 a1).bind fun _ =>
        (f_Row_get a1 x4 1 p2.2).bind fun p4 =>
        f_Desk_handsOf_5 n a1 x2 (x3 ||| (jshl 1 p4.1)) (x4 + 1) p4.2
      else
        f_Desk_handsOf_5 n a1 x2 x3 (x4 + 1) p2.2
theorem t_Desk_handsOf_5 {d : Nat} (hd : 1 ≤ d) : ∀ (n : Nat) (a1 : Nat) (x2 : Int32) (x3 : Int32) (x4 : Int32) (h : PH) (r : Int32 × PH), f_Desk_handsOf_5 n a1 x2 x3 x4 h = some r → E d 0 0 m_Desk_handsOf 5 [(1, .ref a1), (2, .int x2), (3, .int x3), (4, .int x4)] [] h (PI r) := by
  intro n
  induction n with
  | zero => intro a1 x2 x3 x4 h r hq; rw [f_Desk_handsOf_5] at hq; cases hq
  | succ n ih =>
    intro a1 x2 x3 x4 h r hq
    rw [f_Desk_handsOf_5] at hq
    obtain ⟨d, rfl⟩ : ∃ e, d = e + 1 := ⟨d - 1, by omega⟩
    refine E_il 3 d_Desk_handsOf_5 rfl ?_
    refine E_aln 0 d_Desk_handsOf_7 rfl rfl ?_
    obtain ⟨v1, ev1, hq⟩ := bd hq
    refine E_gI d_Desk_handsOf_8 lk_Desk_36 rfl ev1 ?_
    refine E_jge (tgt := 43) d_Desk_handsOf_11 (by decide) (fun c => ?_) (fun c => ?_)
    · rw [if_pos c] at hq
      refine E_iln 2 d_Desk_handsOf_43 rfl rfl ?_
      exact E_rI d_Desk_handsOf_44 rfl hq
    · rw [if_neg c] at hq
      refine E_aln 0 d_Desk_handsOf_14 rfl rfl ?_
      refine E_il 3 d_Desk_handsOf_15 rfl ?_
      refine E_ic (v := 0) d_Desk_handsOf_17 (by decide) ?_
      obtain ⟨q3, eq3, hq⟩ := bd hq
      obtain ⟨p2, ep2, hq⟩ := bd hq
      refine E_cV2I d_Desk_handsOf_18 ck_Desk_30 rfl rfl eq3 (Nat.le_of_ble_eq_true rfl) (Nat.le_of_ble_eq_true rfl) (t_Row_get (by omega) ep2) ?_
      refine E_iln 1 d_Desk_handsOf_21 rfl rfl ?_
      refine E_jne (tgt := 37) d_Desk_handsOf_22 (by decide) (fun c => ?_) (fun c => ?_)
      · rw [if_neg c] at hq
        refine E_inc (v := 1) (ls' := [(4, .int (x4 + 1)), (1, .ref a1), (2, .int x2), (3, .int x3)]) 3 d_Desk_handsOf_37 rfl (Nat.le_of_ble_eq_true rfl) (by decide) rfl ?_
        refine E_goto (tgt := 5) d_Desk_handsOf_40 (by decide) ?_
        exact E_sub (ks := [1, 2, 3, 0]) rfl <| ih _ _ _ _ _ _ hq
      · rw [if_pos c] at hq
        refine E_iln 2 d_Desk_handsOf_25 rfl rfl ?_
        refine E_ic (v := 1) d_Desk_handsOf_26 (by decide) ?_
        refine E_aln 0 d_Desk_handsOf_27 rfl rfl ?_
        refine E_il 3 d_Desk_handsOf_28 rfl ?_
        refine E_ic (v := 1) d_Desk_handsOf_30 (by decide) ?_
        obtain ⟨q5, eq5, hq⟩ := bd hq
        obtain ⟨p4, ep4, hq⟩ := bd hq
        refine E_cV2I d_Desk_handsOf_31 ck_Desk_30 rfl rfl eq5 (Nat.le_of_ble_eq_true rfl) (Nat.le_of_ble_eq_true rfl) (t_Row_get (by omega) ep4) ?_
        refine E_ishl d_Desk_handsOf_34 ?_
        refine E_ior d_Desk_handsOf_35 ?_
        refine E_isn (ls' := [(3, .int (x3 ||| (jshl 1 p4.1))), (1, .ref a1), (2, .int x2), (4, .int x4)]) d_Desk_handsOf_36 (Nat.le_of_ble_eq_true rfl) rfl ?_
        refine E_inc (v := 1) (ls' := [(4, .int (x4 + 1)), (3, .int (x3 ||| (jshl 1 p4.1))), (1, .ref a1), (2, .int x2)]) 3 d_Desk_handsOf_37 rfl (Nat.le_of_ble_eq_true rfl) (by decide) rfl ?_
        refine E_goto (tgt := 5) d_Desk_handsOf_40 (by decide) ?_
        exact E_sub (ks := [2, 3, 1, 0]) rfl <| ih _ _ _ _ _ _ hq
def f_Desk_handsOf (a0 : Nat) (a1 : Nat) (x2 : Int32) (h : PH) : Option (Int32 × PH) :=
  f_Desk_handsOf_5 FU a1 x2 0 0 h
theorem t_Desk_handsOf {d : Nat} (hd : 1 ≤ d) {a0 : Nat} {a1 : Nat} {x2 : Int32} {h : PH} {r : Int32 × PH} (hq : f_Desk_handsOf a0 a1 x2 h = some r) : E d 0 0 m_Desk_handsOf 0 [(0, .ref a0), (1, .ref a1), (2, .int x2)] [] h (PI r) := by
  unfold f_Desk_handsOf at hq
  obtain ⟨d, rfl⟩ : ∃ e, d = e + 1 := ⟨d - 1, by omega⟩
  refine E_ic (v := 0) d_Desk_handsOf_0 (by decide) ?_
  refine E_isn (ls' := [(3, .int 0), (0, .ref a0), (1, .ref a1), (2, .int x2)]) d_Desk_handsOf_1 (Nat.le_of_ble_eq_true rfl) rfl ?_
  refine E_ic (v := 0) d_Desk_handsOf_2 (by decide) ?_
  refine E_is (ls' := [(4, .int 0), (3, .int 0), (0, .ref a0), (1, .ref a1), (2, .int x2)]) d_Desk_handsOf_3 (Nat.le_of_ble_eq_true rfl) rfl ?_
  exact E_sub (ks := [3, 4, 1, 0]) rfl <| t_Desk_handsOf_5 (by omega) _ _ _ _ _ _ _ hq
def f_Desk_takeHands_14 (k8 : Nat → Int32 → Int32 → PH → Option (PH)) : Nat → Nat → Int32 → Int32 → Int32 → PH → Option (PH)
  | 0, _, _, _, _, _ => none
  | n + 1, a0, x1, x2, x3, h =>
    if 6 ≤ x3 then
      k8 a0 x1 (x2 + (-1)) h
    else
      if ((jshr x1 x3) &&& 1) = 1 then
        if (x2 ||| (jshl 1 x3)) = x2 then
          f_Desk_takeHands_14 k8 n a0 x1 x2 (x3 + 1) h
        else
          (ldR h 0 a0 0).bind fun v1 =>
          (lnA h v1).bind fun v2 =>
          if v2 ≤ (x2 ||| (jshl 1 x3)) then
            f_Desk_takeHands_14 k8 n a0 x1 x2 (x3 + 1) h
          else
            (ldR h 0 a0 0).bind fun v3 =>
            (rdA h v3 (x2 ||| (jshl 1 x3))).bind fun v4 =>
            (ldR h 0 a0 0).bind fun v5 =>
            (rdA h v5 x2).bind fun v6 =>
            (wrA h v3 (x2 ||| (jshl 1 x3)) (v4 + v6)).bind fun h7 =>
            f_Desk_takeHands_14 k8 n a0 x1 x2 (x3 + 1) h7
      else
        f_Desk_takeHands_14 k8 n a0 x1 x2 (x3 + 1) h
theorem t_Desk_takeHands_14 {d : Nat} (hd : 0 ≤ d) {k8 : Nat → Int32 → Int32 → PH → Option (PH)} (hk8 : ∀ (a0 : Nat) (x1 : Int32) (x2 : Int32) (h : PH) (r : PH), k8 a0 x1 x2 h = some r → E d 0 0 m_Desk_takeHands 8 [(0, .ref a0), (1, .int x1), (2, .int x2)] [] h (PV r)) : ∀ (n : Nat) (a0 : Nat) (x1 : Int32) (x2 : Int32) (x3 : Int32) (h : PH) (r : PH), f_Desk_takeHands_14 k8 n a0 x1 x2 x3 h = some r → E d 0 0 m_Desk_takeHands 14 [(0, .ref a0), (1, .int x1), (2, .int x2), (3, .int x3)] [] h (PV r) := by
  intro n
  induction n with
  | zero => intro a0 x1 x2 x3 h r hq; rw [f_Desk_takeHands_14] at hq; cases hq
  | succ n ih =>
    intro a0 x1 x2 x3 h r hq
    rw [f_Desk_takeHands_14] at hq
    refine E_iln 3 d_Desk_takeHands_14 rfl rfl ?_
    refine E_bi (v := 6) d_Desk_takeHands_15 (by decide) ?_
    refine E_jge (tgt := 74) d_Desk_takeHands_17 (by decide) (fun c => ?_) (fun c => ?_)
    · rw [if_pos c] at hq
      refine E_inc (v := (-1)) (ls' := [(2, .int (x2 + (-1))), (0, .ref a0), (1, .int x1), (3, .int x3)]) 2 d_Desk_takeHands_74 rfl (Nat.le_of_ble_eq_true rfl) (by decide) rfl ?_
      refine E_goto (tgt := 8) d_Desk_takeHands_77 (by decide) ?_
      exact E_sub (ks := [1, 2, 0]) rfl <| hk8 _ _ _ _ _ hq
    · rw [if_neg c] at hq
      refine E_iln 2 d_Desk_takeHands_20 rfl rfl ?_
      refine E_ic (v := 1) d_Desk_takeHands_21 (by decide) ?_
      refine E_iln 3 d_Desk_takeHands_22 rfl rfl ?_
      refine E_ishl d_Desk_takeHands_23 ?_
      refine E_ior d_Desk_takeHands_24 ?_
      refine E_is (ls' := [(4, .int (x2 ||| (jshl 1 x3))), (0, .ref a0), (1, .int x1), (2, .int x2), (3, .int x3)]) d_Desk_takeHands_25 (Nat.le_of_ble_eq_true rfl) rfl ?_
      refine E_iln 2 d_Desk_takeHands_27 rfl rfl ?_
      refine E_iln 4 d_Desk_takeHands_28 rfl rfl ?_
      refine E_ishr d_Desk_takeHands_29 ?_
      refine E_ic (v := 1) d_Desk_takeHands_30 (by decide) ?_
      refine E_iand d_Desk_takeHands_31 ?_
      refine E_ic (v := 1) d_Desk_takeHands_32 (by decide) ?_
      refine E_jne (tgt := 68) d_Desk_takeHands_33 (by decide) (fun c => ?_) (fun c => ?_)
      · rw [if_neg c] at hq
        refine E_inc (v := 1) (ls' := [(3, .int (x3 + 1)), (4, .int (x2 ||| (jshl 1 x3))), (0, .ref a0), (1, .int x1), (2, .int x2)]) 4 d_Desk_takeHands_68 rfl (Nat.le_of_ble_eq_true rfl) (by decide) rfl ?_
        refine E_goto (tgt := 14) d_Desk_takeHands_71 (by decide) ?_
        exact E_sub (ks := [2, 3, 4, 0]) rfl <| ih _ _ _ _ _ _ hq
      · rw [if_pos c] at hq
        refine E_il 0 d_Desk_takeHands_36 rfl ?_
        refine E_iln 3 d_Desk_takeHands_38 rfl rfl ?_
        refine E_jeq (tgt := 68) d_Desk_takeHands_39 (by decide) (fun c => ?_) (fun c => ?_)
        · rw [if_pos c] at hq
          refine E_inc (v := 1) (ls' := [(3, .int (x3 + 1)), (4, .int (x2 ||| (jshl 1 x3))), (0, .ref a0), (1, .int x1), (2, .int x2)]) 4 d_Desk_takeHands_68 rfl (Nat.le_of_ble_eq_true rfl) (by decide) rfl ?_
          refine E_goto (tgt := 14) d_Desk_takeHands_71 (by decide) ?_
          exact E_sub (ks := [2, 3, 4, 0]) rfl <| ih _ _ _ _ _ _ hq
        · rw [if_neg c] at hq
          refine E_il 0 d_Desk_takeHands_42 rfl ?_
          refine E_aln 1 d_Desk_takeHands_44 rfl rfl ?_
          obtain ⟨v1, ev1, hq⟩ := bd hq
          refine E_gR d_Desk_takeHands_45 lk_Desk_9 rfl ev1 ?_
          obtain ⟨v2, ev2, hq⟩ := bd hq
          refine E_ln d_Desk_takeHands_48 ev2 ?_
          refine E_jge (tgt := 68) d_Desk_takeHands_49 (by decide) (fun c => ?_) (fun c => ?_)
          · rw [if_pos c] at hq
            refine E_inc (v := 1) (ls' := [(3, .int (x3 + 1)), (4, .int (x2 ||| (jshl 1 x3))), (0, .ref a0), (1, .int x1), (2, .int x2)]) 4 d_Desk_takeHands_68 rfl (Nat.le_of_ble_eq_true rfl) (by decide) rfl ?_
            refine E_goto (tgt := 14) d_Desk_takeHands_71 (by decide) ?_
            exact E_sub (ks := [2, 3, 4, 0]) rfl <| ih _ _ _ _ _ _ hq
          · rw [if_neg c] at hq
            refine E_aln 1 d_Desk_takeHands_52 rfl rfl ?_
            obtain ⟨v3, ev3, hq⟩ := bd hq
            refine E_gR d_Desk_takeHands_53 lk_Desk_9 rfl ev3 ?_
            refine E_il 0 d_Desk_takeHands_56 rfl ?_
            refine E_dup2 d_Desk_takeHands_58 ?_
            obtain ⟨v4, ev4, hq⟩ := bd hq
            refine E_ra d_Desk_takeHands_59 ev4 ?_
            refine E_aln 1 d_Desk_takeHands_60 rfl rfl ?_
            obtain ⟨v5, ev5, hq⟩ := bd hq
            refine E_gR d_Desk_takeHands_61 lk_Desk_9 rfl ev5 ?_
            refine E_iln 3 d_Desk_takeHands_64 rfl rfl ?_
            obtain ⟨v6, ev6, hq⟩ := bd hq
            refine E_ra d_Desk_takeHands_65 ev6 ?_
            refine E_iadd d_Desk_takeHands_66 ?_
            obtain ⟨h7, eh7, hq⟩ := bd hq
            refine E_wa d_Desk_takeHands_67 eh7 ?_
            refine E_inc (v := 1) (ls' := [(3, .int (x3 + 1)), (4, .int (x2 ||| (jshl 1 x3))), (0, .ref a0), (1, .int x1), (2, .int x2)]) 4 d_Desk_takeHands_68 rfl (Nat.le_of_ble_eq_true rfl) (by decide) rfl ?_
            refine E_goto (tgt := 14) d_Desk_takeHands_71 (by decide) ?_
            exact E_sub (ks := [2, 3, 4, 0]) rfl <| ih _ _ _ _ _ _ hq
def f_Desk_takeHands_8 : Nat → Nat → Int32 → Int32 → PH → Option (PH)
  | 0, _, _, _, _ => none
  | n + 1, a0, x1, x2, h =>
    if x2 < 0 then
      some h
    else
      f_Desk_takeHands_14 (fun a0 x1 x2 h => f_Desk_takeHands_8 n a0 x1 x2 h) FU a0 x1 x2 0 h
theorem t_Desk_takeHands_8 {d : Nat} (hd : 0 ≤ d) : ∀ (n : Nat) (a0 : Nat) (x1 : Int32) (x2 : Int32) (h : PH) (r : PH), f_Desk_takeHands_8 n a0 x1 x2 h = some r → E d 0 0 m_Desk_takeHands 8 [(0, .ref a0), (1, .int x1), (2, .int x2)] [] h (PV r) := by
  intro n
  induction n with
  | zero => intro a0 x1 x2 h r hq; rw [f_Desk_takeHands_8] at hq; cases hq
  | succ n ih =>
    intro a0 x1 x2 h r hq
    rw [f_Desk_takeHands_8] at hq
    refine E_iln 2 d_Desk_takeHands_8 rfl rfl ?_
    refine E_zlt (tgt := 80) d_Desk_takeHands_9 (by decide) (fun c => ?_) (fun c => ?_)
    · rw [if_pos c] at hq
      exact E_rV d_Desk_takeHands_80 rfl hq
    · rw [if_neg c] at hq
      refine E_ic (v := 0) d_Desk_takeHands_12 (by decide) ?_
      refine E_isn (ls' := [(3, .int 0), (0, .ref a0), (1, .int x1), (2, .int x2)]) d_Desk_takeHands_13 (Nat.le_of_ble_eq_true rfl) rfl ?_
      exact E_sub (ks := [1, 2, 3, 0]) rfl <| t_Desk_takeHands_14 (by omega) ih _ _ _ _ _ _ _ hq
def f_Desk_takeHands (a0 : Nat) (x1 : Int32) (h : PH) : Option (PH) :=
  (ldR h 0 a0 0).bind fun v1 =>
  (lnA h v1).bind fun v2 =>
  f_Desk_takeHands_8 FU a0 x1 (v2 - 1) h
theorem t_Desk_takeHands {d : Nat} (hd : 0 ≤ d) {a0 : Nat} {x1 : Int32} {h : PH} {r : PH} (hq : f_Desk_takeHands a0 x1 h = some r) : E d 0 0 m_Desk_takeHands 0 [(0, .ref a0), (1, .int x1)] [] h (PV r) := by
  unfold f_Desk_takeHands at hq
  refine E_aln 0 d_Desk_takeHands_0 rfl rfl ?_
  obtain ⟨v1, ev1, hq⟩ := bd hq
  refine E_gR d_Desk_takeHands_1 lk_Desk_9 rfl ev1 ?_
  obtain ⟨v2, ev2, hq⟩ := bd hq
  refine E_ln d_Desk_takeHands_4 ev2 ?_
  refine E_ic (v := 1) d_Desk_takeHands_5 (by decide) ?_
  refine E_isub d_Desk_takeHands_6 ?_
  refine E_isn (ls' := [(2, .int (v2 - 1)), (0, .ref a0), (1, .int x1)]) d_Desk_takeHands_7 (Nat.le_of_ble_eq_true rfl) rfl ?_
  exact E_sub (ks := [1, 2, 0]) rfl <| t_Desk_takeHands_8 (by omega) _ _ _ _ _ _ hq
def f_Desk_mostHands_60 : Nat → Nat → Int32 → Int32 → PH → Option (Int32 × PH)
  | 0, _, _, _, _ => none
  | n + 1, a0, x2, x3, h =>
    (ldR h 0 a0 0).bind fun v1 =>
    (lnA h v1).bind fun v2 =>
    if v2 ≤ x3 then
      some (x2, h)
    else
      (ldR h 0 a0 0).bind fun v3 =>
      (rdA h v3 x3).bind fun v4 =>
      if v4 ≤ 0 then
        f_Desk_mostHands_60 n a0 x2 (x3 + 1) h
      else
        (f_Int_bitCount x3 h).bind fun p5 =>
        f_Desk_mostHands_60 n a0 (jmax x2 p5.1) (x3 + 1) p5.2
theorem t_Desk_mostHands_60 {d : Nat} (hd : 2 ≤ d) : ∀ (n : Nat) (a0 : Nat) (x2 : Int32) (x3 : Int32) (h : PH) (r : Int32 × PH), f_Desk_mostHands_60 n a0 x2 x3 h = some r → E d 0 0 m_Desk_mostHands 60 [(0, .ref a0), (2, .int x2), (3, .int x3)] [] h (PI r) := by
  intro n
  induction n with
  | zero => intro a0 x2 x3 h r hq; rw [f_Desk_mostHands_60] at hq; cases hq
  | succ n ih =>
    intro a0 x2 x3 h r hq
    rw [f_Desk_mostHands_60] at hq
    obtain ⟨d, rfl⟩ : ∃ e, d = e + 1 := ⟨d - 1, by omega⟩
    refine E_iln 2 d_Desk_mostHands_60 rfl rfl ?_
    refine E_aln 0 d_Desk_mostHands_61 rfl rfl ?_
    obtain ⟨v1, ev1, hq⟩ := bd hq
    refine E_gR d_Desk_mostHands_62 lk_Desk_9 rfl ev1 ?_
    obtain ⟨v2, ev2, hq⟩ := bd hq
    refine E_ln d_Desk_mostHands_65 ev2 ?_
    refine E_jge (tgt := 93) d_Desk_mostHands_66 (by decide) (fun c => ?_) (fun c => ?_)
    · rw [if_pos c] at hq
      refine E_iln 1 d_Desk_mostHands_93 rfl rfl ?_
      exact E_rI d_Desk_mostHands_94 rfl hq
    · rw [if_neg c] at hq
      refine E_aln 0 d_Desk_mostHands_69 rfl rfl ?_
      obtain ⟨v3, ev3, hq⟩ := bd hq
      refine E_gR d_Desk_mostHands_70 lk_Desk_9 rfl ev3 ?_
      refine E_iln 2 d_Desk_mostHands_73 rfl rfl ?_
      obtain ⟨v4, ev4, hq⟩ := bd hq
      refine E_ra d_Desk_mostHands_74 ev4 ?_
      refine E_zle (tgt := 87) d_Desk_mostHands_75 (by decide) (fun c => ?_) (fun c => ?_)
      · rw [if_pos c] at hq
        refine E_inc (v := 1) (ls' := [(3, .int (x3 + 1)), (0, .ref a0), (2, .int x2)]) 2 d_Desk_mostHands_87 rfl (Nat.le_of_ble_eq_true rfl) (by decide) rfl ?_
        refine E_goto (tgt := 60) d_Desk_mostHands_90 (by decide) ?_
        exact E_sub (ks := [1, 2, 0]) rfl <| ih _ _ _ _ _ hq
      · rw [if_neg c] at hq
        refine E_iln 1 d_Desk_mostHands_78 rfl rfl ?_
        refine E_iln 2 d_Desk_mostHands_79 rfl rfl ?_
        obtain ⟨p5, ep5, hq⟩ := bd hq
        refine E_cS1I d_Desk_mostHands_80 ck_Desk_54 (Nat.le_of_ble_eq_true rfl) (Nat.le_of_ble_eq_true rfl) (t_Int_bitCount (by omega) ep5) ?_
        refine E_max d_Desk_mostHands_83 kj_Desk_60 (Nat.le_of_ble_eq_true rfl) ?_
        refine E_isn (ls' := [(2, .int (jmax x2 p5.1)), (0, .ref a0), (3, .int x3)]) d_Desk_mostHands_86 (Nat.le_of_ble_eq_true rfl) rfl ?_
        refine E_inc (v := 1) (ls' := [(3, .int (x3 + 1)), (2, .int (jmax x2 p5.1)), (0, .ref a0)]) 2 d_Desk_mostHands_87 rfl (Nat.le_of_ble_eq_true rfl) (by decide) rfl ?_
        refine E_goto (tgt := 60) d_Desk_mostHands_90 (by decide) ?_
        exact E_sub (ks := [2, 1, 0]) rfl <| ih _ _ _ _ _ hq
def f_Desk_mostHands_34 : Nat → Nat → Nat → Int32 → PH → Option (Int32 × PH)
  | 0, _, _, _, _ => none
  | n + 1, a0, a1, x2, h =>
    if 6 ≤ x2 then
      f_Desk_mostHands_60 FU a0 0 0 h
    else
      (isO h 0 a0).bind fun _ =>
      (f_Desk_handsOf a0 a1 x2 h).bind fun p1 =>
      (isO p1.2 0 a0).bind fun _ =>
      (f_Desk_takeHands a0 p1.1 p1.2).bind fun h3 =>
      f_Desk_mostHands_34 n a0 a1 (x2 + 1) h3
theorem t_Desk_mostHands_34 {d : Nat} (hd : 2 ≤ d) : ∀ (n : Nat) (a0 : Nat) (a1 : Nat) (x2 : Int32) (h : PH) (r : Int32 × PH), f_Desk_mostHands_34 n a0 a1 x2 h = some r → E d 0 0 m_Desk_mostHands 34 [(0, .ref a0), (1, .ref a1), (2, .int x2)] [] h (PI r) := by
  intro n
  induction n with
  | zero => intro a0 a1 x2 h r hq; rw [f_Desk_mostHands_34] at hq; cases hq
  | succ n ih =>
    intro a0 a1 x2 h r hq
    rw [f_Desk_mostHands_34] at hq
    obtain ⟨d, rfl⟩ : ∃ e, d = e + 1 := ⟨d - 1, by omega⟩
    refine E_iln 2 d_Desk_mostHands_34 rfl rfl ?_
    refine E_bi (v := 6) d_Desk_mostHands_35 (by decide) ?_
    refine E_jge (tgt := 56) d_Desk_mostHands_37 (by decide) (fun c => ?_) (fun c => ?_)
    · rw [if_pos c] at hq
      refine E_ic (v := 0) d_Desk_mostHands_56 (by decide) ?_
      refine E_isn (ls' := [(2, .int 0), (0, .ref a0), (1, .ref a1)]) d_Desk_mostHands_57 (Nat.le_of_ble_eq_true rfl) rfl ?_
      refine E_ic (v := 0) d_Desk_mostHands_58 (by decide) ?_
      refine E_isn (ls' := [(3, .int 0), (2, .int 0), (0, .ref a0), (1, .ref a1)]) d_Desk_mostHands_59 (Nat.le_of_ble_eq_true rfl) rfl ?_
      exact E_sub (ks := [2, 1, 0]) rfl <| t_Desk_mostHands_60 (by omega) _ _ _ _ _ _ hq
    · rw [if_neg c] at hq
      refine E_aln 0 d_Desk_mostHands_40 rfl rfl ?_
      refine E_aln 0 d_Desk_mostHands_41 rfl rfl ?_
      refine E_aln 1 d_Desk_mostHands_42 rfl rfl ?_
      refine E_iln 2 d_Desk_mostHands_43 rfl rfl ?_
      obtain ⟨q2, eq2, hq⟩ := bd hq
      obtain ⟨p1, ep1, hq⟩ := bd hq
      refine E_cV2I d_Desk_mostHands_44 ck_Desk_47 rfl rfl eq2 (Nat.le_of_ble_eq_true rfl) (Nat.le_of_ble_eq_true rfl) (t_Desk_handsOf (by omega) ep1) ?_
      obtain ⟨q4, eq4, hq⟩ := bd hq
      obtain ⟨h3, eh3, hq⟩ := bd hq
      refine E_cV1V d_Desk_mostHands_47 ck_Desk_50 rfl rfl eq4 (Nat.le_of_ble_eq_true rfl) (Nat.le_of_ble_eq_true rfl) (t_Desk_takeHands (by omega) eh3) ?_
      refine E_inc (v := 1) (ls' := [(2, .int (x2 + 1)), (0, .ref a0), (1, .ref a1)]) 2 d_Desk_mostHands_50 rfl (Nat.le_of_ble_eq_true rfl) (by decide) rfl ?_
      refine E_goto (tgt := 34) d_Desk_mostHands_53 (by decide) ?_
      exact E_sub (ks := [1, 2, 0]) rfl <| ih _ _ _ _ _ hq
def f_Desk_mostHands_25 (k2 : Nat → Nat → Int32 → PH → Option (Int32 × PH)) (a0 : Nat) (a1 : Nat) (x2 : Int32) (s0 : Int32) (s1 : Int32) (s2 : Nat) (h : PH) : Option (Int32 × PH) :=
  (wrA h s2 s1 s0).bind fun h1 =>
  k2 a0 a1 (x2 + 1) h1
theorem t_Desk_mostHands_25 {d : Nat} (hd : 2 ≤ d) {k2 : Nat → Nat → Int32 → PH → Option (Int32 × PH)} (hk2 : ∀ (a0 : Nat) (a1 : Nat) (x2 : Int32) (h : PH) (r : Int32 × PH), k2 a0 a1 x2 h = some r → E d 0 0 m_Desk_mostHands 2 [(0, .ref a0), (1, .ref a1), (2, .int x2)] [] h (PI r)) {a0 : Nat} {a1 : Nat} {x2 : Int32} {s0 : Int32} {s1 : Int32} {s2 : Nat} {h : PH} {r : Int32 × PH} (hq : f_Desk_mostHands_25 k2 a0 a1 x2 s0 s1 s2 h = some r) : E d 0 0 m_Desk_mostHands 25 [(0, .ref a0), (1, .ref a1), (2, .int x2)] [.int s0, .int s1, .ref s2] h (PI r) := by
  unfold f_Desk_mostHands_25 at hq
  obtain ⟨d, rfl⟩ : ∃ e, d = e + 1 := ⟨d - 1, by omega⟩
  obtain ⟨h1, eh1, hq⟩ := bd hq
  refine E_wa d_Desk_mostHands_25 eh1 ?_
  refine E_inc (v := 1) (ls' := [(2, .int (x2 + 1)), (0, .ref a0), (1, .ref a1)]) 2 d_Desk_mostHands_26 rfl (Nat.le_of_ble_eq_true rfl) (by decide) rfl ?_
  refine E_goto (tgt := 2) d_Desk_mostHands_29 (by decide) ?_
  exact E_sub (ks := [1, 2, 0]) rfl <| hk2 _ _ _ _ _ hq
def f_Desk_mostHands_2 : Nat → Nat → Nat → Int32 → PH → Option (Int32 × PH)
  | 0, _, _, _, _ => none
  | n + 1, a0, a1, x2, h =>
    (ldR h 0 a0 0).bind fun v1 =>
    (lnA h v1).bind fun v2 =>
    if v2 ≤ x2 then
      f_Desk_mostHands_34 FU a0 a1 0 h
    else
      (ldR h 0 a0 0).bind fun v3 =>
      if x2 = 0 then
        f_Desk_mostHands_25 (fun a0 a1 x2 h => f_Desk_mostHands_2 n a0 a1 x2 h) a0 a1 x2 1 x2 v3 h
      else
        f_Desk_mostHands_25 (fun a0 a1 x2 h => f_Desk_mostHands_2 n a0 a1 x2 h) a0 a1 x2 0 x2 v3 h
theorem t_Desk_mostHands_2 {d : Nat} (hd : 2 ≤ d) : ∀ (n : Nat) (a0 : Nat) (a1 : Nat) (x2 : Int32) (h : PH) (r : Int32 × PH), f_Desk_mostHands_2 n a0 a1 x2 h = some r → E d 0 0 m_Desk_mostHands 2 [(0, .ref a0), (1, .ref a1), (2, .int x2)] [] h (PI r) := by
  intro n
  induction n with
  | zero => intro a0 a1 x2 h r hq; rw [f_Desk_mostHands_2] at hq; cases hq
  | succ n ih =>
    intro a0 a1 x2 h r hq
    rw [f_Desk_mostHands_2] at hq
    obtain ⟨d, rfl⟩ : ∃ e, d = e + 1 := ⟨d - 1, by omega⟩
    refine E_iln 2 d_Desk_mostHands_2 rfl rfl ?_
    refine E_aln 0 d_Desk_mostHands_3 rfl rfl ?_
    obtain ⟨v1, ev1, hq⟩ := bd hq
    refine E_gR d_Desk_mostHands_4 lk_Desk_9 rfl ev1 ?_
    obtain ⟨v2, ev2, hq⟩ := bd hq
    refine E_ln d_Desk_mostHands_7 ev2 ?_
    refine E_jge (tgt := 32) d_Desk_mostHands_8 (by decide) (fun c => ?_) (fun c => ?_)
    · rw [if_pos c] at hq
      refine E_ic (v := 0) d_Desk_mostHands_32 (by decide) ?_
      refine E_isn (ls' := [(2, .int 0), (0, .ref a0), (1, .ref a1)]) d_Desk_mostHands_33 (Nat.le_of_ble_eq_true rfl) rfl ?_
      exact E_sub (ks := [1, 2, 0]) rfl <| t_Desk_mostHands_34 (by omega) _ _ _ _ _ _ hq
    · rw [if_neg c] at hq
      refine E_aln 0 d_Desk_mostHands_11 rfl rfl ?_
      obtain ⟨v3, ev3, hq⟩ := bd hq
      refine E_gR d_Desk_mostHands_12 lk_Desk_9 rfl ev3 ?_
      refine E_iln 2 d_Desk_mostHands_15 rfl rfl ?_
      refine E_iln 2 d_Desk_mostHands_16 rfl rfl ?_
      refine E_zne (tgt := 24) d_Desk_mostHands_17 (by decide) (fun c => ?_) (fun c => ?_)
      · rw [if_neg c] at hq
        refine E_ic (v := 0) d_Desk_mostHands_24 (by decide) ?_
        exact t_Desk_mostHands_25 (by omega) ih hq
      · rw [if_pos c] at hq
        refine E_ic (v := 1) d_Desk_mostHands_20 (by decide) ?_
        refine E_goto (tgt := 25) d_Desk_mostHands_21 (by decide) ?_
        exact t_Desk_mostHands_25 (by omega) ih hq
def f_Desk_mostHands (a0 : Nat) (a1 : Nat) (h : PH) : Option (Int32 × PH) :=
  f_Desk_mostHands_2 FU a0 a1 0 h
theorem t_Desk_mostHands {d : Nat} (hd : 2 ≤ d) {a0 : Nat} {a1 : Nat} {h : PH} {r : Int32 × PH} (hq : f_Desk_mostHands a0 a1 h = some r) : E d 0 0 m_Desk_mostHands 0 [(0, .ref a0), (1, .ref a1)] [] h (PI r) := by
  unfold f_Desk_mostHands at hq
  obtain ⟨d, rfl⟩ : ∃ e, d = e + 1 := ⟨d - 1, by omega⟩
  refine E_ic (v := 0) d_Desk_mostHands_0 (by decide) ?_
  refine E_isn (ls' := [(2, .int 0), (0, .ref a0), (1, .ref a1)]) d_Desk_mostHands_1 (Nat.le_of_ble_eq_true rfl) rfl ?_
  exact E_sub (ks := [1, 2, 0]) rfl <| t_Desk_mostHands_2 (by omega) _ _ _ _ _ _ hq
def f_Desk_waysOf_4 : Nat → Nat → Int32 → Int32 → Int32 → PH → Option (Int32 × PH)
  | 0, _, _, _, _, _ => none
  | n + 1, a0, x1, x2, x3, h =>
    (ldR h 0 a0 0).bind fun v1 =>
    (lnA h v1).bind fun v2 =>
    if v2 ≤ x3 then
      some (x2, h)
    else
      (f_Int_bitCount x3 h).bind fun p3 =>
      if p3.1 = x1 then
        (ldR p3.2 0 a0 0).bind fun v4 =>
        (rdA p3.2 v4 x3).bind fun v5 =>
        f_Desk_waysOf_4 n a0 x1 (x2 + v5) (x3 + 1) p3.2
      else
        f_Desk_waysOf_4 n a0 x1 x2 (x3 + 1) p3.2
theorem t_Desk_waysOf_4 {d : Nat} (hd : 1 ≤ d) : ∀ (n : Nat) (a0 : Nat) (x1 : Int32) (x2 : Int32) (x3 : Int32) (h : PH) (r : Int32 × PH), f_Desk_waysOf_4 n a0 x1 x2 x3 h = some r → E d 0 0 m_Desk_waysOf 4 [(0, .ref a0), (1, .int x1), (2, .int x2), (3, .int x3)] [] h (PI r) := by
  intro n
  induction n with
  | zero => intro a0 x1 x2 x3 h r hq; rw [f_Desk_waysOf_4] at hq; cases hq
  | succ n ih =>
    intro a0 x1 x2 x3 h r hq
    rw [f_Desk_waysOf_4] at hq
    obtain ⟨d, rfl⟩ : ∃ e, d = e + 1 := ⟨d - 1, by omega⟩
    refine E_iln 3 d_Desk_waysOf_4 rfl rfl ?_
    refine E_aln 0 d_Desk_waysOf_5 rfl rfl ?_
    obtain ⟨v1, ev1, hq⟩ := bd hq
    refine E_gR d_Desk_waysOf_6 lk_Desk_9 rfl ev1 ?_
    obtain ⟨v2, ev2, hq⟩ := bd hq
    refine E_ln d_Desk_waysOf_9 ev2 ?_
    refine E_jge (tgt := 36) d_Desk_waysOf_10 (by decide) (fun c => ?_) (fun c => ?_)
    · rw [if_pos c] at hq
      refine E_iln 2 d_Desk_waysOf_36 rfl rfl ?_
      exact E_rI d_Desk_waysOf_37 rfl hq
    · rw [if_neg c] at hq
      refine E_iln 3 d_Desk_waysOf_13 rfl rfl ?_
      obtain ⟨p3, ep3, hq⟩ := bd hq
      refine E_cS1I d_Desk_waysOf_14 ck_Desk_54 (Nat.le_of_ble_eq_true rfl) (Nat.le_of_ble_eq_true rfl) (t_Int_bitCount (by omega) ep3) ?_
      refine E_iln 1 d_Desk_waysOf_17 rfl rfl ?_
      refine E_jne (tgt := 30) d_Desk_waysOf_18 (by decide) (fun c => ?_) (fun c => ?_)
      · rw [if_neg c] at hq
        refine E_inc (v := 1) (ls' := [(3, .int (x3 + 1)), (0, .ref a0), (1, .int x1), (2, .int x2)]) 3 d_Desk_waysOf_30 rfl (Nat.le_of_ble_eq_true rfl) (by decide) rfl ?_
        refine E_goto (tgt := 4) d_Desk_waysOf_33 (by decide) ?_
        exact E_sub (ks := [1, 2, 3, 0]) rfl <| ih _ _ _ _ _ _ hq
      · rw [if_pos c] at hq
        refine E_iln 2 d_Desk_waysOf_21 rfl rfl ?_
        refine E_aln 0 d_Desk_waysOf_22 rfl rfl ?_
        obtain ⟨v4, ev4, hq⟩ := bd hq
        refine E_gR d_Desk_waysOf_23 lk_Desk_9 rfl ev4 ?_
        refine E_iln 3 d_Desk_waysOf_26 rfl rfl ?_
        obtain ⟨v5, ev5, hq⟩ := bd hq
        refine E_ra d_Desk_waysOf_27 ev5 ?_
        refine E_iadd d_Desk_waysOf_28 ?_
        refine E_isn (ls' := [(2, .int (x2 + v5)), (0, .ref a0), (1, .int x1), (3, .int x3)]) d_Desk_waysOf_29 (Nat.le_of_ble_eq_true rfl) rfl ?_
        refine E_inc (v := 1) (ls' := [(3, .int (x3 + 1)), (2, .int (x2 + v5)), (0, .ref a0), (1, .int x1)]) 3 d_Desk_waysOf_30 rfl (Nat.le_of_ble_eq_true rfl) (by decide) rfl ?_
        refine E_goto (tgt := 4) d_Desk_waysOf_33 (by decide) ?_
        exact E_sub (ks := [2, 3, 1, 0]) rfl <| ih _ _ _ _ _ _ hq
def f_Desk_waysOf (a0 : Nat) (x1 : Int32) (h : PH) : Option (Int32 × PH) :=
  f_Desk_waysOf_4 FU a0 x1 0 0 h
theorem t_Desk_waysOf {d : Nat} (hd : 1 ≤ d) {a0 : Nat} {x1 : Int32} {h : PH} {r : Int32 × PH} (hq : f_Desk_waysOf a0 x1 h = some r) : E d 0 0 m_Desk_waysOf 0 [(0, .ref a0), (1, .int x1)] [] h (PI r) := by
  unfold f_Desk_waysOf at hq
  obtain ⟨d, rfl⟩ : ∃ e, d = e + 1 := ⟨d - 1, by omega⟩
  refine E_ic (v := 0) d_Desk_waysOf_0 (by decide) ?_
  refine E_isn (ls' := [(2, .int 0), (0, .ref a0), (1, .int x1)]) d_Desk_waysOf_1 (Nat.le_of_ble_eq_true rfl) rfl ?_
  refine E_ic (v := 0) d_Desk_waysOf_2 (by decide) ?_
  refine E_isn (ls' := [(3, .int 0), (2, .int 0), (0, .ref a0), (1, .int x1)]) d_Desk_waysOf_3 (Nat.le_of_ble_eq_true rfl) rfl ?_
  exact E_sub (ks := [2, 3, 1, 0]) rfl <| t_Desk_waysOf_4 (by omega) _ _ _ _ _ _ _ hq
def f_Tc_hands (a0 : Nat) (x1 : Int32) (h : PH) : Option (Int32 × PH) :=
  (f_Tc_within x1 1 h).bind fun p1 =>
  if p1.1 = 0 then
    some ((-1), p1.2)
  else
    (ldR p1.2 8 a0 4).bind fun v2 =>
    (ldR p1.2 8 a0 0).bind fun v3 =>
    (ldR p1.2 1 v3 6).bind fun v4 =>
    (ldR p1.2 7 v4 1).bind fun v5 =>
    (isO p1.2 0 v2).bind fun _ =>
    (f_Desk_mostHands v2 v5 p1.2).bind fun p6 =>
    if x1 = 0 then
      some (p6.1, p6.2)
    else
      (ldR p6.2 8 a0 4).bind fun v8 =>
      (isO p6.2 0 v8).bind fun _ =>
      (f_Desk_waysOf v8 p6.1 p6.2).bind fun p9 =>
      some (p9.1, p9.2)
theorem t_Tc_hands {d : Nat} (hd : 3 ≤ d) {a0 : Nat} {x1 : Int32} {h : PH} {r : Int32 × PH} (hq : f_Tc_hands a0 x1 h = some r) : E d 0 0 m_Tc_hands 0 [(0, .ref a0), (1, .int x1)] [] h (PI r) := by
  unfold f_Tc_hands at hq
  obtain ⟨d, rfl⟩ : ∃ e, d = e + 1 := ⟨d - 1, by omega⟩
  refine E_iln 1 d_Tc_hands_0 rfl rfl ?_
  refine E_ic (v := 1) d_Tc_hands_1 (by decide) ?_
  obtain ⟨p1, ep1, hq⟩ := bd hq
  refine E_cS2I d_Tc_hands_2 ck_Tc_57 (Nat.le_of_ble_eq_true rfl) (Nat.le_of_ble_eq_true rfl) (t_Tc_within (by omega) ep1) ?_
  refine E_zne (tgt := 10) d_Tc_hands_5 (by decide) (fun c => ?_) (fun c => ?_)
  · rw [if_neg c] at hq
    refine E_aln 0 d_Tc_hands_10 rfl rfl ?_
    obtain ⟨v2, ev2, hq⟩ := bd hq
    refine E_gR d_Tc_hands_11 lk_Tc_40 rfl ev2 ?_
    refine E_aln 0 d_Tc_hands_14 rfl rfl ?_
    obtain ⟨v3, ev3, hq⟩ := bd hq
    refine E_gR d_Tc_hands_15 lk_Tc_10 rfl ev3 ?_
    obtain ⟨v4, ev4, hq⟩ := bd hq
    refine E_gR d_Tc_hands_18 lk_Tc_230 rfl ev4 ?_
    obtain ⟨v5, ev5, hq⟩ := bd hq
    refine E_gR d_Tc_hands_21 lk_Tc_253 rfl ev5 ?_
    obtain ⟨q7, eq7, hq⟩ := bd hq
    obtain ⟨p6, ep6, hq⟩ := bd hq
    refine E_cV1I d_Tc_hands_24 ck_Tc_256 rfl rfl eq7 (Nat.le_of_ble_eq_true rfl) (Nat.le_of_ble_eq_true rfl) (t_Desk_mostHands (by omega) ep6) ?_
    refine E_isn (ls' := [(2, .int p6.1), (0, .ref a0), (1, .int x1)]) d_Tc_hands_27 (Nat.le_of_ble_eq_true rfl) rfl ?_
    refine E_iln 2 d_Tc_hands_28 rfl rfl ?_
    refine E_zne (tgt := 36) d_Tc_hands_29 (by decide) (fun c => ?_) (fun c => ?_)
    · rw [if_neg c] at hq
      refine E_aln 1 d_Tc_hands_36 rfl rfl ?_
      obtain ⟨v8, ev8, hq⟩ := bd hq
      refine E_gR d_Tc_hands_37 lk_Tc_40 rfl ev8 ?_
      refine E_iln 0 d_Tc_hands_40 rfl rfl ?_
      obtain ⟨q10, eq10, hq⟩ := bd hq
      obtain ⟨p9, ep9, hq⟩ := bd hq
      refine E_cV1I d_Tc_hands_41 ck_Tc_259 rfl rfl eq10 (Nat.le_of_ble_eq_true rfl) (Nat.le_of_ble_eq_true rfl) (t_Desk_waysOf (by omega) ep9) ?_
      exact E_rI d_Tc_hands_44 rfl hq
    · rw [if_pos c] at hq
      refine E_iln 0 d_Tc_hands_32 rfl rfl ?_
      refine E_goto (tgt := 44) d_Tc_hands_33 (by decide) ?_
      exact E_rI d_Tc_hands_44 rfl hq
  · rw [if_pos c] at hq
    refine E_ic (v := (-1)) d_Tc_hands_8 (by decide) ?_
    exact E_rI d_Tc_hands_9 rfl hq
def f_Tc_weight_30 (h : PH) : Option (Int32 × PH) :=
  some ((-1), h)
theorem t_Tc_weight_30 {d : Nat} (hd : 1 ≤ d) {h : PH} {r : Int32 × PH} (hq : f_Tc_weight_30 h = some r) : E d 0 0 m_Tc_weight 30 [] [] h (PI r) := by
  unfold f_Tc_weight_30 at hq
  obtain ⟨d, rfl⟩ : ∃ e, d = e + 1 := ⟨d - 1, by omega⟩
  refine E_ic (v := (-1)) d_Tc_weight_30 (by decide) ?_
  refine E_goto (tgt := 51) d_Tc_weight_31 (by decide) ?_
  exact E_rI d_Tc_weight_51 rfl hq
def f_Tc_weight (a0 : Nat) (x1 : Int32) (h : PH) : Option (Int32 × PH) :=
  if x1 = (-1) then
    (ldR h 8 a0 0).bind fun v6 =>
    (ldR h 1 v6 6).bind fun v7 =>
    (ldR h 7 v7 2).bind fun v8 =>
    (isO h 6 v8).bind fun _ =>
    (f_Row_clear v8  h).bind fun p9 =>
    some (p9.1, p9.2)
  else
    if x1 < 1 then
      f_Tc_weight_30  h
    else
      if x1 ≤ 40 then
        (ldR h 8 a0 0).bind fun v1 =>
        (ldR h 1 v1 6).bind fun v2 =>
        (ldR h 7 v2 2).bind fun v3 =>
        (isO h 6 v3).bind fun _ =>
        (f_Row_put v3 x1 0 0 0 h).bind fun p4 =>
        some (p4.1, p4.2)
      else
        f_Tc_weight_30  h
theorem t_Tc_weight {d : Nat} (hd : 1 ≤ d) {a0 : Nat} {x1 : Int32} {h : PH} {r : Int32 × PH} (hq : f_Tc_weight a0 x1 h = some r) : E d 0 0 m_Tc_weight 0 [(0, .ref a0), (1, .int x1)] [] h (PI r) := by
  unfold f_Tc_weight at hq
  obtain ⟨d, rfl⟩ : ∃ e, d = e + 1 := ⟨d - 1, by omega⟩
  refine E_iln 1 d_Tc_weight_0 rfl rfl ?_
  refine E_ic (v := (-1)) d_Tc_weight_1 (by decide) ?_
  refine E_jne (tgt := 19) d_Tc_weight_2 (by decide) (fun c => ?_) (fun c => ?_)
  · rw [if_neg c] at hq
    refine E_iln 1 d_Tc_weight_19 rfl rfl ?_
    refine E_ic (v := 1) d_Tc_weight_20 (by decide) ?_
    refine E_jlt (tgt := 30) d_Tc_weight_21 (by decide) (fun c => ?_) (fun c => ?_)
    · rw [if_pos c] at hq
      exact E_sub (ks := []) rfl <| t_Tc_weight_30 (by omega) hq
    · rw [if_neg c] at hq
      refine E_iln 1 d_Tc_weight_24 rfl rfl ?_
      refine E_bi (v := 40) d_Tc_weight_25 (by decide) ?_
      refine E_jle (tgt := 34) d_Tc_weight_27 (by decide) (fun c => ?_) (fun c => ?_)
      · rw [if_pos c] at hq
        refine E_aln 0 d_Tc_weight_34 rfl rfl ?_
        obtain ⟨v1, ev1, hq⟩ := bd hq
        refine E_gR d_Tc_weight_35 lk_Tc_10 rfl ev1 ?_
        obtain ⟨v2, ev2, hq⟩ := bd hq
        refine E_gR d_Tc_weight_38 lk_Tc_230 rfl ev2 ?_
        obtain ⟨v3, ev3, hq⟩ := bd hq
        refine E_gR d_Tc_weight_41 lk_Tc_262 rfl ev3 ?_
        refine E_iln 1 d_Tc_weight_44 rfl rfl ?_
        refine E_ic (v := 0) d_Tc_weight_45 (by decide) ?_
        refine E_ic (v := 0) d_Tc_weight_46 (by decide) ?_
        refine E_ic (v := 0) d_Tc_weight_47 (by decide) ?_
        obtain ⟨q5, eq5, hq⟩ := bd hq
        obtain ⟨p4, ep4, hq⟩ := bd hq
        refine E_cV4I d_Tc_weight_48 ck_Tc_242 rfl rfl eq5 (Nat.le_of_ble_eq_true rfl) (Nat.le_of_ble_eq_true rfl) (t_Row_put (by omega) ep4) ?_
        exact E_rI d_Tc_weight_51 rfl hq
      · rw [if_neg c] at hq
        exact E_sub (ks := []) rfl <| t_Tc_weight_30 (by omega) hq
  · rw [if_pos c] at hq
    refine E_aln 0 d_Tc_weight_5 rfl rfl ?_
    obtain ⟨v6, ev6, hq⟩ := bd hq
    refine E_gR d_Tc_weight_6 lk_Tc_10 rfl ev6 ?_
    obtain ⟨v7, ev7, hq⟩ := bd hq
    refine E_gR d_Tc_weight_9 lk_Tc_230 rfl ev7 ?_
    obtain ⟨v8, ev8, hq⟩ := bd hq
    refine E_gR d_Tc_weight_12 lk_Tc_262 rfl ev8 ?_
    obtain ⟨q10, eq10, hq⟩ := bd hq
    obtain ⟨p9, ep9, hq⟩ := bd hq
    refine E_cV0I d_Tc_weight_15 ck_Tc_239 rfl rfl eq10 (Nat.le_of_ble_eq_true rfl) (Nat.le_of_ble_eq_true rfl) (t_Row_clear (by omega) ep9) ?_
    exact E_rI d_Tc_weight_18 rfl hq
def f_Desk_withOne_15 (x0 : Int32) (x1 : Int32) (s0 : Int32) (h : PH) : Option (Int32 × PH) :=
  if s0 = 0 then
    (dvI x0 100).bind fun v1 =>
    some ((((v1 * 100) + 100) + x1), h)
  else
    some ((x0 + x1), h)
theorem t_Desk_withOne_15 {d : Nat} (hd : 0 ≤ d) {x0 : Int32} {x1 : Int32} {s0 : Int32} {h : PH} {r : Int32 × PH} (hq : f_Desk_withOne_15 x0 x1 s0 h = some r) : E d 0 0 m_Desk_withOne 15 [(0, .int x0), (1, .int x1)] [.int s0] h (PI r) := by
  unfold f_Desk_withOne_15 at hq
  refine E_isn (ls' := [(3, .int s0), (0, .int x0), (1, .int x1)]) d_Desk_withOne_15 (Nat.le_of_ble_eq_true rfl) rfl ?_
  refine E_iln 0 d_Desk_withOne_16 rfl rfl ?_
  refine E_zeq (tgt := 26) d_Desk_withOne_17 (by decide) (fun c => ?_) (fun c => ?_)
  · rw [if_pos c] at hq
    refine E_iln 1 d_Desk_withOne_26 rfl rfl ?_
    refine E_bi (v := 100) d_Desk_withOne_27 (by decide) ?_
    obtain ⟨v1, ev1, hq⟩ := bd hq
    refine E_dv d_Desk_withOne_29 ev1 ?_
    refine E_bi (v := 100) d_Desk_withOne_30 (by decide) ?_
    refine E_imul d_Desk_withOne_32 ?_
    refine E_bi (v := 100) d_Desk_withOne_33 (by decide) ?_
    refine E_iadd d_Desk_withOne_35 ?_
    refine E_iln 2 d_Desk_withOne_36 rfl rfl ?_
    refine E_iadd d_Desk_withOne_37 ?_
    exact E_rI d_Desk_withOne_38 rfl hq
  · rw [if_neg c] at hq
    refine E_iln 1 d_Desk_withOne_20 rfl rfl ?_
    refine E_iln 2 d_Desk_withOne_21 rfl rfl ?_
    refine E_iadd d_Desk_withOne_22 ?_
    refine E_goto (tgt := 38) d_Desk_withOne_23 (by decide) ?_
    exact E_rI d_Desk_withOne_38 rfl hq
def f_Desk_withOne (x0 : Int32) (x1 : Int32) (x2 : Int32) (h : PH) : Option (Int32 × PH) :=
  (rmI x0 100).bind fun v1 =>
  if x2 < (v1 + x1) then
    f_Desk_withOne_15 x0 x1 0 h
  else
    f_Desk_withOne_15 x0 x1 1 h
theorem t_Desk_withOne {d : Nat} (hd : 0 ≤ d) {x0 : Int32} {x1 : Int32} {x2 : Int32} {h : PH} {r : Int32 × PH} (hq : f_Desk_withOne x0 x1 x2 h = some r) : E d 0 0 m_Desk_withOne 0 [(0, .int x0), (1, .int x1), (2, .int x2)] [] h (PI r) := by
  unfold f_Desk_withOne at hq
  refine E_iln 0 d_Desk_withOne_0 rfl rfl ?_
  refine E_bi (v := 100) d_Desk_withOne_1 (by decide) ?_
  obtain ⟨v1, ev1, hq⟩ := bd hq
  refine E_rm d_Desk_withOne_3 ev1 ?_
  refine E_iln 1 d_Desk_withOne_4 rfl rfl ?_
  refine E_iadd d_Desk_withOne_5 ?_
  refine E_iln 2 d_Desk_withOne_6 rfl rfl ?_
  refine E_jgt (tgt := 14) d_Desk_withOne_7 (by decide) (fun c => ?_) (fun c => ?_)
  · rw [if_pos c] at hq
    refine E_ic (v := 0) d_Desk_withOne_14 (by decide) ?_
    exact E_sub (ks := [0, 1]) rfl <| t_Desk_withOne_15 (by omega) hq
  · rw [if_neg c] at hq
    refine E_ic (v := 1) d_Desk_withOne_10 (by decide) ?_
    refine E_goto (tgt := 15) d_Desk_withOne_11 (by decide) ?_
    exact E_sub (ks := [0, 1]) rfl <| t_Desk_withOne_15 (by omega) hq
def f_Desk_fewestCrates_154 (a0 : Nat) (x3 : Int32) (h : PH) : Option (Int32 × PH) :=
  (ldR h 0 a0 1).bind fun v1 =>
  (lnA h v1).bind fun v2 =>
  (f_Tc_within x3 (v2 - 1) h).bind fun p3 =>
  if p3.1 = 0 then
    some ((-1), p3.2)
  else
    (ldR p3.2 0 a0 1).bind fun v4 =>
    (rdA p3.2 v4 x3).bind fun v5 =>
    (dvI v5 100).bind fun v6 =>
    some (v6, p3.2)
theorem t_Desk_fewestCrates_154 {d : Nat} (hd : 1 ≤ d) {a0 : Nat} {x3 : Int32} {h : PH} {r : Int32 × PH} (hq : f_Desk_fewestCrates_154 a0 x3 h = some r) : E d 0 0 m_Desk_fewestCrates 154 [(0, .ref a0), (3, .int x3)] [] h (PI r) := by
  unfold f_Desk_fewestCrates_154 at hq
  obtain ⟨d, rfl⟩ : ∃ e, d = e + 1 := ⟨d - 1, by omega⟩
  refine E_iln 1 d_Desk_fewestCrates_154 rfl rfl ?_
  refine E_aln 0 d_Desk_fewestCrates_155 rfl rfl ?_
  obtain ⟨v1, ev1, hq⟩ := bd hq
  refine E_gR d_Desk_fewestCrates_156 lk_Desk_15 rfl ev1 ?_
  obtain ⟨v2, ev2, hq⟩ := bd hq
  refine E_ln d_Desk_fewestCrates_159 ev2 ?_
  refine E_ic (v := 1) d_Desk_fewestCrates_160 (by decide) ?_
  refine E_isub d_Desk_fewestCrates_161 ?_
  obtain ⟨p3, ep3, hq⟩ := bd hq
  refine E_cS2I d_Desk_fewestCrates_162 ck_Desk_73 (Nat.le_of_ble_eq_true rfl) (Nat.le_of_ble_eq_true rfl) (t_Tc_within (by omega) ep3) ?_
  refine E_zeq (tgt := 180) d_Desk_fewestCrates_165 (by decide) (fun c => ?_) (fun c => ?_)
  · rw [if_pos c] at hq
    refine E_ic (v := (-1)) d_Desk_fewestCrates_180 (by decide) ?_
    exact E_rI d_Desk_fewestCrates_181 rfl hq
  · rw [if_neg c] at hq
    refine E_aln 0 d_Desk_fewestCrates_168 rfl rfl ?_
    obtain ⟨v4, ev4, hq⟩ := bd hq
    refine E_gR d_Desk_fewestCrates_169 lk_Desk_15 rfl ev4 ?_
    refine E_iln 1 d_Desk_fewestCrates_172 rfl rfl ?_
    obtain ⟨v5, ev5, hq⟩ := bd hq
    refine E_ra d_Desk_fewestCrates_173 ev5 ?_
    refine E_bi (v := 100) d_Desk_fewestCrates_174 (by decide) ?_
    obtain ⟨v6, ev6, hq⟩ := bd hq
    refine E_dv d_Desk_fewestCrates_176 ev6 ?_
    refine E_goto (tgt := 181) d_Desk_fewestCrates_177 (by decide) ?_
    exact E_rI d_Desk_fewestCrates_181 rfl hq
def f_Desk_fewestCrates_78 (k50 : Nat → Nat → Int32 → Int32 → Int32 → PH → Option (Int32 × PH)) : Nat → Nat → Nat → Int32 → Int32 → Int32 → Int32 → PH → Option (Int32 × PH)
  | 0, _, _, _, _, _, _, _ => none
  | n + 1, a0, a1, x2, x3, x4, x5, h =>
    (ldI h 6 a1 2).bind fun v1 =>
    if v1 ≤ x5 then
      k50 a0 a1 x2 x3 (x4 + 1) h
    else
      if ((jshr x4 x5) &&& 1) = 1 then
        (ldR h 0 a0 1).bind fun v2 =>
        (rdA h v2 (x4 ^^^ (jshl 1 x5))).bind fun v3 =>
        (ldR h 0 a0 1).bind fun v4 =>
        (ldR h 0 a0 1).bind fun v5 =>
        (rdA h v5 x4).bind fun v6 =>
        (isO h 6 a1).bind fun _ =>
        (f_Row_get a1 x5 0 h).bind fun p7 =>
        (f_Desk_withOne v3 p7.1 x2 p7.2).bind fun p9 =>
        (wrA p9.2 v4 x4 (jmin v6 p9.1)).bind fun h10 =>
        f_Desk_fewestCrates_78 k50 n a0 a1 x2 x3 x4 (x5 + 1) h10
      else
        f_Desk_fewestCrates_78 k50 n a0 a1 x2 x3 x4 (x5 + 1) h
theorem t_Desk_fewestCrates_78 {d : Nat} (hd : 1 ≤ d) {k50 : Nat → Nat → Int32 → Int32 → Int32 → PH → Option (Int32 × PH)} (hk50 : ∀ (a0 : Nat) (a1 : Nat) (x2 : Int32) (x3 : Int32) (x4 : Int32) (h : PH) (r : Int32 × PH), k50 a0 a1 x2 x3 x4 h = some r → E d 0 0 m_Desk_fewestCrates 50 [(0, .ref a0), (1, .ref a1), (2, .int x2), (3, .int x3), (4, .int x4)] [] h (PI r)) : ∀ (n : Nat) (a0 : Nat) (a1 : Nat) (x2 : Int32) (x3 : Int32) (x4 : Int32) (x5 : Int32) (h : PH) (r : Int32 × PH), f_Desk_fewestCrates_78 k50 n a0 a1 x2 x3 x4 x5 h = some r → E d 0 0 m_Desk_fewestCrates 78 [(0, .ref a0), (1, .ref a1), (2, .int x2), (3, .int x3), (4, .int x4), (5, .int x5)] [] h (PI r) := by
  intro n
  induction n with
  | zero => intro a0 a1 x2 x3 x4 x5 h r hq; rw [f_Desk_fewestCrates_78] at hq; cases hq
  | succ n ih =>
    intro a0 a1 x2 x3 x4 x5 h r hq
    rw [f_Desk_fewestCrates_78] at hq
    obtain ⟨d, rfl⟩ : ∃ e, d = e + 1 := ⟨d - 1, by omega⟩
    refine E_il 5 d_Desk_fewestCrates_78 rfl ?_
    refine E_aln 1 d_Desk_fewestCrates_80 rfl rfl ?_
    obtain ⟨v1, ev1, hq⟩ := bd hq
    refine E_gI d_Desk_fewestCrates_81 lk_Desk_36 rfl ev1 ?_
    refine E_jge (tgt := 148) d_Desk_fewestCrates_84 (by decide) (fun c => ?_) (fun c => ?_)
    · rw [if_pos c] at hq
      refine E_inc (v := 1) (ls' := [(4, .int (x4 + 1)), (0, .ref a0), (1, .ref a1), (2, .int x2), (3, .int x3), (5, .int x5)]) 4 d_Desk_fewestCrates_148 rfl (Nat.le_of_ble_eq_true rfl) (by decide) rfl ?_
      refine E_goto (tgt := 50) d_Desk_fewestCrates_151 (by decide) ?_
      exact E_sub (ks := [1, 2, 3, 4, 0]) rfl <| hk50 _ _ _ _ _ _ _ hq
    · rw [if_neg c] at hq
      refine E_il 4 d_Desk_fewestCrates_87 rfl ?_
      refine E_il 5 d_Desk_fewestCrates_89 rfl ?_
      refine E_ishr d_Desk_fewestCrates_91 ?_
      refine E_ic (v := 1) d_Desk_fewestCrates_92 (by decide) ?_
      refine E_iand d_Desk_fewestCrates_93 ?_
      refine E_ic (v := 1) d_Desk_fewestCrates_94 (by decide) ?_
      refine E_jne (tgt := 142) d_Desk_fewestCrates_95 (by decide) (fun c => ?_) (fun c => ?_)
      · rw [if_neg c] at hq
        refine E_inc (v := 1) (ls' := [(5, .int (x5 + 1)), (0, .ref a0), (1, .ref a1), (2, .int x2), (3, .int x3), (4, .int x4)]) 5 d_Desk_fewestCrates_142 rfl (Nat.le_of_ble_eq_true rfl) (by decide) rfl ?_
        refine E_goto (tgt := 78) d_Desk_fewestCrates_145 (by decide) ?_
        exact E_sub (ks := [1, 2, 3, 4, 5, 0]) rfl <| ih _ _ _ _ _ _ _ _ hq
      · rw [if_pos c] at hq
        refine E_aln 0 d_Desk_fewestCrates_98 rfl rfl ?_
        obtain ⟨v2, ev2, hq⟩ := bd hq
        refine E_gR d_Desk_fewestCrates_99 lk_Desk_15 rfl ev2 ?_
        refine E_il 4 d_Desk_fewestCrates_102 rfl ?_
        refine E_ic (v := 1) d_Desk_fewestCrates_104 (by decide) ?_
        refine E_il 5 d_Desk_fewestCrates_105 rfl ?_
        refine E_ishl d_Desk_fewestCrates_107 ?_
        refine E_ixor d_Desk_fewestCrates_108 ?_
        obtain ⟨v3, ev3, hq⟩ := bd hq
        refine E_ra d_Desk_fewestCrates_109 ev3 ?_
        refine E_is (ls' := [(6, .int v3), (0, .ref a0), (1, .ref a1), (2, .int x2), (3, .int x3), (4, .int x4), (5, .int x5)]) d_Desk_fewestCrates_110 (Nat.le_of_ble_eq_true rfl) rfl ?_
        refine E_aln 1 d_Desk_fewestCrates_112 rfl rfl ?_
        obtain ⟨v4, ev4, hq⟩ := bd hq
        refine E_gR d_Desk_fewestCrates_113 lk_Desk_15 rfl ev4 ?_
        refine E_il 5 d_Desk_fewestCrates_116 rfl ?_
        refine E_aln 1 d_Desk_fewestCrates_118 rfl rfl ?_
        obtain ⟨v5, ev5, hq⟩ := bd hq
        refine E_gR d_Desk_fewestCrates_119 lk_Desk_15 rfl ev5 ?_
        refine E_il 5 d_Desk_fewestCrates_122 rfl ?_
        obtain ⟨v6, ev6, hq⟩ := bd hq
        refine E_ra d_Desk_fewestCrates_124 ev6 ?_
        refine E_il 0 d_Desk_fewestCrates_125 rfl ?_
        refine E_aln 2 d_Desk_fewestCrates_127 rfl rfl ?_
        refine E_il 6 d_Desk_fewestCrates_128 rfl ?_
        refine E_ic (v := 0) d_Desk_fewestCrates_130 (by decide) ?_
        obtain ⟨q8, eq8, hq⟩ := bd hq
        obtain ⟨p7, ep7, hq⟩ := bd hq
        refine E_cV2I d_Desk_fewestCrates_131 ck_Desk_30 rfl rfl eq8 (Nat.le_of_ble_eq_true rfl) (Nat.le_of_ble_eq_true rfl) (t_Row_get (by omega) ep7) ?_
        refine E_iln 3 d_Desk_fewestCrates_134 rfl rfl ?_
        obtain ⟨p9, ep9, hq⟩ := bd hq
        refine E_cS3I d_Desk_fewestCrates_135 ck_Desk_66 (Nat.le_of_ble_eq_true rfl) (Nat.le_of_ble_eq_true rfl) (t_Desk_withOne (by omega) ep9) ?_
        refine E_min d_Desk_fewestCrates_138 kj_Desk_70 (Nat.le_of_ble_eq_true rfl) ?_
        obtain ⟨h10, eh10, hq⟩ := bd hq
        refine E_wa d_Desk_fewestCrates_141 eh10 ?_
        refine E_inc (v := 1) (ls' := [(5, .int (x5 + 1)), (6, .int v3), (0, .ref a0), (1, .ref a1), (2, .int x2), (3, .int x3), (4, .int x4)]) 6 d_Desk_fewestCrates_142 rfl (Nat.le_of_ble_eq_true rfl) (by decide) rfl ?_
        refine E_goto (tgt := 78) d_Desk_fewestCrates_145 (by decide) ?_
        exact E_sub (ks := [2, 3, 4, 5, 6, 0]) rfl <| ih _ _ _ _ _ _ _ _ hq
def f_Desk_fewestCrates_50 : Nat → Nat → Nat → Int32 → Int32 → Int32 → PH → Option (Int32 × PH)
  | 0, _, _, _, _, _, _ => none
  | n + 1, a0, a1, x2, x3, x4, h =>
    if x3 < x4 then
      f_Desk_fewestCrates_154 a0 x3 h
    else
      (ldR h 0 a0 1).bind fun v1 =>
      (lnA h v1).bind fun v2 =>
      if v2 ≤ x4 then
        f_Desk_fewestCrates_154 a0 x3 h
      else
        (ldR h 0 a0 1).bind fun v3 =>
        (wrA h v3 x4 1000000).bind fun h4 =>
        f_Desk_fewestCrates_78 (fun a0 a1 x2 x3 x4 h => f_Desk_fewestCrates_50 n a0 a1 x2 x3 x4 h) FU a0 a1 x2 x3 x4 0 h4
theorem t_Desk_fewestCrates_50 {d : Nat} (hd : 1 ≤ d) : ∀ (n : Nat) (a0 : Nat) (a1 : Nat) (x2 : Int32) (x3 : Int32) (x4 : Int32) (h : PH) (r : Int32 × PH), f_Desk_fewestCrates_50 n a0 a1 x2 x3 x4 h = some r → E d 0 0 m_Desk_fewestCrates 50 [(0, .ref a0), (1, .ref a1), (2, .int x2), (3, .int x3), (4, .int x4)] [] h (PI r) := by
  intro n
  induction n with
  | zero => intro a0 a1 x2 x3 x4 h r hq; rw [f_Desk_fewestCrates_50] at hq; cases hq
  | succ n ih =>
    intro a0 a1 x2 x3 x4 h r hq
    rw [f_Desk_fewestCrates_50] at hq
    obtain ⟨d, rfl⟩ : ∃ e, d = e + 1 := ⟨d - 1, by omega⟩
    refine E_il 4 d_Desk_fewestCrates_50 rfl ?_
    refine E_iln 3 d_Desk_fewestCrates_52 rfl rfl ?_
    refine E_jgt (tgt := 154) d_Desk_fewestCrates_53 (by decide) (fun c => ?_) (fun c => ?_)
    · rw [if_pos c] at hq
      exact E_sub (ks := [0, 3]) rfl <| t_Desk_fewestCrates_154 (by omega) hq
    · rw [if_neg c] at hq
      refine E_il 4 d_Desk_fewestCrates_56 rfl ?_
      refine E_aln 0 d_Desk_fewestCrates_58 rfl rfl ?_
      obtain ⟨v1, ev1, hq⟩ := bd hq
      refine E_gR d_Desk_fewestCrates_59 lk_Desk_15 rfl ev1 ?_
      obtain ⟨v2, ev2, hq⟩ := bd hq
      refine E_ln d_Desk_fewestCrates_62 ev2 ?_
      refine E_jge (tgt := 154) d_Desk_fewestCrates_63 (by decide) (fun c => ?_) (fun c => ?_)
      · rw [if_pos c] at hq
        exact E_sub (ks := [0, 3]) rfl <| t_Desk_fewestCrates_154 (by omega) hq
      · rw [if_neg c] at hq
        refine E_aln 0 d_Desk_fewestCrates_66 rfl rfl ?_
        obtain ⟨v3, ev3, hq⟩ := bd hq
        refine E_gR d_Desk_fewestCrates_67 lk_Desk_15 rfl ev3 ?_
        refine E_il 4 d_Desk_fewestCrates_70 rfl ?_
        refine E_ldc1 d_Desk_fewestCrates_72 kc_Desk_65 ?_
        obtain ⟨h4, eh4, hq⟩ := bd hq
        refine E_wa d_Desk_fewestCrates_74 eh4 ?_
        refine E_ic (v := 0) d_Desk_fewestCrates_75 (by decide) ?_
        refine E_is (ls' := [(5, .int 0), (0, .ref a0), (1, .ref a1), (2, .int x2), (3, .int x3), (4, .int x4)]) d_Desk_fewestCrates_76 (Nat.le_of_ble_eq_true rfl) rfl ?_
        exact E_sub (ks := [1, 2, 3, 4, 5, 0]) rfl <| t_Desk_fewestCrates_78 (by omega) ih _ _ _ _ _ _ _ _ _ hq
def f_Desk_fewestCrates_12 : Nat → Nat → Nat → Int32 → Int32 → Int32 → PH → Option (Int32 × PH)
  | 0, _, _, _, _, _, _ => none
  | n + 1, a0, a1, x2, x3, x4, h =>
    (ldI h 6 a1 2).bind fun v1 =>
    if v1 ≤ x4 then
      (ldR h 0 a0 1).bind fun v2 =>
      (wrA h v2 0 x2).bind fun h3 =>
      f_Desk_fewestCrates_50 FU a0 a1 x2 x3 1 h3
    else
      (isO h 6 a1).bind fun _ =>
      (f_Row_get a1 x4 0 h).bind fun p4 =>
      if p4.1 ≤ x2 then
        f_Desk_fewestCrates_12 n a0 a1 x2 x3 (x4 + 1) p4.2
      else
        some ((-1), p4.2)
theorem t_Desk_fewestCrates_12 {d : Nat} (hd : 1 ≤ d) : ∀ (n : Nat) (a0 : Nat) (a1 : Nat) (x2 : Int32) (x3 : Int32) (x4 : Int32) (h : PH) (r : Int32 × PH), f_Desk_fewestCrates_12 n a0 a1 x2 x3 x4 h = some r → E d 0 0 m_Desk_fewestCrates 12 [(0, .ref a0), (1, .ref a1), (2, .int x2), (3, .int x3), (4, .int x4)] [] h (PI r) := by
  intro n
  induction n with
  | zero => intro a0 a1 x2 x3 x4 h r hq; rw [f_Desk_fewestCrates_12] at hq; cases hq
  | succ n ih =>
    intro a0 a1 x2 x3 x4 h r hq
    rw [f_Desk_fewestCrates_12] at hq
    obtain ⟨d, rfl⟩ : ∃ e, d = e + 1 := ⟨d - 1, by omega⟩
    refine E_il 4 d_Desk_fewestCrates_12 rfl ?_
    refine E_aln 1 d_Desk_fewestCrates_14 rfl rfl ?_
    obtain ⟨v1, ev1, hq⟩ := bd hq
    refine E_gI d_Desk_fewestCrates_15 lk_Desk_36 rfl ev1 ?_
    refine E_jge (tgt := 40) d_Desk_fewestCrates_18 (by decide) (fun c => ?_) (fun c => ?_)
    · rw [if_pos c] at hq
      refine E_aln 0 d_Desk_fewestCrates_40 rfl rfl ?_
      obtain ⟨v2, ev2, hq⟩ := bd hq
      refine E_gR d_Desk_fewestCrates_41 lk_Desk_15 rfl ev2 ?_
      refine E_ic (v := 0) d_Desk_fewestCrates_44 (by decide) ?_
      refine E_iln 2 d_Desk_fewestCrates_45 rfl rfl ?_
      obtain ⟨h3, eh3, hq⟩ := bd hq
      refine E_wa d_Desk_fewestCrates_46 eh3 ?_
      refine E_ic (v := 1) d_Desk_fewestCrates_47 (by decide) ?_
      refine E_is (ls' := [(4, .int 1), (0, .ref a0), (1, .ref a1), (2, .int x2), (3, .int x3)]) d_Desk_fewestCrates_48 (Nat.le_of_ble_eq_true rfl) rfl ?_
      exact E_sub (ks := [1, 2, 3, 4, 0]) rfl <| t_Desk_fewestCrates_50 (by omega) _ _ _ _ _ _ _ _ hq
    · rw [if_neg c] at hq
      refine E_aln 1 d_Desk_fewestCrates_21 rfl rfl ?_
      refine E_il 4 d_Desk_fewestCrates_22 rfl ?_
      refine E_ic (v := 0) d_Desk_fewestCrates_24 (by decide) ?_
      obtain ⟨q5, eq5, hq⟩ := bd hq
      obtain ⟨p4, ep4, hq⟩ := bd hq
      refine E_cV2I d_Desk_fewestCrates_25 ck_Desk_30 rfl rfl eq5 (Nat.le_of_ble_eq_true rfl) (Nat.le_of_ble_eq_true rfl) (t_Row_get (by omega) ep4) ?_
      refine E_iln 2 d_Desk_fewestCrates_28 rfl rfl ?_
      refine E_jle (tgt := 34) d_Desk_fewestCrates_29 (by decide) (fun c => ?_) (fun c => ?_)
      · rw [if_pos c] at hq
        refine E_inc (v := 1) (ls' := [(4, .int (x4 + 1)), (0, .ref a0), (1, .ref a1), (2, .int x2), (3, .int x3)]) 4 d_Desk_fewestCrates_34 rfl (Nat.le_of_ble_eq_true rfl) (by decide) rfl ?_
        refine E_goto (tgt := 12) d_Desk_fewestCrates_37 (by decide) ?_
        exact E_sub (ks := [1, 2, 3, 4, 0]) rfl <| ih _ _ _ _ _ _ _ hq
      · rw [if_neg c] at hq
        refine E_ic (v := (-1)) d_Desk_fewestCrates_32 (by decide) ?_
        exact E_rI d_Desk_fewestCrates_33 rfl hq
def f_Desk_fewestCrates (a0 : Nat) (a1 : Nat) (x2 : Int32) (h : PH) : Option (Int32 × PH) :=
  (ldI h 6 a1 2).bind fun v1 =>
  f_Desk_fewestCrates_12 FU a0 a1 x2 ((jshl 1 v1) - 1) 0 h
theorem t_Desk_fewestCrates {d : Nat} (hd : 1 ≤ d) {a0 : Nat} {a1 : Nat} {x2 : Int32} {h : PH} {r : Int32 × PH} (hq : f_Desk_fewestCrates a0 a1 x2 h = some r) : E d 0 0 m_Desk_fewestCrates 0 [(0, .ref a0), (1, .ref a1), (2, .int x2)] [] h (PI r) := by
  unfold f_Desk_fewestCrates at hq
  obtain ⟨d, rfl⟩ : ∃ e, d = e + 1 := ⟨d - 1, by omega⟩
  refine E_ic (v := 1) d_Desk_fewestCrates_0 (by decide) ?_
  refine E_aln 1 d_Desk_fewestCrates_1 rfl rfl ?_
  obtain ⟨v1, ev1, hq⟩ := bd hq
  refine E_gI d_Desk_fewestCrates_2 lk_Desk_36 rfl ev1 ?_
  refine E_ishl d_Desk_fewestCrates_5 ?_
  refine E_ic (v := 1) d_Desk_fewestCrates_6 (by decide) ?_
  refine E_isub d_Desk_fewestCrates_7 ?_
  refine E_isn (ls' := [(3, .int ((jshl 1 v1) - 1)), (0, .ref a0), (1, .ref a1), (2, .int x2)]) d_Desk_fewestCrates_8 (Nat.le_of_ble_eq_true rfl) rfl ?_
  refine E_ic (v := 0) d_Desk_fewestCrates_9 (by decide) ?_
  refine E_is (ls' := [(4, .int 0), (3, .int ((jshl 1 v1) - 1)), (0, .ref a0), (1, .ref a1), (2, .int x2)]) d_Desk_fewestCrates_10 (Nat.le_of_ble_eq_true rfl) rfl ?_
  exact E_sub (ks := [2, 3, 4, 1, 0]) rfl <| t_Desk_fewestCrates_12 (by omega) _ _ _ _ _ _ _ _ hq
def f_Desk_fitOne_18 (k8 : Nat → Int32 → Int32 → Int32 → PH → Option (Int32 × PH)) : Nat → Nat → Int32 → Int32 → Int32 → Int32 → PH → Option (Int32 × PH)
  | 0, _, _, _, _, _, _ => none
  | n + 1, a1, x3, x4, x5, x6, h =>
    (ldI h 6 a1 2).bind fun v1 =>
    if v1 ≤ x6 then
      k8 a1 x3 x4 (x5 + 1) h
    else
      (isO h 6 a1).bind fun _ =>
      (f_Row_get a1 x6 0 h).bind fun p2 =>
      if p2.1 = x5 then
        if x3 < x5 then
          f_Desk_fitOne_18 k8 n a1 x3 x4 x5 (x6 + 1) p2.2
        else
          f_Desk_fitOne_18 k8 n a1 (x3 - x5) (x4 + 1) x5 (x6 + 1) p2.2
      else
        f_Desk_fitOne_18 k8 n a1 x3 x4 x5 (x6 + 1) p2.2
theorem t_Desk_fitOne_18 {d : Nat} (hd : 1 ≤ d) {k8 : Nat → Int32 → Int32 → Int32 → PH → Option (Int32 × PH)} (hk8 : ∀ (a1 : Nat) (x3 : Int32) (x4 : Int32) (x5 : Int32) (h : PH) (r : Int32 × PH), k8 a1 x3 x4 x5 h = some r → E d 0 0 m_Desk_fitOne 8 [(1, .ref a1), (3, .int x3), (4, .int x4), (5, .int x5)] [] h (PI r)) : ∀ (n : Nat) (a1 : Nat) (x3 : Int32) (x4 : Int32) (x5 : Int32) (x6 : Int32) (h : PH) (r : Int32 × PH), f_Desk_fitOne_18 k8 n a1 x3 x4 x5 x6 h = some r → E d 0 0 m_Desk_fitOne 18 [(1, .ref a1), (3, .int x3), (4, .int x4), (5, .int x5), (6, .int x6)] [] h (PI r) := by
  intro n
  induction n with
  | zero => intro a1 x3 x4 x5 x6 h r hq; rw [f_Desk_fitOne_18] at hq; cases hq
  | succ n ih =>
    intro a1 x3 x4 x5 x6 h r hq
    rw [f_Desk_fitOne_18] at hq
    obtain ⟨d, rfl⟩ : ∃ e, d = e + 1 := ⟨d - 1, by omega⟩
    refine E_il 4 d_Desk_fitOne_18 rfl ?_
    refine E_aln 0 d_Desk_fitOne_20 rfl rfl ?_
    obtain ⟨v1, ev1, hq⟩ := bd hq
    refine E_gI d_Desk_fitOne_21 lk_Desk_36 rfl ev1 ?_
    refine E_jge (tgt := 59) d_Desk_fitOne_24 (by decide) (fun c => ?_) (fun c => ?_)
    · rw [if_pos c] at hq
      refine E_inc (v := 1) (ls' := [(5, .int (x5 + 1)), (1, .ref a1), (3, .int x3), (4, .int x4), (6, .int x6)]) 3 d_Desk_fitOne_59 rfl (Nat.le_of_ble_eq_true rfl) (by decide) rfl ?_
      refine E_goto (tgt := 8) d_Desk_fitOne_62 (by decide) ?_
      exact E_sub (ks := [1, 2, 3, 0]) rfl <| hk8 _ _ _ _ _ _ hq
    · rw [if_neg c] at hq
      refine E_aln 0 d_Desk_fitOne_27 rfl rfl ?_
      refine E_il 4 d_Desk_fitOne_28 rfl ?_
      refine E_ic (v := 0) d_Desk_fitOne_30 (by decide) ?_
      obtain ⟨q3, eq3, hq⟩ := bd hq
      obtain ⟨p2, ep2, hq⟩ := bd hq
      refine E_cV2I d_Desk_fitOne_31 ck_Desk_30 rfl rfl eq3 (Nat.le_of_ble_eq_true rfl) (Nat.le_of_ble_eq_true rfl) (t_Row_get (by omega) ep2) ?_
      refine E_il 3 d_Desk_fitOne_34 rfl ?_
      refine E_jne (tgt := 53) d_Desk_fitOne_36 (by decide) (fun c => ?_) (fun c => ?_)
      · rw [if_neg c] at hq
        refine E_inc (v := 1) (ls' := [(6, .int (x6 + 1)), (1, .ref a1), (3, .int x3), (4, .int x4), (5, .int x5)]) 4 d_Desk_fitOne_53 rfl (Nat.le_of_ble_eq_true rfl) (by decide) rfl ?_
        refine E_goto (tgt := 18) d_Desk_fitOne_56 (by decide) ?_
        exact E_sub (ks := [1, 2, 3, 4, 0]) rfl <| ih _ _ _ _ _ _ _ hq
      · rw [if_pos c] at hq
        refine E_il 3 d_Desk_fitOne_39 rfl ?_
        refine E_iln 1 d_Desk_fitOne_41 rfl rfl ?_
        refine E_jgt (tgt := 53) d_Desk_fitOne_42 (by decide) (fun c => ?_) (fun c => ?_)
        · rw [if_pos c] at hq
          refine E_inc (v := 1) (ls' := [(6, .int (x6 + 1)), (1, .ref a1), (3, .int x3), (4, .int x4), (5, .int x5)]) 4 d_Desk_fitOne_53 rfl (Nat.le_of_ble_eq_true rfl) (by decide) rfl ?_
          refine E_goto (tgt := 18) d_Desk_fitOne_56 (by decide) ?_
          exact E_sub (ks := [1, 2, 3, 4, 0]) rfl <| ih _ _ _ _ _ _ _ hq
        · rw [if_neg c] at hq
          refine E_iln 1 d_Desk_fitOne_45 rfl rfl ?_
          refine E_il 3 d_Desk_fitOne_46 rfl ?_
          refine E_isub d_Desk_fitOne_48 ?_
          refine E_isn (ls' := [(3, .int (x3 - x5)), (1, .ref a1), (4, .int x4), (5, .int x5), (6, .int x6)]) d_Desk_fitOne_49 (Nat.le_of_ble_eq_true rfl) rfl ?_
          refine E_inc (v := 1) (ls' := [(4, .int (x4 + 1)), (3, .int (x3 - x5)), (1, .ref a1), (5, .int x5), (6, .int x6)]) 2 d_Desk_fitOne_50 rfl (Nat.le_of_ble_eq_true rfl) (by decide) rfl ?_
          refine E_inc (v := 1) (ls' := [(6, .int (x6 + 1)), (4, .int (x4 + 1)), (3, .int (x3 - x5)), (1, .ref a1), (5, .int x5)]) 4 d_Desk_fitOne_53 rfl (Nat.le_of_ble_eq_true rfl) (by decide) rfl ?_
          refine E_goto (tgt := 18) d_Desk_fitOne_56 (by decide) ?_
          exact E_sub (ks := [3, 2, 1, 4, 0]) rfl <| ih _ _ _ _ _ _ _ hq
def f_Desk_fitOne_8 : Nat → Nat → Int32 → Int32 → Int32 → PH → Option (Int32 × PH)
  | 0, _, _, _, _, _ => none
  | n + 1, a1, x3, x4, x5, h =>
    if 40 < x5 then
      some (x4, h)
    else
      f_Desk_fitOne_18 (fun a1 x3 x4 x5 h => f_Desk_fitOne_8 n a1 x3 x4 x5 h) FU a1 x3 x4 x5 0 h
theorem t_Desk_fitOne_8 {d : Nat} (hd : 1 ≤ d) : ∀ (n : Nat) (a1 : Nat) (x3 : Int32) (x4 : Int32) (x5 : Int32) (h : PH) (r : Int32 × PH), f_Desk_fitOne_8 n a1 x3 x4 x5 h = some r → E d 0 0 m_Desk_fitOne 8 [(1, .ref a1), (3, .int x3), (4, .int x4), (5, .int x5)] [] h (PI r) := by
  intro n
  induction n with
  | zero => intro a1 x3 x4 x5 h r hq; rw [f_Desk_fitOne_8] at hq; cases hq
  | succ n ih =>
    intro a1 x3 x4 x5 h r hq
    rw [f_Desk_fitOne_8] at hq
    obtain ⟨d, rfl⟩ : ∃ e, d = e + 1 := ⟨d - 1, by omega⟩
    refine E_il 3 d_Desk_fitOne_8 rfl ?_
    refine E_bi (v := 40) d_Desk_fitOne_10 (by decide) ?_
    refine E_jgt (tgt := 65) d_Desk_fitOne_12 (by decide) (fun c => ?_) (fun c => ?_)
    · rw [if_pos c] at hq
      refine E_il 2 d_Desk_fitOne_65 rfl ?_
      exact E_rI d_Desk_fitOne_67 rfl hq
    · rw [if_neg c] at hq
      refine E_ic (v := 0) d_Desk_fitOne_15 (by decide) ?_
      refine E_is (ls' := [(6, .int 0), (1, .ref a1), (3, .int x3), (4, .int x4), (5, .int x5)]) d_Desk_fitOne_16 (Nat.le_of_ble_eq_true rfl) rfl ?_
      exact E_sub (ks := [1, 2, 3, 4, 0]) rfl <| t_Desk_fitOne_18 (by omega) ih _ _ _ _ _ _ _ _ hq
def f_Desk_fitOne (a0 : Nat) (a1 : Nat) (x2 : Int32) (h : PH) : Option (Int32 × PH) :=
  f_Desk_fitOne_8 FU a1 x2 0 1 h
theorem t_Desk_fitOne {d : Nat} (hd : 1 ≤ d) {a0 : Nat} {a1 : Nat} {x2 : Int32} {h : PH} {r : Int32 × PH} (hq : f_Desk_fitOne a0 a1 x2 h = some r) : E d 0 0 m_Desk_fitOne 0 [(0, .ref a0), (1, .ref a1), (2, .int x2)] [] h (PI r) := by
  unfold f_Desk_fitOne at hq
  obtain ⟨d, rfl⟩ : ∃ e, d = e + 1 := ⟨d - 1, by omega⟩
  refine E_iln 2 d_Desk_fitOne_0 rfl rfl ?_
  refine E_isn (ls' := [(3, .int x2), (0, .ref a0), (1, .ref a1), (2, .int x2)]) d_Desk_fitOne_1 (Nat.le_of_ble_eq_true rfl) rfl ?_
  refine E_ic (v := 0) d_Desk_fitOne_2 (by decide) ?_
  refine E_is (ls' := [(4, .int 0), (3, .int x2), (0, .ref a0), (1, .ref a1), (2, .int x2)]) d_Desk_fitOne_3 (Nat.le_of_ble_eq_true rfl) rfl ?_
  refine E_ic (v := 1) d_Desk_fitOne_5 (by decide) ?_
  refine E_is (ls' := [(5, .int 1), (4, .int 0), (3, .int x2), (0, .ref a0), (1, .ref a1), (2, .int x2)]) d_Desk_fitOne_6 (Nat.le_of_ble_eq_true rfl) rfl ?_
  exact E_sub (ks := [4, 2, 1, 0]) rfl <| t_Desk_fitOne_8 (by omega) _ _ _ _ _ _ _ hq
def f_Tc_crates (a0 : Nat) (x1 : Int32) (x2 : Int32) (h : PH) : Option (Int32 × PH) :=
  if x1 < 1 then
    some ((-1), h)
  else
    if x1 ≤ 99 then
      if x2 = 0 then
        (ldR h 8 a0 4).bind fun v7 =>
        (ldR h 8 a0 0).bind fun v8 =>
        (ldR h 1 v8 6).bind fun v9 =>
        (ldR h 7 v9 2).bind fun v10 =>
        (isO h 0 v7).bind fun _ =>
        (f_Desk_fewestCrates v7 v10 x1 h).bind fun p11 =>
        some (p11.1, p11.2)
      else
        if x2 = 1 then
          (ldR h 8 a0 4).bind fun v1 =>
          (ldR h 8 a0 0).bind fun v2 =>
          (ldR h 1 v2 6).bind fun v3 =>
          (ldR h 7 v3 2).bind fun v4 =>
          (isO h 0 v1).bind fun _ =>
          (f_Desk_fitOne v1 v4 x1 h).bind fun p5 =>
          some (p5.1, p5.2)
        else
          some ((-1), h)
    else
      some ((-1), h)
theorem t_Tc_crates {d : Nat} (hd : 2 ≤ d) {a0 : Nat} {x1 : Int32} {x2 : Int32} {h : PH} {r : Int32 × PH} (hq : f_Tc_crates a0 x1 x2 h = some r) : E d 0 0 m_Tc_crates 0 [(0, .ref a0), (1, .int x1), (2, .int x2)] [] h (PI r) := by
  unfold f_Tc_crates at hq
  obtain ⟨d, rfl⟩ : ∃ e, d = e + 1 := ⟨d - 1, by omega⟩
  refine E_iln 1 d_Tc_crates_0 rfl rfl ?_
  refine E_ic (v := 1) d_Tc_crates_1 (by decide) ?_
  refine E_jlt (tgt := 11) d_Tc_crates_2 (by decide) (fun c => ?_) (fun c => ?_)
  · rw [if_pos c] at hq
    refine E_ic (v := (-1)) d_Tc_crates_11 (by decide) ?_
    exact E_rI d_Tc_crates_12 rfl hq
  · rw [if_neg c] at hq
    refine E_iln 1 d_Tc_crates_5 rfl rfl ?_
    refine E_bi (v := 99) d_Tc_crates_6 (by decide) ?_
    refine E_jle (tgt := 13) d_Tc_crates_8 (by decide) (fun c => ?_) (fun c => ?_)
    · rw [if_pos c] at hq
      refine E_iln 2 d_Tc_crates_13 rfl rfl ?_
      refine E_zne (tgt := 36) d_Tc_crates_14 (by decide) (fun c => ?_) (fun c => ?_)
      · rw [if_neg c] at hq
        refine E_iln 2 d_Tc_crates_36 rfl rfl ?_
        refine E_ic (v := 1) d_Tc_crates_37 (by decide) ?_
        refine E_jne (tgt := 62) d_Tc_crates_38 (by decide) (fun c => ?_) (fun c => ?_)
        · rw [if_neg c] at hq
          refine E_ic (v := (-1)) d_Tc_crates_62 (by decide) ?_
          exact E_rI d_Tc_crates_63 rfl hq
        · rw [if_pos c] at hq
          refine E_aln 0 d_Tc_crates_41 rfl rfl ?_
          obtain ⟨v1, ev1, hq⟩ := bd hq
          refine E_gR d_Tc_crates_42 lk_Tc_40 rfl ev1 ?_
          refine E_aln 0 d_Tc_crates_45 rfl rfl ?_
          obtain ⟨v2, ev2, hq⟩ := bd hq
          refine E_gR d_Tc_crates_46 lk_Tc_10 rfl ev2 ?_
          obtain ⟨v3, ev3, hq⟩ := bd hq
          refine E_gR d_Tc_crates_49 lk_Tc_230 rfl ev3 ?_
          obtain ⟨v4, ev4, hq⟩ := bd hq
          refine E_gR d_Tc_crates_52 lk_Tc_262 rfl ev4 ?_
          refine E_iln 1 d_Tc_crates_55 rfl rfl ?_
          obtain ⟨q6, eq6, hq⟩ := bd hq
          obtain ⟨p5, ep5, hq⟩ := bd hq
          refine E_cV2I d_Tc_crates_56 ck_Tc_269 rfl rfl eq6 (Nat.le_of_ble_eq_true rfl) (Nat.le_of_ble_eq_true rfl) (t_Desk_fitOne (by omega) ep5) ?_
          refine E_goto (tgt := 63) d_Tc_crates_59 (by decide) ?_
          exact E_rI d_Tc_crates_63 rfl hq
      · rw [if_pos c] at hq
        refine E_aln 0 d_Tc_crates_17 rfl rfl ?_
        obtain ⟨v7, ev7, hq⟩ := bd hq
        refine E_gR d_Tc_crates_18 lk_Tc_40 rfl ev7 ?_
        refine E_aln 0 d_Tc_crates_21 rfl rfl ?_
        obtain ⟨v8, ev8, hq⟩ := bd hq
        refine E_gR d_Tc_crates_22 lk_Tc_10 rfl ev8 ?_
        obtain ⟨v9, ev9, hq⟩ := bd hq
        refine E_gR d_Tc_crates_25 lk_Tc_230 rfl ev9 ?_
        obtain ⟨v10, ev10, hq⟩ := bd hq
        refine E_gR d_Tc_crates_28 lk_Tc_262 rfl ev10 ?_
        refine E_iln 1 d_Tc_crates_31 rfl rfl ?_
        obtain ⟨q12, eq12, hq⟩ := bd hq
        obtain ⟨p11, ep11, hq⟩ := bd hq
        refine E_cV2I d_Tc_crates_32 ck_Tc_265 rfl rfl eq12 (Nat.le_of_ble_eq_true rfl) (Nat.le_of_ble_eq_true rfl) (t_Desk_fewestCrates (by omega) ep11) ?_
        exact E_rI d_Tc_crates_35 rfl hq
    · rw [if_neg c] at hq
      refine E_ic (v := (-1)) d_Tc_crates_11 (by decide) ?_
      exact E_rI d_Tc_crates_12 rfl hq
