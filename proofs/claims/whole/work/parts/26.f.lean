def f_Told_wrongLine_6 : Nat → Nat → Int32 → Int32 → Int32 → Int32 → Int32 → PH → Option (Int32 × PH)
  | 0, _, _, _, _, _, _, _ => none
  | n + 1, a0, x1, x2, x3, x4, x5, h =>
    if 4 ≤ x5 then
      some (x4, h)
    else
      (isO h 7 a0).bind fun _ =>
      (f_Told_aboveSum a0 x1 x5 x2 x3 h).bind fun p1 =>
      if p1.1 = 0 then
        f_Told_wrongLine_6 n a0 x1 x2 x3 x4 (x5 + 1) p1.2
      else
        if x4 = (-1) then
          f_Told_wrongLine_6 n a0 x1 x2 x3 x5 (x5 + 1) p1.2
        else
          some ((-1), p1.2)
theorem t_Told_wrongLine_6 {d : Nat} (hd : 2 ≤ d) : ∀ (n : Nat) (a0 : Nat) (x1 : Int32) (x2 : Int32) (x3 : Int32) (x4 : Int32) (x5 : Int32) (h : PH) (r : Int32 × PH), f_Told_wrongLine_6 n a0 x1 x2 x3 x4 x5 h = some r → E d 0 0 m_Told_wrongLine 6 [(0, .ref a0), (1, .int x1), (2, .int x2), (3, .int x3), (4, .int x4), (5, .int x5)] [] h (PI r) := by
  intro n
  induction n with
  | zero => intro a0 x1 x2 x3 x4 x5 h r hq; rw [f_Told_wrongLine_6] at hq; cases hq
  | succ n ih =>
    intro a0 x1 x2 x3 x4 x5 h r hq
    rw [f_Told_wrongLine_6] at hq
    obtain ⟨d, rfl⟩ : ∃ e, d = e + 1 := ⟨d - 1, by omega⟩
    refine E_il 5 d_Told_wrongLine_6 rfl ?_
    refine E_ic (v := 4) d_Told_wrongLine_8 (by decide) ?_
    refine E_jge (tgt := 42) d_Told_wrongLine_9 (by decide) (fun c => ?_) (fun c => ?_)
    · rw [if_pos c] at hq
      refine E_il 4 d_Told_wrongLine_42 rfl ?_
      exact E_rI d_Told_wrongLine_44 rfl hq
    · rw [if_neg c] at hq
      refine E_aln 0 d_Told_wrongLine_12 rfl rfl ?_
      refine E_iln 1 d_Told_wrongLine_13 rfl rfl ?_
      refine E_il 5 d_Told_wrongLine_14 rfl ?_
      refine E_iln 2 d_Told_wrongLine_16 rfl rfl ?_
      refine E_iln 3 d_Told_wrongLine_17 rfl rfl ?_
      obtain ⟨q2, eq2, hq⟩ := bd hq
      obtain ⟨p1, ep1, hq⟩ := bd hq
      refine E_cV4I d_Told_wrongLine_18 ck_Told_63 rfl rfl eq2 (Nat.le_of_ble_eq_true rfl) (Nat.le_of_ble_eq_true rfl) (t_Told_aboveSum (by omega) ep1) ?_
      refine E_zeq (tgt := 36) d_Told_wrongLine_21 (by decide) (fun c => ?_) (fun c => ?_)
      · rw [if_pos c] at hq
        refine E_inc (v := 1) (ls' := [(5, .int (x5 + 1)), (0, .ref a0), (1, .int x1), (2, .int x2), (3, .int x3), (4, .int x4)]) 5 d_Told_wrongLine_36 rfl (Nat.le_of_ble_eq_true rfl) (by decide) rfl ?_
        refine E_goto (tgt := 6) d_Told_wrongLine_39 (by decide) ?_
        exact E_sub (ks := [1, 2, 3, 4, 5, 0]) rfl <| ih _ _ _ _ _ _ _ _ hq
      · rw [if_neg c] at hq
        refine E_il 4 d_Told_wrongLine_24 rfl ?_
        refine E_ic (v := (-1)) d_Told_wrongLine_26 (by decide) ?_
        refine E_jeq (tgt := 32) d_Told_wrongLine_27 (by decide) (fun c => ?_) (fun c => ?_)
        · rw [if_pos c] at hq
          refine E_il 5 d_Told_wrongLine_32 rfl ?_
          refine E_is (ls' := [(4, .int x5), (0, .ref a0), (1, .int x1), (2, .int x2), (3, .int x3), (5, .int x5)]) d_Told_wrongLine_34 (Nat.le_of_ble_eq_true rfl) rfl ?_
          refine E_inc (v := 1) (ls' := [(5, .int (x5 + 1)), (4, .int x5), (0, .ref a0), (1, .int x1), (2, .int x2), (3, .int x3)]) 5 d_Told_wrongLine_36 rfl (Nat.le_of_ble_eq_true rfl) (by decide) rfl ?_
          refine E_goto (tgt := 6) d_Told_wrongLine_39 (by decide) ?_
          exact E_sub (ks := [2, 3, 4, 5, 1, 0]) rfl <| ih _ _ _ _ _ _ _ _ hq
        · rw [if_neg c] at hq
          refine E_ic (v := (-1)) d_Told_wrongLine_30 (by decide) ?_
          exact E_rI d_Told_wrongLine_31 rfl hq
def f_Told_wrongLine (a0 : Nat) (x1 : Int32) (x2 : Int32) (x3 : Int32) (h : PH) : Option (Int32 × PH) :=
  f_Told_wrongLine_6 FU a0 x1 x2 x3 (-1) 0 h
theorem t_Told_wrongLine {d : Nat} (hd : 2 ≤ d) {a0 : Nat} {x1 : Int32} {x2 : Int32} {x3 : Int32} {h : PH} {r : Int32 × PH} (hq : f_Told_wrongLine a0 x1 x2 x3 h = some r) : E d 0 0 m_Told_wrongLine 0 [(0, .ref a0), (1, .int x1), (2, .int x2), (3, .int x3)] [] h (PI r) := by
  unfold f_Told_wrongLine at hq
  obtain ⟨d, rfl⟩ : ∃ e, d = e + 1 := ⟨d - 1, by omega⟩
  refine E_ic (v := (-1)) d_Told_wrongLine_0 (by decide) ?_
  refine E_is (ls' := [(4, .int (-1)), (0, .ref a0), (1, .int x1), (2, .int x2), (3, .int x3)]) d_Told_wrongLine_1 (Nat.le_of_ble_eq_true rfl) rfl ?_
  refine E_ic (v := 0) d_Told_wrongLine_3 (by decide) ?_
  refine E_is (ls' := [(5, .int 0), (4, .int (-1)), (0, .ref a0), (1, .int x1), (2, .int x2), (3, .int x3)]) d_Told_wrongLine_4 (Nat.le_of_ble_eq_true rfl) rfl ?_
  exact E_sub (ks := [2, 3, 4, 5, 1, 0]) rfl <| t_Told_wrongLine_6 (by omega) _ _ _ _ _ _ _ _ _ hq
def f_Tc_altered (a0 : Nat) (x1 : Int32) (h : PH) : Option (Int32 × PH) :=
  (f_Tc_within x1 1 h).bind fun p1 =>
  if p1.1 = 0 then
    some ((-10000), p1.2)
  else
    (ldR p1.2 8 a0 0).bind fun v2 =>
    (ldR p1.2 1 v2 6).bind fun v3 =>
    (isO p1.2 7 v3).bind fun _ =>
    (f_Told_wrongLine v3 16 4 1 p1.2).bind fun p4 =>
    (ldR p4.2 8 a0 0).bind fun v6 =>
    (ldR p4.2 1 v6 6).bind fun v7 =>
    (isO p4.2 7 v7).bind fun _ =>
    (f_Told_wrongLine v7 20 1 4 p4.2).bind fun p8 =>
    if p4.1 = (-1) then
      some ((-10000), p8.2)
    else
      if p8.1 = (-1) then
        some ((-10000), p8.2)
      else
        (ldR p8.2 8 a0 0).bind fun v10 =>
        (ldR p8.2 1 v10 6).bind fun v11 =>
        (isO p8.2 7 v11).bind fun _ =>
        (f_Told_aboveSum v11 16 p4.1 4 1 p8.2).bind fun p12 =>
        (ldR p12.2 8 a0 0).bind fun v14 =>
        (ldR p12.2 1 v14 6).bind fun v15 =>
        (isO p12.2 7 v15).bind fun _ =>
        (f_Told_aboveSum v15 20 p8.1 1 4 p12.2).bind fun p16 =>
        if p12.1 = p16.1 then
          if x1 = 0 then
            some (((p4.1 * 4) + p8.1), p16.2)
          else
            some (p12.1, p16.2)
        else
          some ((-10000), p16.2)
theorem t_Tc_altered {d : Nat} (hd : 3 ≤ d) {a0 : Nat} {x1 : Int32} {h : PH} {r : Int32 × PH} (hq : f_Tc_altered a0 x1 h = some r) : E d 0 0 m_Tc_altered 0 [(0, .ref a0), (1, .int x1)] [] h (PI r) := by
  unfold f_Tc_altered at hq
  obtain ⟨d, rfl⟩ : ∃ e, d = e + 1 := ⟨d - 1, by omega⟩
  refine E_si (v := (-10000)) d_Tc_altered_0 (by decide) ?_
  refine E_isn (ls' := [(2, .int (-10000)), (0, .ref a0), (1, .int x1)]) d_Tc_altered_3 (Nat.le_of_ble_eq_true rfl) rfl ?_
  refine E_iln 2 d_Tc_altered_4 rfl rfl ?_
  refine E_ic (v := 1) d_Tc_altered_5 (by decide) ?_
  obtain ⟨p1, ep1, hq⟩ := bd hq
  refine E_cS2I d_Tc_altered_6 ck_Tc_57 (Nat.le_of_ble_eq_true rfl) (Nat.le_of_ble_eq_true rfl) (t_Tc_within (by omega) ep1) ?_
  refine E_zne (tgt := 14) d_Tc_altered_9 (by decide) (fun c => ?_) (fun c => ?_)
  · rw [if_neg c] at hq
    refine E_aln 1 d_Tc_altered_14 rfl rfl ?_
    obtain ⟨v2, ev2, hq⟩ := bd hq
    refine E_gR d_Tc_altered_15 lk_Tc_10 rfl ev2 ?_
    obtain ⟨v3, ev3, hq⟩ := bd hq
    refine E_gR d_Tc_altered_18 lk_Tc_230 rfl ev3 ?_
    refine E_bi (v := 16) d_Tc_altered_21 (by decide) ?_
    refine E_ic (v := 4) d_Tc_altered_23 (by decide) ?_
    refine E_ic (v := 1) d_Tc_altered_24 (by decide) ?_
    obtain ⟨q5, eq5, hq⟩ := bd hq
    obtain ⟨p4, ep4, hq⟩ := bd hq
    refine E_cV3I d_Tc_altered_25 ck_Tc_309 rfl rfl eq5 (Nat.le_of_ble_eq_true rfl) (Nat.le_of_ble_eq_true rfl) (t_Told_wrongLine (by omega) ep4) ?_
    refine E_isn (ls' := [(3, .int p4.1), (2, .int (-10000)), (0, .ref a0), (1, .int x1)]) d_Tc_altered_28 (Nat.le_of_ble_eq_true rfl) rfl ?_
    refine E_aln 2 d_Tc_altered_29 rfl rfl ?_
    obtain ⟨v6, ev6, hq⟩ := bd hq
    refine E_gR d_Tc_altered_30 lk_Tc_10 rfl ev6 ?_
    obtain ⟨v7, ev7, hq⟩ := bd hq
    refine E_gR d_Tc_altered_33 lk_Tc_230 rfl ev7 ?_
    refine E_bi (v := 20) d_Tc_altered_36 (by decide) ?_
    refine E_ic (v := 1) d_Tc_altered_38 (by decide) ?_
    refine E_ic (v := 4) d_Tc_altered_39 (by decide) ?_
    obtain ⟨q9, eq9, hq⟩ := bd hq
    obtain ⟨p8, ep8, hq⟩ := bd hq
    refine E_cV3I d_Tc_altered_40 ck_Tc_309 rfl rfl eq9 (Nat.le_of_ble_eq_true rfl) (Nat.le_of_ble_eq_true rfl) (t_Told_wrongLine (by omega) ep8) ?_
    refine E_is (ls' := [(4, .int p8.1), (3, .int p4.1), (2, .int (-10000)), (0, .ref a0), (1, .int x1)]) d_Tc_altered_43 (Nat.le_of_ble_eq_true rfl) rfl ?_
    refine E_iln 1 d_Tc_altered_45 rfl rfl ?_
    refine E_ic (v := (-1)) d_Tc_altered_46 (by decide) ?_
    refine E_jeq (tgt := 56) d_Tc_altered_47 (by decide) (fun c => ?_) (fun c => ?_)
    · rw [if_pos c] at hq
      refine E_iln 2 d_Tc_altered_56 rfl rfl ?_
      exact E_rI d_Tc_altered_57 rfl hq
    · rw [if_neg c] at hq
      refine E_il 0 d_Tc_altered_50 rfl ?_
      refine E_ic (v := (-1)) d_Tc_altered_52 (by decide) ?_
      refine E_jne (tgt := 58) d_Tc_altered_53 (by decide) (fun c => ?_) (fun c => ?_)
      · rw [if_neg c] at hq
        refine E_aln 3 d_Tc_altered_58 rfl rfl ?_
        obtain ⟨v10, ev10, hq⟩ := bd hq
        refine E_gR d_Tc_altered_59 lk_Tc_10 rfl ev10 ?_
        obtain ⟨v11, ev11, hq⟩ := bd hq
        refine E_gR d_Tc_altered_62 lk_Tc_230 rfl ev11 ?_
        refine E_bi (v := 16) d_Tc_altered_65 (by decide) ?_
        refine E_iln 1 d_Tc_altered_67 rfl rfl ?_
        refine E_ic (v := 4) d_Tc_altered_68 (by decide) ?_
        refine E_ic (v := 1) d_Tc_altered_69 (by decide) ?_
        obtain ⟨q13, eq13, hq⟩ := bd hq
        obtain ⟨p12, ep12, hq⟩ := bd hq
        refine E_cV4I d_Tc_altered_70 ck_Tc_312 rfl rfl eq13 (Nat.le_of_ble_eq_true rfl) (Nat.le_of_ble_eq_true rfl) (t_Told_aboveSum (by omega) ep12) ?_
        refine E_is (ls' := [(5, .int p12.1), (4, .int p8.1), (3, .int p4.1), (2, .int (-10000)), (0, .ref a0), (1, .int x1)]) d_Tc_altered_73 (Nat.le_of_ble_eq_true rfl) rfl ?_
        refine E_il 0 d_Tc_altered_75 rfl ?_
        refine E_aln 4 d_Tc_altered_77 rfl rfl ?_
        obtain ⟨v14, ev14, hq⟩ := bd hq
        refine E_gR d_Tc_altered_78 lk_Tc_10 rfl ev14 ?_
        obtain ⟨v15, ev15, hq⟩ := bd hq
        refine E_gR d_Tc_altered_81 lk_Tc_230 rfl ev15 ?_
        refine E_bi (v := 20) d_Tc_altered_84 (by decide) ?_
        refine E_il 1 d_Tc_altered_86 rfl ?_
        refine E_ic (v := 1) d_Tc_altered_88 (by decide) ?_
        refine E_ic (v := 4) d_Tc_altered_89 (by decide) ?_
        obtain ⟨q17, eq17, hq⟩ := bd hq
        obtain ⟨p16, ep16, hq⟩ := bd hq
        refine E_cV4I d_Tc_altered_90 ck_Tc_312 rfl rfl eq17 (Nat.le_of_ble_eq_true rfl) (Nat.le_of_ble_eq_true rfl) (t_Told_aboveSum (by omega) ep16) ?_
        refine E_jeq (tgt := 98) d_Tc_altered_93 (by decide) (fun c => ?_) (fun c => ?_)
        · rw [if_pos c] at hq
          refine E_iln 5 d_Tc_altered_98 rfl rfl ?_
          refine E_zne (tgt := 111) d_Tc_altered_99 (by decide) (fun c => ?_) (fun c => ?_)
          · rw [if_neg c] at hq
            refine E_il 0 d_Tc_altered_111 rfl ?_
            exact E_rI d_Tc_altered_113 rfl hq
          · rw [if_pos c] at hq
            refine E_iln 2 d_Tc_altered_102 rfl rfl ?_
            refine E_ic (v := 4) d_Tc_altered_103 (by decide) ?_
            refine E_imul d_Tc_altered_104 ?_
            refine E_il 1 d_Tc_altered_105 rfl ?_
            refine E_iadd d_Tc_altered_107 ?_
            refine E_goto (tgt := 113) d_Tc_altered_108 (by decide) ?_
            exact E_rI d_Tc_altered_113 rfl hq
        · rw [if_neg c] at hq
          refine E_iln 3 d_Tc_altered_96 rfl rfl ?_
          exact E_rI d_Tc_altered_97 rfl hq
      · rw [if_pos c] at hq
        refine E_iln 2 d_Tc_altered_56 rfl rfl ?_
        exact E_rI d_Tc_altered_57 rfl hq
  · rw [if_pos c] at hq
    refine E_iln 0 d_Tc_altered_12 rfl rfl ?_
    exact E_rI d_Tc_altered_13 rfl hq
def f_Tc_years (a0 : Nat) (x1 : Int32) (x2 : Int32) (h : PH) : Option (Int32 × PH) :=
  if x1 < 1 then
    rtZ 0 h
  else
    if 30 < x1 then
      rtZ 0 h
    else
      (f_Tc_within x2 ((jshl 1 x1) - 1) h).bind fun p1 =>
      if p1.1 = 0 then
        rtZ 0 p1.2
      else
        (ldR p1.2 8 a0 0).bind fun v2 =>
        (ldR p1.2 1 v2 6).bind fun v3 =>
        (stI p1.2 7 v3 8 x1).bind fun h4 =>
        (ldR h4 8 a0 0).bind fun v5 =>
        (ldR h4 1 v5 6).bind fun v6 =>
        (stI h4 7 v6 9 x2).bind fun h7 =>
        rtZ 1 h7
theorem t_Tc_years {d : Nat} (hd : 1 ≤ d) {a0 : Nat} {x1 : Int32} {x2 : Int32} {h : PH} {r : Int32 × PH} (hq : f_Tc_years a0 x1 x2 h = some r) : E d 0 0 m_Tc_years 0 [(0, .ref a0), (1, .int x1), (2, .int x2)] [] h (PI r) := by
  unfold f_Tc_years at hq
  obtain ⟨d, rfl⟩ : ∃ e, d = e + 1 := ⟨d - 1, by omega⟩
  refine E_iln 1 d_Tc_years_0 rfl rfl ?_
  refine E_ic (v := 1) d_Tc_years_1 (by decide) ?_
  refine E_jlt (tgt := 23) d_Tc_years_2 (by decide) (fun c => ?_) (fun c => ?_)
  · rw [if_pos c] at hq
    refine E_ic (v := 0) d_Tc_years_23 (by decide) ?_
    exact E_rZ d_Tc_years_24 rfl hq
  · rw [if_neg c] at hq
    refine E_iln 1 d_Tc_years_5 rfl rfl ?_
    refine E_bi (v := 30) d_Tc_years_6 (by decide) ?_
    refine E_jgt (tgt := 23) d_Tc_years_8 (by decide) (fun c => ?_) (fun c => ?_)
    · rw [if_pos c] at hq
      refine E_ic (v := 0) d_Tc_years_23 (by decide) ?_
      exact E_rZ d_Tc_years_24 rfl hq
    · rw [if_neg c] at hq
      refine E_iln 2 d_Tc_years_11 rfl rfl ?_
      refine E_ic (v := 1) d_Tc_years_12 (by decide) ?_
      refine E_iln 1 d_Tc_years_13 rfl rfl ?_
      refine E_ishl d_Tc_years_14 ?_
      refine E_ic (v := 1) d_Tc_years_15 (by decide) ?_
      refine E_isub d_Tc_years_16 ?_
      obtain ⟨p1, ep1, hq⟩ := bd hq
      refine E_cS2I d_Tc_years_17 ck_Tc_57 (Nat.le_of_ble_eq_true rfl) (Nat.le_of_ble_eq_true rfl) (t_Tc_within (by omega) ep1) ?_
      refine E_zne (tgt := 25) d_Tc_years_20 (by decide) (fun c => ?_) (fun c => ?_)
      · rw [if_neg c] at hq
        refine E_aln 0 d_Tc_years_25 rfl rfl ?_
        obtain ⟨v2, ev2, hq⟩ := bd hq
        refine E_gR d_Tc_years_26 lk_Tc_10 rfl ev2 ?_
        obtain ⟨v3, ev3, hq⟩ := bd hq
        refine E_gR d_Tc_years_29 lk_Tc_230 rfl ev3 ?_
        refine E_iln 1 d_Tc_years_32 rfl rfl ?_
        obtain ⟨h4, eh4, hq⟩ := bd hq
        refine E_pI d_Tc_years_33 lp_Tc_m_315 rfl eh4 ?_
        refine E_aln 0 d_Tc_years_36 rfl rfl ?_
        obtain ⟨v5, ev5, hq⟩ := bd hq
        refine E_gR d_Tc_years_37 lk_Tc_10 rfl ev5 ?_
        obtain ⟨v6, ev6, hq⟩ := bd hq
        refine E_gR d_Tc_years_40 lk_Tc_230 rfl ev6 ?_
        refine E_iln 2 d_Tc_years_43 rfl rfl ?_
        obtain ⟨h7, eh7, hq⟩ := bd hq
        refine E_pI d_Tc_years_44 lp_Tc_m_318 rfl eh7 ?_
        refine E_ic (v := 1) d_Tc_years_47 (by decide) ?_
        exact E_rZ d_Tc_years_48 rfl hq
      · rw [if_pos c] at hq
        refine E_ic (v := 0) d_Tc_years_23 (by decide) ?_
        exact E_rZ d_Tc_years_24 rfl hq
def f_Told_longestDry_32 (k6 : Nat → Int32 → Int32 → Int32 → PH → Option (Int32 × PH)) (a0 : Nat) (x1 : Int32) (x3 : Int32) (s0 : Int32) (h : PH) : Option (Int32 × PH) :=
  k6 a0 (jmax x1 s0) s0 (x3 + 1) h
theorem t_Told_longestDry_32 {d : Nat} (hd : 1 ≤ d) {k6 : Nat → Int32 → Int32 → Int32 → PH → Option (Int32 × PH)} (hk6 : ∀ (a0 : Nat) (x1 : Int32) (x2 : Int32) (x3 : Int32) (h : PH) (r : Int32 × PH), k6 a0 x1 x2 x3 h = some r → E d 0 0 m_Told_longestDry 6 [(0, .ref a0), (1, .int x1), (2, .int x2), (3, .int x3)] [] h (PI r)) {a0 : Nat} {x1 : Int32} {x3 : Int32} {s0 : Int32} {h : PH} {r : Int32 × PH} (hq : f_Told_longestDry_32 k6 a0 x1 x3 s0 h = some r) : E d 0 0 m_Told_longestDry 32 [(0, .ref a0), (1, .int x1), (3, .int x3)] [.int s0] h (PI r) := by
  unfold f_Told_longestDry_32 at hq
  obtain ⟨d, rfl⟩ : ∃ e, d = e + 1 := ⟨d - 1, by omega⟩
  refine E_isn (ls' := [(2, .int s0), (0, .ref a0), (1, .int x1), (3, .int x3)]) d_Told_longestDry_32 (Nat.le_of_ble_eq_true rfl) rfl ?_
  refine E_iln 2 d_Told_longestDry_33 rfl rfl ?_
  refine E_iln 0 d_Told_longestDry_34 rfl rfl ?_
  refine E_max d_Told_longestDry_35 kj_Told_67 (Nat.le_of_ble_eq_true rfl) ?_
  refine E_isn (ls' := [(1, .int (jmax x1 s0)), (2, .int s0), (0, .ref a0), (3, .int x3)]) d_Told_longestDry_38 (Nat.le_of_ble_eq_true rfl) rfl ?_
  refine E_inc (v := 1) (ls' := [(3, .int (x3 + 1)), (1, .int (jmax x1 s0)), (2, .int s0), (0, .ref a0)]) 3 d_Told_longestDry_39 rfl (Nat.le_of_ble_eq_true rfl) (by decide) rfl ?_
  refine E_goto (tgt := 6) d_Told_longestDry_42 (by decide) ?_
  exact E_sub (ks := [3, 1, 2, 0]) rfl <| hk6 _ _ _ _ _ _ hq
def f_Told_longestDry_6 : Nat → Nat → Int32 → Int32 → Int32 → PH → Option (Int32 × PH)
  | 0, _, _, _, _, _ => none
  | n + 1, a0, x1, x2, x3, h =>
    (ldI h 7 a0 8).bind fun v1 =>
    if v1 ≤ x3 then
      some (x1, h)
    else
      (ldI h 7 a0 9).bind fun v2 =>
      if ((jshr v2 x3) &&& 1) = 0 then
        f_Told_longestDry_32 (fun a0 x1 x2 x3 h => f_Told_longestDry_6 n a0 x1 x2 x3 h) a0 x1 x3 (x2 + 1) h
      else
        f_Told_longestDry_32 (fun a0 x1 x2 x3 h => f_Told_longestDry_6 n a0 x1 x2 x3 h) a0 x1 x3 0 h
theorem t_Told_longestDry_6 {d : Nat} (hd : 1 ≤ d) : ∀ (n : Nat) (a0 : Nat) (x1 : Int32) (x2 : Int32) (x3 : Int32) (h : PH) (r : Int32 × PH), f_Told_longestDry_6 n a0 x1 x2 x3 h = some r → E d 0 0 m_Told_longestDry 6 [(0, .ref a0), (1, .int x1), (2, .int x2), (3, .int x3)] [] h (PI r) := by
  intro n
  induction n with
  | zero => intro a0 x1 x2 x3 h r hq; rw [f_Told_longestDry_6] at hq; cases hq
  | succ n ih =>
    intro a0 x1 x2 x3 h r hq
    rw [f_Told_longestDry_6] at hq
    obtain ⟨d, rfl⟩ : ∃ e, d = e + 1 := ⟨d - 1, by omega⟩
    refine E_iln 3 d_Told_longestDry_6 rfl rfl ?_
    refine E_aln 0 d_Told_longestDry_7 rfl rfl ?_
    obtain ⟨v1, ev1, hq⟩ := bd hq
    refine E_gI d_Told_longestDry_8 lk_Told_42 rfl ev1 ?_
    refine E_jge (tgt := 45) d_Told_longestDry_11 (by decide) (fun c => ?_) (fun c => ?_)
    · rw [if_pos c] at hq
      refine E_iln 1 d_Told_longestDry_45 rfl rfl ?_
      exact E_rI d_Told_longestDry_46 rfl hq
    · rw [if_neg c] at hq
      refine E_aln 0 d_Told_longestDry_14 rfl rfl ?_
      obtain ⟨v2, ev2, hq⟩ := bd hq
      refine E_gI d_Told_longestDry_15 lk_Told_46 rfl ev2 ?_
      refine E_iln 3 d_Told_longestDry_18 rfl rfl ?_
      refine E_ishr d_Told_longestDry_19 ?_
      refine E_ic (v := 1) d_Told_longestDry_20 (by decide) ?_
      refine E_iand d_Told_longestDry_21 ?_
      refine E_zne (tgt := 31) d_Told_longestDry_22 (by decide) (fun c => ?_) (fun c => ?_)
      · rw [if_neg c] at hq
        refine E_ic (v := 0) d_Told_longestDry_31 (by decide) ?_
        exact E_sub (ks := [0, 1, 3]) rfl <| t_Told_longestDry_32 (by omega) ih hq
      · rw [if_pos c] at hq
        refine E_iln 2 d_Told_longestDry_25 rfl rfl ?_
        refine E_ic (v := 1) d_Told_longestDry_26 (by decide) ?_
        refine E_iadd d_Told_longestDry_27 ?_
        refine E_goto (tgt := 32) d_Told_longestDry_28 (by decide) ?_
        exact E_sub (ks := [0, 1, 3]) rfl <| t_Told_longestDry_32 (by omega) ih hq
def f_Told_longestDry (a0 : Nat) (h : PH) : Option (Int32 × PH) :=
  f_Told_longestDry_6 FU a0 0 0 0 h
theorem t_Told_longestDry {d : Nat} (hd : 1 ≤ d) {a0 : Nat} {h : PH} {r : Int32 × PH} (hq : f_Told_longestDry a0 h = some r) : E d 0 0 m_Told_longestDry 0 [(0, .ref a0)] [] h (PI r) := by
  unfold f_Told_longestDry at hq
  obtain ⟨d, rfl⟩ : ∃ e, d = e + 1 := ⟨d - 1, by omega⟩
  refine E_ic (v := 0) d_Told_longestDry_0 (by decide) ?_
  refine E_isn (ls' := [(1, .int 0), (0, .ref a0)]) d_Told_longestDry_1 (Nat.le_of_ble_eq_true rfl) rfl ?_
  refine E_ic (v := 0) d_Told_longestDry_2 (by decide) ?_
  refine E_isn (ls' := [(2, .int 0), (1, .int 0), (0, .ref a0)]) d_Told_longestDry_3 (Nat.le_of_ble_eq_true rfl) rfl ?_
  refine E_ic (v := 0) d_Told_longestDry_4 (by decide) ?_
  refine E_isn (ls' := [(3, .int 0), (2, .int 0), (1, .int 0), (0, .ref a0)]) d_Told_longestDry_5 (Nat.le_of_ble_eq_true rfl) rfl ?_
  exact E_sub (ks := [3, 2, 1, 0]) rfl <| t_Told_longestDry_6 (by omega) _ _ _ _ _ _ _ hq
def f_Told_dryBegin_30 (k4 : Nat → Int32 → Int32 → Int32 → PH → Option (Int32 × PH)) (a0 : Nat) (x1 : Int32) (x3 : Int32) (s0 : Int32) (h : PH) : Option (Int32 × PH) :=
  if s0 ≤ 0 then
    k4 a0 x1 s0 (x3 + 1) h
  else
    if s0 = x1 then
      some (((x3 - s0) + 1), h)
    else
      k4 a0 x1 s0 (x3 + 1) h
theorem t_Told_dryBegin_30 {d : Nat} (hd : 0 ≤ d) {k4 : Nat → Int32 → Int32 → Int32 → PH → Option (Int32 × PH)} (hk4 : ∀ (a0 : Nat) (x1 : Int32) (x2 : Int32) (x3 : Int32) (h : PH) (r : Int32 × PH), k4 a0 x1 x2 x3 h = some r → E d 0 0 m_Told_dryBegin 4 [(0, .ref a0), (1, .int x1), (2, .int x2), (3, .int x3)] [] h (PI r)) {a0 : Nat} {x1 : Int32} {x3 : Int32} {s0 : Int32} {h : PH} {r : Int32 × PH} (hq : f_Told_dryBegin_30 k4 a0 x1 x3 s0 h = some r) : E d 0 0 m_Told_dryBegin 30 [(0, .ref a0), (1, .int x1), (3, .int x3)] [.int s0] h (PI r) := by
  unfold f_Told_dryBegin_30 at hq
  refine E_isn (ls' := [(2, .int s0), (0, .ref a0), (1, .int x1), (3, .int x3)]) d_Told_dryBegin_30 (Nat.le_of_ble_eq_true rfl) rfl ?_
  refine E_iln 0 d_Told_dryBegin_31 rfl rfl ?_
  refine E_zle (tgt := 46) d_Told_dryBegin_32 (by decide) (fun c => ?_) (fun c => ?_)
  · rw [if_pos c] at hq
    refine E_inc (v := 1) (ls' := [(3, .int (x3 + 1)), (2, .int s0), (0, .ref a0), (1, .int x1)]) 3 d_Told_dryBegin_46 rfl (Nat.le_of_ble_eq_true rfl) (by decide) rfl ?_
    refine E_goto (tgt := 4) d_Told_dryBegin_49 (by decide) ?_
    exact E_sub (ks := [2, 3, 1, 0]) rfl <| hk4 _ _ _ _ _ _ hq
  · rw [if_neg c] at hq
    refine E_iln 0 d_Told_dryBegin_35 rfl rfl ?_
    refine E_iln 2 d_Told_dryBegin_36 rfl rfl ?_
    refine E_jne (tgt := 46) d_Told_dryBegin_37 (by decide) (fun c => ?_) (fun c => ?_)
    · rw [if_neg c] at hq
      refine E_inc (v := 1) (ls' := [(3, .int (x3 + 1)), (2, .int s0), (0, .ref a0), (1, .int x1)]) 3 d_Told_dryBegin_46 rfl (Nat.le_of_ble_eq_true rfl) (by decide) rfl ?_
      refine E_goto (tgt := 4) d_Told_dryBegin_49 (by decide) ?_
      exact E_sub (ks := [2, 3, 1, 0]) rfl <| hk4 _ _ _ _ _ _ hq
    · rw [if_pos c] at hq
      refine E_iln 3 d_Told_dryBegin_40 rfl rfl ?_
      refine E_iln 0 d_Told_dryBegin_41 rfl rfl ?_
      refine E_isub d_Told_dryBegin_42 ?_
      refine E_ic (v := 1) d_Told_dryBegin_43 (by decide) ?_
      refine E_iadd d_Told_dryBegin_44 ?_
      exact E_rI d_Told_dryBegin_45 rfl hq
def f_Told_dryBegin_4 : Nat → Nat → Int32 → Int32 → Int32 → PH → Option (Int32 × PH)
  | 0, _, _, _, _, _ => none
  | n + 1, a0, x1, x2, x3, h =>
    (ldI h 7 a0 8).bind fun v1 =>
    if v1 ≤ x3 then
      some ((-1), h)
    else
      (ldI h 7 a0 9).bind fun v2 =>
      if ((jshr v2 x3) &&& 1) = 0 then
        f_Told_dryBegin_30 (fun a0 x1 x2 x3 h => f_Told_dryBegin_4 n a0 x1 x2 x3 h) a0 x1 x3 (x2 + 1) h
      else
        f_Told_dryBegin_30 (fun a0 x1 x2 x3 h => f_Told_dryBegin_4 n a0 x1 x2 x3 h) a0 x1 x3 0 h
theorem t_Told_dryBegin_4 {d : Nat} (hd : 0 ≤ d) : ∀ (n : Nat) (a0 : Nat) (x1 : Int32) (x2 : Int32) (x3 : Int32) (h : PH) (r : Int32 × PH), f_Told_dryBegin_4 n a0 x1 x2 x3 h = some r → E d 0 0 m_Told_dryBegin 4 [(0, .ref a0), (1, .int x1), (2, .int x2), (3, .int x3)] [] h (PI r) := by
  intro n
  induction n with
  | zero => intro a0 x1 x2 x3 h r hq; rw [f_Told_dryBegin_4] at hq; cases hq
  | succ n ih =>
    intro a0 x1 x2 x3 h r hq
    rw [f_Told_dryBegin_4] at hq
    refine E_iln 3 d_Told_dryBegin_4 rfl rfl ?_
    refine E_aln 0 d_Told_dryBegin_5 rfl rfl ?_
    obtain ⟨v1, ev1, hq⟩ := bd hq
    refine E_gI d_Told_dryBegin_6 lk_Told_42 rfl ev1 ?_
    refine E_jge (tgt := 52) d_Told_dryBegin_9 (by decide) (fun c => ?_) (fun c => ?_)
    · rw [if_pos c] at hq
      refine E_ic (v := (-1)) d_Told_dryBegin_52 (by decide) ?_
      exact E_rI d_Told_dryBegin_53 rfl hq
    · rw [if_neg c] at hq
      refine E_aln 0 d_Told_dryBegin_12 rfl rfl ?_
      obtain ⟨v2, ev2, hq⟩ := bd hq
      refine E_gI d_Told_dryBegin_13 lk_Told_46 rfl ev2 ?_
      refine E_iln 3 d_Told_dryBegin_16 rfl rfl ?_
      refine E_ishr d_Told_dryBegin_17 ?_
      refine E_ic (v := 1) d_Told_dryBegin_18 (by decide) ?_
      refine E_iand d_Told_dryBegin_19 ?_
      refine E_zne (tgt := 29) d_Told_dryBegin_20 (by decide) (fun c => ?_) (fun c => ?_)
      · rw [if_neg c] at hq
        refine E_ic (v := 0) d_Told_dryBegin_29 (by decide) ?_
        exact E_sub (ks := [0, 1, 3]) rfl <| t_Told_dryBegin_30 (by omega) ih hq
      · rw [if_pos c] at hq
        refine E_iln 2 d_Told_dryBegin_23 rfl rfl ?_
        refine E_ic (v := 1) d_Told_dryBegin_24 (by decide) ?_
        refine E_iadd d_Told_dryBegin_25 ?_
        refine E_goto (tgt := 30) d_Told_dryBegin_26 (by decide) ?_
        exact E_sub (ks := [0, 1, 3]) rfl <| t_Told_dryBegin_30 (by omega) ih hq
def f_Told_dryBegin (a0 : Nat) (x1 : Int32) (h : PH) : Option (Int32 × PH) :=
  f_Told_dryBegin_4 FU a0 x1 0 0 h
theorem t_Told_dryBegin {d : Nat} (hd : 0 ≤ d) {a0 : Nat} {x1 : Int32} {h : PH} {r : Int32 × PH} (hq : f_Told_dryBegin a0 x1 h = some r) : E d 0 0 m_Told_dryBegin 0 [(0, .ref a0), (1, .int x1)] [] h (PI r) := by
  unfold f_Told_dryBegin at hq
  refine E_ic (v := 0) d_Told_dryBegin_0 (by decide) ?_
  refine E_isn (ls' := [(2, .int 0), (0, .ref a0), (1, .int x1)]) d_Told_dryBegin_1 (Nat.le_of_ble_eq_true rfl) rfl ?_
  refine E_ic (v := 0) d_Told_dryBegin_2 (by decide) ?_
  refine E_isn (ls' := [(3, .int 0), (2, .int 0), (0, .ref a0), (1, .int x1)]) d_Told_dryBegin_3 (Nat.le_of_ble_eq_true rfl) rfl ?_
  exact E_sub (ks := [2, 3, 1, 0]) rfl <| t_Told_dryBegin_4 (by omega) _ _ _ _ _ _ _ hq
def f_Tc_dry (a0 : Nat) (x1 : Int32) (h : PH) : Option (Int32 × PH) :=
  (f_Tc_within x1 1 h).bind fun p1 =>
  if p1.1 = 0 then
    some ((-1), p1.2)
  else
    (ldR p1.2 8 a0 0).bind fun v2 =>
    (ldR p1.2 1 v2 6).bind fun v3 =>
    (isO p1.2 7 v3).bind fun _ =>
    (f_Told_longestDry v3  p1.2).bind fun p4 =>
    if x1 = 0 then
      some (p4.1, p4.2)
    else
      (ldR p4.2 8 a0 0).bind fun v6 =>
      (ldR p4.2 1 v6 6).bind fun v7 =>
      (isO p4.2 7 v7).bind fun _ =>
      (f_Told_dryBegin v7 p4.1 p4.2).bind fun p8 =>
      some (p8.1, p8.2)
theorem t_Tc_dry {d : Nat} (hd : 2 ≤ d) {a0 : Nat} {x1 : Int32} {h : PH} {r : Int32 × PH} (hq : f_Tc_dry a0 x1 h = some r) : E d 0 0 m_Tc_dry 0 [(0, .ref a0), (1, .int x1)] [] h (PI r) := by
  unfold f_Tc_dry at hq
  obtain ⟨d, rfl⟩ : ∃ e, d = e + 1 := ⟨d - 1, by omega⟩
  refine E_iln 1 d_Tc_dry_0 rfl rfl ?_
  refine E_ic (v := 1) d_Tc_dry_1 (by decide) ?_
  obtain ⟨p1, ep1, hq⟩ := bd hq
  refine E_cS2I d_Tc_dry_2 ck_Tc_57 (Nat.le_of_ble_eq_true rfl) (Nat.le_of_ble_eq_true rfl) (t_Tc_within (by omega) ep1) ?_
  refine E_zne (tgt := 10) d_Tc_dry_5 (by decide) (fun c => ?_) (fun c => ?_)
  · rw [if_neg c] at hq
    refine E_aln 0 d_Tc_dry_10 rfl rfl ?_
    obtain ⟨v2, ev2, hq⟩ := bd hq
    refine E_gR d_Tc_dry_11 lk_Tc_10 rfl ev2 ?_
    obtain ⟨v3, ev3, hq⟩ := bd hq
    refine E_gR d_Tc_dry_14 lk_Tc_230 rfl ev3 ?_
    obtain ⟨q5, eq5, hq⟩ := bd hq
    obtain ⟨p4, ep4, hq⟩ := bd hq
    refine E_cV0I d_Tc_dry_17 ck_Tc_321 rfl rfl eq5 (Nat.le_of_ble_eq_true rfl) (Nat.le_of_ble_eq_true rfl) (t_Told_longestDry (by omega) ep4) ?_
    refine E_isn (ls' := [(2, .int p4.1), (0, .ref a0), (1, .int x1)]) d_Tc_dry_20 (Nat.le_of_ble_eq_true rfl) rfl ?_
    refine E_iln 2 d_Tc_dry_21 rfl rfl ?_
    refine E_zne (tgt := 29) d_Tc_dry_22 (by decide) (fun c => ?_) (fun c => ?_)
    · rw [if_neg c] at hq
      refine E_aln 1 d_Tc_dry_29 rfl rfl ?_
      obtain ⟨v6, ev6, hq⟩ := bd hq
      refine E_gR d_Tc_dry_30 lk_Tc_10 rfl ev6 ?_
      obtain ⟨v7, ev7, hq⟩ := bd hq
      refine E_gR d_Tc_dry_33 lk_Tc_230 rfl ev7 ?_
      refine E_iln 0 d_Tc_dry_36 rfl rfl ?_
      obtain ⟨q9, eq9, hq⟩ := bd hq
      obtain ⟨p8, ep8, hq⟩ := bd hq
      refine E_cV1I d_Tc_dry_37 ck_Tc_324 rfl rfl eq9 (Nat.le_of_ble_eq_true rfl) (Nat.le_of_ble_eq_true rfl) (t_Told_dryBegin (by omega) ep8) ?_
      exact E_rI d_Tc_dry_40 rfl hq
    · rw [if_pos c] at hq
      refine E_iln 0 d_Tc_dry_25 rfl rfl ?_
      refine E_goto (tgt := 40) d_Tc_dry_26 (by decide) ?_
      exact E_rI d_Tc_dry_40 rfl hq
  · rw [if_pos c] at hq
    refine E_ic (v := (-1)) d_Tc_dry_8 (by decide) ?_
    exact E_rI d_Tc_dry_9 rfl hq
def f_Realm_votesOf_4 : Nat → Nat → Int32 → Int32 → Int32 → PH → Option (Int32 × PH)
  | 0, _, _, _, _, _ => none
  | n + 1, a0, x1, x2, x3, h =>
    (ldI h 5 a0 9).bind fun v1 =>
    if v1 ≤ x3 then
      some (x2, h)
    else
      (ldR h 5 a0 10).bind fun v2 =>
      (rdA h v2 x3).bind fun v3 =>
      if ((jshr x1 v3) &&& 1) = 1 then
        (ldR h 5 a0 12).bind fun v4 =>
        (rdA h v4 x3).bind fun v5 =>
        f_Realm_votesOf_4 n a0 x1 (x2 + (v5 + 1)) (x3 + 1) h
      else
        f_Realm_votesOf_4 n a0 x1 x2 (x3 + 1) h
theorem t_Realm_votesOf_4 {d : Nat} (hd : 0 ≤ d) : ∀ (n : Nat) (a0 : Nat) (x1 : Int32) (x2 : Int32) (x3 : Int32) (h : PH) (r : Int32 × PH), f_Realm_votesOf_4 n a0 x1 x2 x3 h = some r → E d 0 0 m_Realm_votesOf 4 [(0, .ref a0), (1, .int x1), (2, .int x2), (3, .int x3)] [] h (PI r) := by
  intro n
  induction n with
  | zero => intro a0 x1 x2 x3 h r hq; rw [f_Realm_votesOf_4] at hq; cases hq
  | succ n ih =>
    intro a0 x1 x2 x3 h r hq
    rw [f_Realm_votesOf_4] at hq
    refine E_iln 3 d_Realm_votesOf_4 rfl rfl ?_
    refine E_aln 0 d_Realm_votesOf_5 rfl rfl ?_
    obtain ⟨v1, ev1, hq⟩ := bd hq
    refine E_gI d_Realm_votesOf_6 lk_Realm_40 rfl ev1 ?_
    refine E_jge (tgt := 43) d_Realm_votesOf_9 (by decide) (fun c => ?_) (fun c => ?_)
    · rw [if_pos c] at hq
      refine E_iln 2 d_Realm_votesOf_43 rfl rfl ?_
      exact E_rI d_Realm_votesOf_44 rfl hq
    · rw [if_neg c] at hq
      refine E_iln 1 d_Realm_votesOf_12 rfl rfl ?_
      refine E_aln 0 d_Realm_votesOf_13 rfl rfl ?_
      obtain ⟨v2, ev2, hq⟩ := bd hq
      refine E_gR d_Realm_votesOf_14 lk_Realm_43 rfl ev2 ?_
      refine E_iln 3 d_Realm_votesOf_17 rfl rfl ?_
      obtain ⟨v3, ev3, hq⟩ := bd hq
      refine E_ra d_Realm_votesOf_18 ev3 ?_
      refine E_ishr d_Realm_votesOf_19 ?_
      refine E_ic (v := 1) d_Realm_votesOf_20 (by decide) ?_
      refine E_iand d_Realm_votesOf_21 ?_
      refine E_ic (v := 1) d_Realm_votesOf_22 (by decide) ?_
      refine E_jne (tgt := 37) d_Realm_votesOf_23 (by decide) (fun c => ?_) (fun c => ?_)
      · rw [if_neg c] at hq
        refine E_inc (v := 1) (ls' := [(3, .int (x3 + 1)), (0, .ref a0), (1, .int x1), (2, .int x2)]) 3 d_Realm_votesOf_37 rfl (Nat.le_of_ble_eq_true rfl) (by decide) rfl ?_
        refine E_goto (tgt := 4) d_Realm_votesOf_40 (by decide) ?_
        exact E_sub (ks := [1, 2, 3, 0]) rfl <| ih _ _ _ _ _ _ hq
      · rw [if_pos c] at hq
        refine E_iln 2 d_Realm_votesOf_26 rfl rfl ?_
        refine E_aln 0 d_Realm_votesOf_27 rfl rfl ?_
        obtain ⟨v4, ev4, hq⟩ := bd hq
        refine E_gR d_Realm_votesOf_28 lk_Realm_49 rfl ev4 ?_
        refine E_iln 3 d_Realm_votesOf_31 rfl rfl ?_
        obtain ⟨v5, ev5, hq⟩ := bd hq
        refine E_ra d_Realm_votesOf_32 ev5 ?_
        refine E_ic (v := 1) d_Realm_votesOf_33 (by decide) ?_
        refine E_iadd d_Realm_votesOf_34 ?_
        refine E_iadd d_Realm_votesOf_35 ?_
        refine E_isn (ls' := [(2, .int (x2 + (v5 + 1))), (0, .ref a0), (1, .int x1), (3, .int x3)]) d_Realm_votesOf_36 (Nat.le_of_ble_eq_true rfl) rfl ?_
        refine E_inc (v := 1) (ls' := [(3, .int (x3 + 1)), (2, .int (x2 + (v5 + 1))), (0, .ref a0), (1, .int x1)]) 3 d_Realm_votesOf_37 rfl (Nat.le_of_ble_eq_true rfl) (by decide) rfl ?_
        refine E_goto (tgt := 4) d_Realm_votesOf_40 (by decide) ?_
        exact E_sub (ks := [2, 3, 1, 0]) rfl <| ih _ _ _ _ _ _ hq
def f_Realm_votesOf (a0 : Nat) (x1 : Int32) (h : PH) : Option (Int32 × PH) :=
  f_Realm_votesOf_4 FU a0 x1 0 0 h
theorem t_Realm_votesOf {d : Nat} (hd : 0 ≤ d) {a0 : Nat} {x1 : Int32} {h : PH} {r : Int32 × PH} (hq : f_Realm_votesOf a0 x1 h = some r) : E d 0 0 m_Realm_votesOf 0 [(0, .ref a0), (1, .int x1)] [] h (PI r) := by
  unfold f_Realm_votesOf at hq
  refine E_ic (v := 0) d_Realm_votesOf_0 (by decide) ?_
  refine E_isn (ls' := [(2, .int 0), (0, .ref a0), (1, .int x1)]) d_Realm_votesOf_1 (Nat.le_of_ble_eq_true rfl) rfl ?_
  refine E_ic (v := 0) d_Realm_votesOf_2 (by decide) ?_
  refine E_isn (ls' := [(3, .int 0), (2, .int 0), (0, .ref a0), (1, .int x1)]) d_Realm_votesOf_3 (Nat.le_of_ble_eq_true rfl) rfl ?_
  exact E_sub (ks := [2, 3, 1, 0]) rfl <| t_Realm_votesOf_4 (by omega) _ _ _ _ _ _ _ hq
def f_Realm_weighsOf_33 (k12 : Nat → Int32 → Int32 → Int32 → Int32 → PH → Option (Int32 × PH)) (a0 : Nat) (x1 : Int32) (x2 : Int32) (x3 : Int32) (x4 : Int32) (s0 : Int32) (h : PH) : Option (Int32 × PH) :=
  if s0 = 0 then
    k12 a0 x1 x2 x3 (x4 + 1) h
  else
    (isO h 5 a0).bind fun _ =>
    (f_Realm_votesOf a0 x4 h).bind fun p1 =>
    if x2 < (2 * p1.1) then
      k12 a0 x1 x2 x3 (x4 + 1) p1.2
    else
      (isO p1.2 5 a0).bind fun _ =>
      (f_Realm_votesOf a0 (x4 ||| (jshl 1 x1)) p1.2).bind fun p3 =>
      if (2 * p3.1) ≤ x2 then
        k12 a0 x1 x2 x3 (x4 + 1) p3.2
      else
        k12 a0 x1 x2 (x3 + 1) (x4 + 1) p3.2
theorem t_Realm_weighsOf_33 {d : Nat} (hd : 1 ≤ d) {k12 : Nat → Int32 → Int32 → Int32 → Int32 → PH → Option (Int32 × PH)} (hk12 : ∀ (a0 : Nat) (x1 : Int32) (x2 : Int32) (x3 : Int32) (x4 : Int32) (h : PH) (r : Int32 × PH), k12 a0 x1 x2 x3 x4 h = some r → E d 0 0 m_Realm_weighsOf 12 [(0, .ref a0), (1, .int x1), (2, .int x2), (3, .int x3), (4, .int x4)] [] h (PI r)) {a0 : Nat} {x1 : Int32} {x2 : Int32} {x3 : Int32} {x4 : Int32} {s0 : Int32} {h : PH} {r : Int32 × PH} (hq : f_Realm_weighsOf_33 k12 a0 x1 x2 x3 x4 s0 h = some r) : E d 0 0 m_Realm_weighsOf 33 [(0, .ref a0), (1, .int x1), (2, .int x2), (3, .int x3), (4, .int x4)] [.int s0] h (PI r) := by
  unfold f_Realm_weighsOf_33 at hq
  obtain ⟨d, rfl⟩ : ∃ e, d = e + 1 := ⟨d - 1, by omega⟩
  refine E_is (ls' := [(5, .int s0), (0, .ref a0), (1, .int x1), (2, .int x2), (3, .int x3), (4, .int x4)]) d_Realm_weighsOf_33 (Nat.le_of_ble_eq_true rfl) rfl ?_
  refine E_il 0 d_Realm_weighsOf_35 rfl ?_
  refine E_zeq (tgt := 71) d_Realm_weighsOf_37 (by decide) (fun c => ?_) (fun c => ?_)
  · rw [if_pos c] at hq
    refine E_inc (v := 1) (ls' := [(4, .int (x4 + 1)), (5, .int s0), (0, .ref a0), (1, .int x1), (2, .int x2), (3, .int x3)]) 5 d_Realm_weighsOf_71 rfl (Nat.le_of_ble_eq_true rfl) (by decide) rfl ?_
    refine E_goto (tgt := 12) d_Realm_weighsOf_74 (by decide) ?_
    exact E_sub (ks := [2, 3, 4, 5, 0]) rfl <| hk12 _ _ _ _ _ _ _ hq
  · rw [if_neg c] at hq
    refine E_ic (v := 2) d_Realm_weighsOf_40 (by decide) ?_
    refine E_aln 1 d_Realm_weighsOf_41 rfl rfl ?_
    refine E_il 5 d_Realm_weighsOf_42 rfl ?_
    obtain ⟨q2, eq2, hq⟩ := bd hq
    obtain ⟨p1, ep1, hq⟩ := bd hq
    refine E_cV1I d_Realm_weighsOf_44 ck_Realm_112 rfl rfl eq2 (Nat.le_of_ble_eq_true rfl) (Nat.le_of_ble_eq_true rfl) (t_Realm_votesOf (by omega) ep1) ?_
    refine E_imul d_Realm_weighsOf_47 ?_
    refine E_iln 3 d_Realm_weighsOf_48 rfl rfl ?_
    refine E_jgt (tgt := 71) d_Realm_weighsOf_49 (by decide) (fun c => ?_) (fun c => ?_)
    · rw [if_pos c] at hq
      refine E_inc (v := 1) (ls' := [(4, .int (x4 + 1)), (5, .int s0), (0, .ref a0), (1, .int x1), (2, .int x2), (3, .int x3)]) 5 d_Realm_weighsOf_71 rfl (Nat.le_of_ble_eq_true rfl) (by decide) rfl ?_
      refine E_goto (tgt := 12) d_Realm_weighsOf_74 (by decide) ?_
      exact E_sub (ks := [2, 3, 4, 5, 0]) rfl <| hk12 _ _ _ _ _ _ _ hq
    · rw [if_neg c] at hq
      refine E_ic (v := 2) d_Realm_weighsOf_52 (by decide) ?_
      refine E_aln 1 d_Realm_weighsOf_53 rfl rfl ?_
      refine E_il 5 d_Realm_weighsOf_54 rfl ?_
      refine E_ic (v := 1) d_Realm_weighsOf_56 (by decide) ?_
      refine E_iln 2 d_Realm_weighsOf_57 rfl rfl ?_
      refine E_ishl d_Realm_weighsOf_58 ?_
      refine E_ior d_Realm_weighsOf_59 ?_
      obtain ⟨q4, eq4, hq⟩ := bd hq
      obtain ⟨p3, ep3, hq⟩ := bd hq
      refine E_cV1I d_Realm_weighsOf_60 ck_Realm_112 rfl rfl eq4 (Nat.le_of_ble_eq_true rfl) (Nat.le_of_ble_eq_true rfl) (t_Realm_votesOf (by omega) ep3) ?_
      refine E_imul d_Realm_weighsOf_63 ?_
      refine E_iln 3 d_Realm_weighsOf_64 rfl rfl ?_
      refine E_jle (tgt := 71) d_Realm_weighsOf_65 (by decide) (fun c => ?_) (fun c => ?_)
      · rw [if_pos c] at hq
        refine E_inc (v := 1) (ls' := [(4, .int (x4 + 1)), (5, .int s0), (0, .ref a0), (1, .int x1), (2, .int x2), (3, .int x3)]) 5 d_Realm_weighsOf_71 rfl (Nat.le_of_ble_eq_true rfl) (by decide) rfl ?_
        refine E_goto (tgt := 12) d_Realm_weighsOf_74 (by decide) ?_
        exact E_sub (ks := [2, 3, 4, 5, 0]) rfl <| hk12 _ _ _ _ _ _ _ hq
      · rw [if_neg c] at hq
        refine E_inc (v := 1) (ls' := [(3, .int (x3 + 1)), (5, .int s0), (0, .ref a0), (1, .int x1), (2, .int x2), (4, .int x4)]) 4 d_Realm_weighsOf_68 rfl (Nat.le_of_ble_eq_true rfl) (by decide) rfl ?_
        refine E_inc (v := 1) (ls' := [(4, .int (x4 + 1)), (3, .int (x3 + 1)), (5, .int s0), (0, .ref a0), (1, .int x1), (2, .int x2)]) 5 d_Realm_weighsOf_71 rfl (Nat.le_of_ble_eq_true rfl) (by decide) rfl ?_
        refine E_goto (tgt := 12) d_Realm_weighsOf_74 (by decide) ?_
        exact E_sub (ks := [3, 4, 5, 1, 0]) rfl <| hk12 _ _ _ _ _ _ _ hq
def f_Realm_weighsOf_12 : Nat → Nat → Int32 → Int32 → Int32 → Int32 → PH → Option (Int32 × PH)
  | 0, _, _, _, _, _, _ => none
  | n + 1, a0, x1, x2, x3, x4, h =>
    if 16 ≤ x4 then
      some (x3, h)
    else
      if ((jshr x4 x1) &&& 1) = 0 then
        f_Realm_weighsOf_33 (fun a0 x1 x2 x3 x4 h => f_Realm_weighsOf_12 n a0 x1 x2 x3 x4 h) a0 x1 x2 x3 x4 1 h
      else
        f_Realm_weighsOf_33 (fun a0 x1 x2 x3 x4 h => f_Realm_weighsOf_12 n a0 x1 x2 x3 x4 h) a0 x1 x2 x3 x4 0 h
theorem t_Realm_weighsOf_12 {d : Nat} (hd : 1 ≤ d) : ∀ (n : Nat) (a0 : Nat) (x1 : Int32) (x2 : Int32) (x3 : Int32) (x4 : Int32) (h : PH) (r : Int32 × PH), f_Realm_weighsOf_12 n a0 x1 x2 x3 x4 h = some r → E d 0 0 m_Realm_weighsOf 12 [(0, .ref a0), (1, .int x1), (2, .int x2), (3, .int x3), (4, .int x4)] [] h (PI r) := by
  intro n
  induction n with
  | zero => intro a0 x1 x2 x3 x4 h r hq; rw [f_Realm_weighsOf_12] at hq; cases hq
  | succ n ih =>
    intro a0 x1 x2 x3 x4 h r hq
    rw [f_Realm_weighsOf_12] at hq
    obtain ⟨d, rfl⟩ : ∃ e, d = e + 1 := ⟨d - 1, by omega⟩
    refine E_il 4 d_Realm_weighsOf_12 rfl ?_
    refine E_bi (v := 16) d_Realm_weighsOf_14 (by decide) ?_
    refine E_jge (tgt := 77) d_Realm_weighsOf_16 (by decide) (fun c => ?_) (fun c => ?_)
    · rw [if_pos c] at hq
      refine E_iln 3 d_Realm_weighsOf_77 rfl rfl ?_
      exact E_rI d_Realm_weighsOf_78 rfl hq
    · rw [if_neg c] at hq
      refine E_il 4 d_Realm_weighsOf_19 rfl ?_
      refine E_iln 1 d_Realm_weighsOf_21 rfl rfl ?_
      refine E_ishr d_Realm_weighsOf_22 ?_
      refine E_ic (v := 1) d_Realm_weighsOf_23 (by decide) ?_
      refine E_iand d_Realm_weighsOf_24 ?_
      refine E_zne (tgt := 32) d_Realm_weighsOf_25 (by decide) (fun c => ?_) (fun c => ?_)
      · rw [if_neg c] at hq
        refine E_ic (v := 0) d_Realm_weighsOf_32 (by decide) ?_
        exact t_Realm_weighsOf_33 (by omega) ih hq
      · rw [if_pos c] at hq
        refine E_ic (v := 1) d_Realm_weighsOf_28 (by decide) ?_
        refine E_goto (tgt := 33) d_Realm_weighsOf_29 (by decide) ?_
        exact t_Realm_weighsOf_33 (by omega) ih hq
def f_Realm_weighsOf (a0 : Nat) (x1 : Int32) (h : PH) : Option (Int32 × PH) :=
  (isO h 5 a0).bind fun _ =>
  (f_Realm_votesOf a0 15 h).bind fun p1 =>
  f_Realm_weighsOf_12 FU a0 x1 p1.1 0 0 p1.2
theorem t_Realm_weighsOf {d : Nat} (hd : 1 ≤ d) {a0 : Nat} {x1 : Int32} {h : PH} {r : Int32 × PH} (hq : f_Realm_weighsOf a0 x1 h = some r) : E d 0 0 m_Realm_weighsOf 0 [(0, .ref a0), (1, .int x1)] [] h (PI r) := by
  unfold f_Realm_weighsOf at hq
  obtain ⟨d, rfl⟩ : ∃ e, d = e + 1 := ⟨d - 1, by omega⟩
  refine E_aln 0 d_Realm_weighsOf_0 rfl rfl ?_
  refine E_bi (v := 15) d_Realm_weighsOf_1 (by decide) ?_
  obtain ⟨q2, eq2, hq⟩ := bd hq
  obtain ⟨p1, ep1, hq⟩ := bd hq
  refine E_cV1I d_Realm_weighsOf_3 ck_Realm_112 rfl rfl eq2 (Nat.le_of_ble_eq_true rfl) (Nat.le_of_ble_eq_true rfl) (t_Realm_votesOf (by omega) ep1) ?_
  refine E_isn (ls' := [(2, .int p1.1), (0, .ref a0), (1, .int x1)]) d_Realm_weighsOf_6 (Nat.le_of_ble_eq_true rfl) rfl ?_
  refine E_ic (v := 0) d_Realm_weighsOf_7 (by decide) ?_
  refine E_isn (ls' := [(3, .int 0), (2, .int p1.1), (0, .ref a0), (1, .int x1)]) d_Realm_weighsOf_8 (Nat.le_of_ble_eq_true rfl) rfl ?_
  refine E_ic (v := 0) d_Realm_weighsOf_9 (by decide) ?_
  refine E_is (ls' := [(4, .int 0), (3, .int 0), (2, .int p1.1), (0, .ref a0), (1, .int x1)]) d_Realm_weighsOf_10 (Nat.le_of_ble_eq_true rfl) rfl ?_
  exact E_sub (ks := [3, 4, 2, 1, 0]) rfl <| t_Realm_weighsOf_12 (by omega) _ _ _ _ _ _ _ _ hq
def f_Tc_votes (a0 : Nat) (x1 : Int32) (x2 : Int32) (h : PH) : Option (Int32 × PH) :=
  (f_Tc_within x1 3 h).bind fun p1 =>
  if p1.1 = 0 then
    some ((-1), p1.2)
  else
    (f_Tc_within x2 1 p1.2).bind fun p2 =>
    if p2.1 = 0 then
      some ((-1), p2.2)
    else
      if x2 = 0 then
        (ldR p2.2 8 a0 0).bind fun v7 =>
        (ldR p2.2 1 v7 0).bind fun v8 =>
        (isO p2.2 5 v8).bind fun _ =>
        (f_Realm_votesOf v8 (jshl 1 x1) p2.2).bind fun p9 =>
        some (p9.1, p9.2)
      else
        (ldR p2.2 8 a0 0).bind fun v3 =>
        (ldR p2.2 1 v3 0).bind fun v4 =>
        (isO p2.2 5 v4).bind fun _ =>
        (f_Realm_weighsOf v4 x1 p2.2).bind fun p5 =>
        some (p5.1, p5.2)
theorem t_Tc_votes {d : Nat} (hd : 2 ≤ d) {a0 : Nat} {x1 : Int32} {x2 : Int32} {h : PH} {r : Int32 × PH} (hq : f_Tc_votes a0 x1 x2 h = some r) : E d 0 0 m_Tc_votes 0 [(0, .ref a0), (1, .int x1), (2, .int x2)] [] h (PI r) := by
  unfold f_Tc_votes at hq
  obtain ⟨d, rfl⟩ : ∃ e, d = e + 1 := ⟨d - 1, by omega⟩
  refine E_iln 1 d_Tc_votes_0 rfl rfl ?_
  refine E_ic (v := 3) d_Tc_votes_1 (by decide) ?_
  obtain ⟨p1, ep1, hq⟩ := bd hq
  refine E_cS2I d_Tc_votes_2 ck_Tc_57 (Nat.le_of_ble_eq_true rfl) (Nat.le_of_ble_eq_true rfl) (t_Tc_within (by omega) ep1) ?_
  refine E_zeq (tgt := 16) d_Tc_votes_5 (by decide) (fun c => ?_) (fun c => ?_)
  · rw [if_pos c] at hq
    refine E_ic (v := (-1)) d_Tc_votes_16 (by decide) ?_
    exact E_rI d_Tc_votes_17 rfl hq
  · rw [if_neg c] at hq
    refine E_iln 2 d_Tc_votes_8 rfl rfl ?_
    refine E_ic (v := 1) d_Tc_votes_9 (by decide) ?_
    obtain ⟨p2, ep2, hq⟩ := bd hq
    refine E_cS2I d_Tc_votes_10 ck_Tc_57 (Nat.le_of_ble_eq_true rfl) (Nat.le_of_ble_eq_true rfl) (t_Tc_within (by omega) ep2) ?_
    refine E_zne (tgt := 18) d_Tc_votes_13 (by decide) (fun c => ?_) (fun c => ?_)
    · rw [if_neg c] at hq
      refine E_iln 2 d_Tc_votes_18 rfl rfl ?_
      refine E_zne (tgt := 38) d_Tc_votes_19 (by decide) (fun c => ?_) (fun c => ?_)
      · rw [if_neg c] at hq
        refine E_aln 0 d_Tc_votes_38 rfl rfl ?_
        obtain ⟨v3, ev3, hq⟩ := bd hq
        refine E_gR d_Tc_votes_39 lk_Tc_10 rfl ev3 ?_
        obtain ⟨v4, ev4, hq⟩ := bd hq
        refine E_gR d_Tc_votes_42 lk_Tc_47 rfl ev4 ?_
        refine E_iln 1 d_Tc_votes_45 rfl rfl ?_
        obtain ⟨q6, eq6, hq⟩ := bd hq
        obtain ⟨p5, ep5, hq⟩ := bd hq
        refine E_cV1I d_Tc_votes_46 ck_Tc_330 rfl rfl eq6 (Nat.le_of_ble_eq_true rfl) (Nat.le_of_ble_eq_true rfl) (t_Realm_weighsOf (by omega) ep5) ?_
        exact E_rI d_Tc_votes_49 rfl hq
      · rw [if_pos c] at hq
        refine E_aln 0 d_Tc_votes_22 rfl rfl ?_
        obtain ⟨v7, ev7, hq⟩ := bd hq
        refine E_gR d_Tc_votes_23 lk_Tc_10 rfl ev7 ?_
        obtain ⟨v8, ev8, hq⟩ := bd hq
        refine E_gR d_Tc_votes_26 lk_Tc_47 rfl ev8 ?_
        refine E_ic (v := 1) d_Tc_votes_29 (by decide) ?_
        refine E_iln 1 d_Tc_votes_30 rfl rfl ?_
        refine E_ishl d_Tc_votes_31 ?_
        obtain ⟨q10, eq10, hq⟩ := bd hq
        obtain ⟨p9, ep9, hq⟩ := bd hq
        refine E_cV1I d_Tc_votes_32 ck_Tc_327 rfl rfl eq10 (Nat.le_of_ble_eq_true rfl) (Nat.le_of_ble_eq_true rfl) (t_Realm_votesOf (by omega) ep9) ?_
        refine E_goto (tgt := 49) d_Tc_votes_35 (by decide) ?_
        exact E_rI d_Tc_votes_49 rfl hq
    · rw [if_pos c] at hq
      refine E_ic (v := (-1)) d_Tc_votes_16 (by decide) ?_
      exact E_rI d_Tc_votes_17 rfl hq
def f_Realm_heap (a0 : Nat) (x1 : Int32) (x2 : Int32) (h : PH) : Option (Int32 × PH) :=
  (ldR h 5 a0 13).bind fun v1 =>
  (rdA h v1 x1).bind fun v2 =>
  (ldR h 5 a0 12).bind fun v3 =>
  (rdA h v3 x1).bind fun v4 =>
  (rmI (v2 - x2) (v4 + 2)).bind fun v5 =>
  some (v5, h)
theorem t_Realm_heap {d : Nat} (hd : 0 ≤ d) {a0 : Nat} {x1 : Int32} {x2 : Int32} {h : PH} {r : Int32 × PH} (hq : f_Realm_heap a0 x1 x2 h = some r) : E d 0 0 m_Realm_heap 0 [(0, .ref a0), (1, .int x1), (2, .int x2)] [] h (PI r) := by
  unfold f_Realm_heap at hq
  refine E_aln 0 d_Realm_heap_0 rfl rfl ?_
  obtain ⟨v1, ev1, hq⟩ := bd hq
  refine E_gR d_Realm_heap_1 lk_Realm_52 rfl ev1 ?_
  refine E_iln 1 d_Realm_heap_4 rfl rfl ?_
  obtain ⟨v2, ev2, hq⟩ := bd hq
  refine E_ra d_Realm_heap_5 ev2 ?_
  refine E_iln 2 d_Realm_heap_6 rfl rfl ?_
  refine E_isub d_Realm_heap_7 ?_
  refine E_aln 0 d_Realm_heap_8 rfl rfl ?_
  obtain ⟨v3, ev3, hq⟩ := bd hq
  refine E_gR d_Realm_heap_9 lk_Realm_49 rfl ev3 ?_
  refine E_iln 1 d_Realm_heap_12 rfl rfl ?_
  obtain ⟨v4, ev4, hq⟩ := bd hq
  refine E_ra d_Realm_heap_13 ev4 ?_
  refine E_ic (v := 2) d_Realm_heap_14 (by decide) ?_
  refine E_iadd d_Realm_heap_15 ?_
  obtain ⟨v5, ev5, hq⟩ := bd hq
  refine E_rm d_Realm_heap_16 ev5 ?_
  exact E_rI d_Realm_heap_17 rfl hq
def f_Realm_fewestJokes_48 : Nat → Nat → Int32 → Int32 → Int32 → PH → Option (Int32 × PH)
  | 0, _, _, _, _, _ => none
  | n + 1, a0, x1, x2, x3, h =>
    (ldR h 5 a0 12).bind fun v1 =>
    (rdA h v1 x1).bind fun v2 =>
    if (v2 + 1) < x3 then
      some ((-1), h)
    else
      (ldR h 5 a0 13).bind fun v3 =>
      (rdA h v3 x1).bind fun v4 =>
      if v4 < x3 then
        some ((-1), h)
      else
        (isO h 5 a0).bind fun _ =>
        (f_Realm_heap a0 x1 x3 h).bind fun p5 =>
        if p5.1 = x2 then
          some (x3, p5.2)
        else
          f_Realm_fewestJokes_48 n a0 x1 x2 (x3 + 1) p5.2
theorem t_Realm_fewestJokes_48 {d : Nat} (hd : 1 ≤ d) : ∀ (n : Nat) (a0 : Nat) (x1 : Int32) (x2 : Int32) (x3 : Int32) (h : PH) (r : Int32 × PH), f_Realm_fewestJokes_48 n a0 x1 x2 x3 h = some r → E d 0 0 m_Realm_fewestJokes 48 [(0, .ref a0), (1, .int x1), (2, .int x2), (3, .int x3)] [] h (PI r) := by
  intro n
  induction n with
  | zero => intro a0 x1 x2 x3 h r hq; rw [f_Realm_fewestJokes_48] at hq; cases hq
  | succ n ih =>
    intro a0 x1 x2 x3 h r hq
    rw [f_Realm_fewestJokes_48] at hq
    obtain ⟨d, rfl⟩ : ∃ e, d = e + 1 := ⟨d - 1, by omega⟩
    refine E_iln 3 d_Realm_fewestJokes_48 rfl rfl ?_
    refine E_aln 0 d_Realm_fewestJokes_49 rfl rfl ?_
    obtain ⟨v1, ev1, hq⟩ := bd hq
    refine E_gR d_Realm_fewestJokes_50 lk_Realm_49 rfl ev1 ?_
    refine E_iln 1 d_Realm_fewestJokes_53 rfl rfl ?_
    obtain ⟨v2, ev2, hq⟩ := bd hq
    refine E_ra d_Realm_fewestJokes_54 ev2 ?_
    refine E_ic (v := 1) d_Realm_fewestJokes_55 (by decide) ?_
    refine E_iadd d_Realm_fewestJokes_56 ?_
    refine E_jgt (tgt := 88) d_Realm_fewestJokes_57 (by decide) (fun c => ?_) (fun c => ?_)
    · rw [if_pos c] at hq
      refine E_ic (v := (-1)) d_Realm_fewestJokes_88 (by decide) ?_
      exact E_rI d_Realm_fewestJokes_89 rfl hq
    · rw [if_neg c] at hq
      refine E_iln 3 d_Realm_fewestJokes_60 rfl rfl ?_
      refine E_aln 0 d_Realm_fewestJokes_61 rfl rfl ?_
      obtain ⟨v3, ev3, hq⟩ := bd hq
      refine E_gR d_Realm_fewestJokes_62 lk_Realm_52 rfl ev3 ?_
      refine E_iln 1 d_Realm_fewestJokes_65 rfl rfl ?_
      obtain ⟨v4, ev4, hq⟩ := bd hq
      refine E_ra d_Realm_fewestJokes_66 ev4 ?_
      refine E_jgt (tgt := 88) d_Realm_fewestJokes_67 (by decide) (fun c => ?_) (fun c => ?_)
      · rw [if_pos c] at hq
        refine E_ic (v := (-1)) d_Realm_fewestJokes_88 (by decide) ?_
        exact E_rI d_Realm_fewestJokes_89 rfl hq
      · rw [if_neg c] at hq
        refine E_aln 0 d_Realm_fewestJokes_70 rfl rfl ?_
        refine E_iln 1 d_Realm_fewestJokes_71 rfl rfl ?_
        refine E_iln 3 d_Realm_fewestJokes_72 rfl rfl ?_
        obtain ⟨q6, eq6, hq⟩ := bd hq
        obtain ⟨p5, ep5, hq⟩ := bd hq
        refine E_cV2I d_Realm_fewestJokes_73 ck_Realm_118 rfl rfl eq6 (Nat.le_of_ble_eq_true rfl) (Nat.le_of_ble_eq_true rfl) (t_Realm_heap (by omega) ep5) ?_
        refine E_iln 2 d_Realm_fewestJokes_76 rfl rfl ?_
        refine E_jne (tgt := 82) d_Realm_fewestJokes_77 (by decide) (fun c => ?_) (fun c => ?_)
        · rw [if_neg c] at hq
          refine E_inc (v := 1) (ls' := [(3, .int (x3 + 1)), (0, .ref a0), (1, .int x1), (2, .int x2)]) 3 d_Realm_fewestJokes_82 rfl (Nat.le_of_ble_eq_true rfl) (by decide) rfl ?_
          refine E_goto (tgt := 48) d_Realm_fewestJokes_85 (by decide) ?_
          exact E_sub (ks := [1, 2, 3, 0]) rfl <| ih _ _ _ _ _ _ hq
        · rw [if_pos c] at hq
          refine E_iln 3 d_Realm_fewestJokes_80 rfl rfl ?_
          exact E_rI d_Realm_fewestJokes_81 rfl hq
def f_Realm_fewestJokes_38 (k14 : Nat → Int32 → Int32 → Int32 → PH → Option (Int32 × PH)) (a0 : Nat) (x1 : Int32) (x3 : Int32) (s0 : Int32) (s1 : Int32) (h : PH) : Option (Int32 × PH) :=
  k14 a0 x1 (s1 ^^^ s0) (x3 + 1) h
theorem t_Realm_fewestJokes_38 {d : Nat} (hd : 1 ≤ d) {k14 : Nat → Int32 → Int32 → Int32 → PH → Option (Int32 × PH)} (hk14 : ∀ (a0 : Nat) (x1 : Int32) (x2 : Int32) (x3 : Int32) (h : PH) (r : Int32 × PH), k14 a0 x1 x2 x3 h = some r → E d 0 0 m_Realm_fewestJokes 14 [(0, .ref a0), (1, .int x1), (2, .int x2), (3, .int x3)] [] h (PI r)) {a0 : Nat} {x1 : Int32} {x3 : Int32} {s0 : Int32} {s1 : Int32} {h : PH} {r : Int32 × PH} (hq : f_Realm_fewestJokes_38 k14 a0 x1 x3 s0 s1 h = some r) : E d 0 0 m_Realm_fewestJokes 38 [(0, .ref a0), (1, .int x1), (3, .int x3)] [.int s0, .int s1] h (PI r) := by
  unfold f_Realm_fewestJokes_38 at hq
  obtain ⟨d, rfl⟩ : ∃ e, d = e + 1 := ⟨d - 1, by omega⟩
  refine E_ixor d_Realm_fewestJokes_38 ?_
  refine E_isn (ls' := [(2, .int (s1 ^^^ s0)), (0, .ref a0), (1, .int x1), (3, .int x3)]) d_Realm_fewestJokes_39 (Nat.le_of_ble_eq_true rfl) rfl ?_
  refine E_inc (v := 1) (ls' := [(3, .int (x3 + 1)), (2, .int (s1 ^^^ s0)), (0, .ref a0), (1, .int x1)]) 3 d_Realm_fewestJokes_40 rfl (Nat.le_of_ble_eq_true rfl) (by decide) rfl ?_
  refine E_goto (tgt := 14) d_Realm_fewestJokes_43 (by decide) ?_
  exact E_sub (ks := [2, 3, 1, 0]) rfl <| hk14 _ _ _ _ _ _ hq
def f_Realm_fewestJokes_14 : Nat → Nat → Int32 → Int32 → Int32 → PH → Option (Int32 × PH)
  | 0, _, _, _, _, _ => none
  | n + 1, a0, x1, x2, x3, h =>
    (ldI h 5 a0 9).bind fun v1 =>
    if v1 ≤ x3 then
      f_Realm_fewestJokes_48 FU a0 x1 x2 1 h
    else
      if x3 = x1 then
        f_Realm_fewestJokes_38 (fun a0 x1 x2 x3 h => f_Realm_fewestJokes_14 n a0 x1 x2 x3 h) a0 x1 x3 0 x2 h
      else
        (isO h 5 a0).bind fun _ =>
        (f_Realm_heap a0 x3 0 h).bind fun p2 =>
        f_Realm_fewestJokes_38 (fun a0 x1 x2 x3 h => f_Realm_fewestJokes_14 n a0 x1 x2 x3 h) a0 x1 x3 p2.1 x2 p2.2
theorem t_Realm_fewestJokes_14 {d : Nat} (hd : 1 ≤ d) : ∀ (n : Nat) (a0 : Nat) (x1 : Int32) (x2 : Int32) (x3 : Int32) (h : PH) (r : Int32 × PH), f_Realm_fewestJokes_14 n a0 x1 x2 x3 h = some r → E d 0 0 m_Realm_fewestJokes 14 [(0, .ref a0), (1, .int x1), (2, .int x2), (3, .int x3)] [] h (PI r) := by
  intro n
  induction n with
  | zero => intro a0 x1 x2 x3 h r hq; rw [f_Realm_fewestJokes_14] at hq; cases hq
  | succ n ih =>
    intro a0 x1 x2 x3 h r hq
    rw [f_Realm_fewestJokes_14] at hq
    obtain ⟨d, rfl⟩ : ∃ e, d = e + 1 := ⟨d - 1, by omega⟩
    refine E_iln 3 d_Realm_fewestJokes_14 rfl rfl ?_
    refine E_aln 0 d_Realm_fewestJokes_15 rfl rfl ?_
    obtain ⟨v1, ev1, hq⟩ := bd hq
    refine E_gI d_Realm_fewestJokes_16 lk_Realm_40 rfl ev1 ?_
    refine E_jge (tgt := 46) d_Realm_fewestJokes_19 (by decide) (fun c => ?_) (fun c => ?_)
    · rw [if_pos c] at hq
      refine E_ic (v := 1) d_Realm_fewestJokes_46 (by decide) ?_
      refine E_isn (ls' := [(3, .int 1), (0, .ref a0), (1, .int x1), (2, .int x2)]) d_Realm_fewestJokes_47 (Nat.le_of_ble_eq_true rfl) rfl ?_
      exact E_sub (ks := [1, 2, 3, 0]) rfl <| t_Realm_fewestJokes_48 (by omega) _ _ _ _ _ _ _ hq
    · rw [if_neg c] at hq
      refine E_iln 2 d_Realm_fewestJokes_22 rfl rfl ?_
      refine E_iln 3 d_Realm_fewestJokes_23 rfl rfl ?_
      refine E_iln 1 d_Realm_fewestJokes_24 rfl rfl ?_
      refine E_jne (tgt := 32) d_Realm_fewestJokes_25 (by decide) (fun c => ?_) (fun c => ?_)
      · rw [if_neg c] at hq
        refine E_aln 0 d_Realm_fewestJokes_32 rfl rfl ?_
        refine E_iln 3 d_Realm_fewestJokes_33 rfl rfl ?_
        refine E_ic (v := 0) d_Realm_fewestJokes_34 (by decide) ?_
        obtain ⟨q3, eq3, hq⟩ := bd hq
        obtain ⟨p2, ep2, hq⟩ := bd hq
        refine E_cV2I d_Realm_fewestJokes_35 ck_Realm_118 rfl rfl eq3 (Nat.le_of_ble_eq_true rfl) (Nat.le_of_ble_eq_true rfl) (t_Realm_heap (by omega) ep2) ?_
        exact E_sub (ks := [0, 1, 3]) rfl <| t_Realm_fewestJokes_38 (by omega) ih hq
      · rw [if_pos c] at hq
        refine E_ic (v := 0) d_Realm_fewestJokes_28 (by decide) ?_
        refine E_goto (tgt := 38) d_Realm_fewestJokes_29 (by decide) ?_
        exact E_sub (ks := [0, 1, 3]) rfl <| t_Realm_fewestJokes_38 (by omega) ih hq
def f_Realm_fewestJokes (a0 : Nat) (x1 : Int32) (h : PH) : Option (Int32 × PH) :=
  (isO h 5 a0).bind fun _ =>
  (f_Realm_isOfficer a0 x1 h).bind fun p1 =>
  if p1.1 = 0 then
    some ((-1), p1.2)
  else
    f_Realm_fewestJokes_14 FU a0 x1 0 0 p1.2
theorem t_Realm_fewestJokes {d : Nat} (hd : 1 ≤ d) {a0 : Nat} {x1 : Int32} {h : PH} {r : Int32 × PH} (hq : f_Realm_fewestJokes a0 x1 h = some r) : E d 0 0 m_Realm_fewestJokes 0 [(0, .ref a0), (1, .int x1)] [] h (PI r) := by
  unfold f_Realm_fewestJokes at hq
  obtain ⟨d, rfl⟩ : ∃ e, d = e + 1 := ⟨d - 1, by omega⟩
  refine E_aln 0 d_Realm_fewestJokes_0 rfl rfl ?_
  refine E_iln 1 d_Realm_fewestJokes_1 rfl rfl ?_
  obtain ⟨q2, eq2, hq⟩ := bd hq
  obtain ⟨p1, ep1, hq⟩ := bd hq
  refine E_cV1I d_Realm_fewestJokes_2 ck_Realm_87 rfl rfl eq2 (Nat.le_of_ble_eq_true rfl) (Nat.le_of_ble_eq_true rfl) (t_Realm_isOfficer (by omega) ep1) ?_
  refine E_zne (tgt := 10) d_Realm_fewestJokes_5 (by decide) (fun c => ?_) (fun c => ?_)
  · rw [if_neg c] at hq
    refine E_ic (v := 0) d_Realm_fewestJokes_10 (by decide) ?_
    refine E_isn (ls' := [(2, .int 0), (0, .ref a0), (1, .int x1)]) d_Realm_fewestJokes_11 (Nat.le_of_ble_eq_true rfl) rfl ?_
    refine E_ic (v := 0) d_Realm_fewestJokes_12 (by decide) ?_
    refine E_isn (ls' := [(3, .int 0), (2, .int 0), (0, .ref a0), (1, .int x1)]) d_Realm_fewestJokes_13 (Nat.le_of_ble_eq_true rfl) rfl ?_
    exact E_sub (ks := [2, 3, 1, 0]) rfl <| t_Realm_fewestJokes_14 (by omega) _ _ _ _ _ _ _ hq
  · rw [if_pos c] at hq
    refine E_ic (v := (-1)) d_Realm_fewestJokes_8 (by decide) ?_
    exact E_rI d_Realm_fewestJokes_9 rfl hq
def f_Realm_gameOfficer_2 : Nat → Nat → Int32 → PH → Option (Int32 × PH)
  | 0, _, _, _ => none
  | n + 1, a0, x1, h =>
    (ldI h 5 a0 9).bind fun v1 =>
    if v1 ≤ x1 then
      some ((-1), h)
    else
      (isO h 5 a0).bind fun _ =>
      (f_Realm_fewestJokes a0 x1 h).bind fun p2 =>
      if p2.1 = (-1) then
        f_Realm_gameOfficer_2 n a0 (x1 + 1) p2.2
      else
        some (x1, p2.2)
theorem t_Realm_gameOfficer_2 {d : Nat} (hd : 2 ≤ d) : ∀ (n : Nat) (a0 : Nat) (x1 : Int32) (h : PH) (r : Int32 × PH), f_Realm_gameOfficer_2 n a0 x1 h = some r → E d 0 0 m_Realm_gameOfficer 2 [(0, .ref a0), (1, .int x1)] [] h (PI r) := by
  intro n
  induction n with
  | zero => intro a0 x1 h r hq; rw [f_Realm_gameOfficer_2] at hq; cases hq
  | succ n ih =>
    intro a0 x1 h r hq
    rw [f_Realm_gameOfficer_2] at hq
    obtain ⟨d, rfl⟩ : ∃ e, d = e + 1 := ⟨d - 1, by omega⟩
    refine E_iln 1 d_Realm_gameOfficer_2 rfl rfl ?_
    refine E_aln 0 d_Realm_gameOfficer_3 rfl rfl ?_
    obtain ⟨v1, ev1, hq⟩ := bd hq
    refine E_gI d_Realm_gameOfficer_4 lk_Realm_40 rfl ev1 ?_
    refine E_jge (tgt := 27) d_Realm_gameOfficer_7 (by decide) (fun c => ?_) (fun c => ?_)
    · rw [if_pos c] at hq
      refine E_ic (v := (-1)) d_Realm_gameOfficer_27 (by decide) ?_
      exact E_rI d_Realm_gameOfficer_28 rfl hq
    · rw [if_neg c] at hq
      refine E_aln 0 d_Realm_gameOfficer_10 rfl rfl ?_
      refine E_iln 1 d_Realm_gameOfficer_11 rfl rfl ?_
      obtain ⟨q3, eq3, hq⟩ := bd hq
      obtain ⟨p2, ep2, hq⟩ := bd hq
      refine E_cV1I d_Realm_gameOfficer_12 ck_Realm_115 rfl rfl eq3 (Nat.le_of_ble_eq_true rfl) (Nat.le_of_ble_eq_true rfl) (t_Realm_fewestJokes (by omega) ep2) ?_
      refine E_ic (v := (-1)) d_Realm_gameOfficer_15 (by decide) ?_
      refine E_jeq (tgt := 21) d_Realm_gameOfficer_16 (by decide) (fun c => ?_) (fun c => ?_)
      · rw [if_pos c] at hq
        refine E_inc (v := 1) (ls' := [(1, .int (x1 + 1)), (0, .ref a0)]) 1 d_Realm_gameOfficer_21 rfl (Nat.le_of_ble_eq_true rfl) (by decide) rfl ?_
        refine E_goto (tgt := 2) d_Realm_gameOfficer_24 (by decide) ?_
        exact E_sub (ks := [1, 0]) rfl <| ih _ _ _ _ hq
      · rw [if_neg c] at hq
        refine E_iln 1 d_Realm_gameOfficer_19 rfl rfl ?_
        exact E_rI d_Realm_gameOfficer_20 rfl hq
def f_Realm_gameOfficer (a0 : Nat) (h : PH) : Option (Int32 × PH) :=
  f_Realm_gameOfficer_2 FU a0 0 h
theorem t_Realm_gameOfficer {d : Nat} (hd : 2 ≤ d) {a0 : Nat} {h : PH} {r : Int32 × PH} (hq : f_Realm_gameOfficer a0 h = some r) : E d 0 0 m_Realm_gameOfficer 0 [(0, .ref a0)] [] h (PI r) := by
  unfold f_Realm_gameOfficer at hq
  obtain ⟨d, rfl⟩ : ∃ e, d = e + 1 := ⟨d - 1, by omega⟩
  refine E_ic (v := 0) d_Realm_gameOfficer_0 (by decide) ?_
  refine E_isn (ls' := [(1, .int 0), (0, .ref a0)]) d_Realm_gameOfficer_1 (Nat.le_of_ble_eq_true rfl) rfl ?_
  exact E_sub (ks := [1, 0]) rfl <| t_Realm_gameOfficer_2 (by omega) _ _ _ _ _ hq
def f_Tc_game_30 (x2 : Int32) (h : PH) : Option (Int32 × PH) :=
  some (x2, h)
theorem t_Tc_game_30 {d : Nat} (hd : 3 ≤ d) {x2 : Int32} {h : PH} {r : Int32 × PH} (hq : f_Tc_game_30 x2 h = some r) : E d 0 0 m_Tc_game 30 [(2, .int x2)] [] h (PI r) := by
  unfold f_Tc_game_30 at hq
  obtain ⟨d, rfl⟩ : ∃ e, d = e + 1 := ⟨d - 1, by omega⟩
  refine E_iln 0 d_Tc_game_30 rfl rfl ?_
  refine E_goto (tgt := 45) d_Tc_game_31 (by decide) ?_
  exact E_rI d_Tc_game_45 rfl hq
def f_Tc_game (a0 : Nat) (x1 : Int32) (h : PH) : Option (Int32 × PH) :=
  (f_Tc_within x1 1 h).bind fun p1 =>
  if p1.1 = 0 then
    some ((-1), p1.2)
  else
    (ldR p1.2 8 a0 0).bind fun v2 =>
    (ldR p1.2 1 v2 0).bind fun v3 =>
    (isO p1.2 5 v3).bind fun _ =>
    (f_Realm_gameOfficer v3  p1.2).bind fun p4 =>
    if x1 = 0 then
      f_Tc_game_30 p4.1 p4.2
    else
      if p4.1 = (-1) then
        f_Tc_game_30 p4.1 p4.2
      else
        (ldR p4.2 8 a0 0).bind fun v6 =>
        (ldR p4.2 1 v6 0).bind fun v7 =>
        (isO p4.2 5 v7).bind fun _ =>
        (f_Realm_fewestJokes v7 p4.1 p4.2).bind fun p8 =>
        some (p8.1, p8.2)
theorem t_Tc_game {d : Nat} (hd : 3 ≤ d) {a0 : Nat} {x1 : Int32} {h : PH} {r : Int32 × PH} (hq : f_Tc_game a0 x1 h = some r) : E d 0 0 m_Tc_game 0 [(0, .ref a0), (1, .int x1)] [] h (PI r) := by
  unfold f_Tc_game at hq
  obtain ⟨d, rfl⟩ : ∃ e, d = e + 1 := ⟨d - 1, by omega⟩
  refine E_iln 1 d_Tc_game_0 rfl rfl ?_
  refine E_ic (v := 1) d_Tc_game_1 (by decide) ?_
  obtain ⟨p1, ep1, hq⟩ := bd hq
  refine E_cS2I d_Tc_game_2 ck_Tc_57 (Nat.le_of_ble_eq_true rfl) (Nat.le_of_ble_eq_true rfl) (t_Tc_within (by omega) ep1) ?_
  refine E_zne (tgt := 10) d_Tc_game_5 (by decide) (fun c => ?_) (fun c => ?_)
  · rw [if_neg c] at hq
    refine E_aln 0 d_Tc_game_10 rfl rfl ?_
    obtain ⟨v2, ev2, hq⟩ := bd hq
    refine E_gR d_Tc_game_11 lk_Tc_10 rfl ev2 ?_
    obtain ⟨v3, ev3, hq⟩ := bd hq
    refine E_gR d_Tc_game_14 lk_Tc_47 rfl ev3 ?_
    obtain ⟨q5, eq5, hq⟩ := bd hq
    obtain ⟨p4, ep4, hq⟩ := bd hq
    refine E_cV0I d_Tc_game_17 ck_Tc_333 rfl rfl eq5 (Nat.le_of_ble_eq_true rfl) (Nat.le_of_ble_eq_true rfl) (t_Realm_gameOfficer (by omega) ep4) ?_
    refine E_isn (ls' := [(2, .int p4.1), (0, .ref a0), (1, .int x1)]) d_Tc_game_20 (Nat.le_of_ble_eq_true rfl) rfl ?_
    refine E_iln 2 d_Tc_game_21 rfl rfl ?_
    refine E_zeq (tgt := 30) d_Tc_game_22 (by decide) (fun c => ?_) (fun c => ?_)
    · rw [if_pos c] at hq
      exact E_sub (ks := [0]) rfl <| t_Tc_game_30 (by omega) hq
    · rw [if_neg c] at hq
      refine E_iln 0 d_Tc_game_25 rfl rfl ?_
      refine E_ic (v := (-1)) d_Tc_game_26 (by decide) ?_
      refine E_jne (tgt := 34) d_Tc_game_27 (by decide) (fun c => ?_) (fun c => ?_)
      · rw [if_neg c] at hq
        refine E_aln 1 d_Tc_game_34 rfl rfl ?_
        obtain ⟨v6, ev6, hq⟩ := bd hq
        refine E_gR d_Tc_game_35 lk_Tc_10 rfl ev6 ?_
        obtain ⟨v7, ev7, hq⟩ := bd hq
        refine E_gR d_Tc_game_38 lk_Tc_47 rfl ev7 ?_
        refine E_iln 0 d_Tc_game_41 rfl rfl ?_
        obtain ⟨q9, eq9, hq⟩ := bd hq
        obtain ⟨p8, ep8, hq⟩ := bd hq
        refine E_cV1I d_Tc_game_42 ck_Tc_336 rfl rfl eq9 (Nat.le_of_ble_eq_true rfl) (Nat.le_of_ble_eq_true rfl) (t_Realm_fewestJokes (by omega) ep8) ?_
        exact E_rI d_Tc_game_45 rfl hq
      · rw [if_pos c] at hq
        exact E_sub (ks := [0]) rfl <| t_Tc_game_30 (by omega) hq
  · rw [if_pos c] at hq
    refine E_ic (v := (-1)) d_Tc_game_8 (by decide) ?_
    exact E_rI d_Tc_game_9 rfl hq
def f_Log_giveBack (a0 : Nat) (a1 : Nat) (h : PH) : Option (Int32 × PH) :=
  (ldI h 3 a0 2).bind fun v1 =>
  if v1 = 0 then
    rtZ 0 h
  else
    (ldI h 3 a0 1).bind fun v2 =>
    (rmI ((v2 + 6) - 1) 6).bind fun v3 =>
    (stI h 3 a0 1 v3).bind fun h4 =>
    (ldI h4 3 a0 2).bind fun v5 =>
    (stI h4 3 a0 2 (v5 - 1)).bind fun h6 =>
    (ldR h6 3 a0 0).bind fun v7 =>
    (ldI h6 3 a0 1).bind fun v8 =>
    (rdQ h6 v7 v8).bind fun v9 =>
    (isO h6 5 a1).bind fun _ =>
    (f_Realm_copyFrom a1 v9 h6).bind fun h10 =>
    rtZ 1 h10
theorem t_Log_giveBack {d : Nat} (hd : 2 ≤ d) {a0 : Nat} {a1 : Nat} {h : PH} {r : Int32 × PH} (hq : f_Log_giveBack a0 a1 h = some r) : E d 0 0 m_Log_giveBack 0 [(0, .ref a0), (1, .ref a1)] [] h (PI r) := by
  unfold f_Log_giveBack at hq
  obtain ⟨d, rfl⟩ : ∃ e, d = e + 1 := ⟨d - 1, by omega⟩
  refine E_aln 0 d_Log_giveBack_0 rfl rfl ?_
  obtain ⟨v1, ev1, hq⟩ := bd hq
  refine E_gI d_Log_giveBack_1 lk_Log_21 rfl ev1 ?_
  refine E_zne (tgt := 9) d_Log_giveBack_4 (by decide) (fun c => ?_) (fun c => ?_)
  · rw [if_neg c] at hq
    refine E_aln 0 d_Log_giveBack_9 rfl rfl ?_
    refine E_aln 0 d_Log_giveBack_10 rfl rfl ?_
    obtain ⟨v2, ev2, hq⟩ := bd hq
    refine E_gI d_Log_giveBack_11 lk_Log_17 rfl ev2 ?_
    refine E_bi (v := 6) d_Log_giveBack_14 (by decide) ?_
    refine E_iadd d_Log_giveBack_16 ?_
    refine E_ic (v := 1) d_Log_giveBack_17 (by decide) ?_
    refine E_isub d_Log_giveBack_18 ?_
    refine E_bi (v := 6) d_Log_giveBack_19 (by decide) ?_
    obtain ⟨v3, ev3, hq⟩ := bd hq
    refine E_rm d_Log_giveBack_21 ev3 ?_
    obtain ⟨h4, eh4, hq⟩ := bd hq
    refine E_pI d_Log_giveBack_22 lp_Log_m_17 rfl eh4 ?_
    refine E_aln 0 d_Log_giveBack_25 rfl rfl ?_
    refine E_dupr d_Log_giveBack_26 ?_
    obtain ⟨v5, ev5, hq⟩ := bd hq
    refine E_gI d_Log_giveBack_27 lk_Log_21 rfl ev5 ?_
    refine E_ic (v := 1) d_Log_giveBack_30 (by decide) ?_
    refine E_isub d_Log_giveBack_31 ?_
    obtain ⟨h6, eh6, hq⟩ := bd hq
    refine E_pI d_Log_giveBack_32 lp_Log_m_21 rfl eh6 ?_
    refine E_aln 0 d_Log_giveBack_35 rfl rfl ?_
    obtain ⟨v7, ev7, hq⟩ := bd hq
    refine E_gR d_Log_giveBack_36 lk_Log_11 rfl ev7 ?_
    refine E_aln 0 d_Log_giveBack_39 rfl rfl ?_
    obtain ⟨v8, ev8, hq⟩ := bd hq
    refine E_gI d_Log_giveBack_40 lk_Log_17 rfl ev8 ?_
    obtain ⟨v9, ev9, hq⟩ := bd hq
    refine E_rq d_Log_giveBack_43 ev9 ?_
    refine E_asn (ls' := [(2, .ref v9), (0, .ref a0), (1, .ref a1)]) d_Log_giveBack_44 (Nat.le_of_ble_eq_true rfl) rfl ?_
    refine E_aln 0 d_Log_giveBack_45 rfl rfl ?_
    refine E_nullR 54 d_Log_giveBack_46 (by decide) ?_
    refine E_aln 2 d_Log_giveBack_49 rfl rfl ?_
    refine E_aln 0 d_Log_giveBack_50 rfl rfl ?_
    obtain ⟨q11, eq11, hq⟩ := bd hq
    obtain ⟨h10, eh10, hq⟩ := bd hq
    refine E_cV1V d_Log_giveBack_51 ck_Log_25 rfl rfl eq11 (Nat.le_of_ble_eq_true rfl) (Nat.le_of_ble_eq_true rfl) (t_Realm_copyFrom (by omega) eh10) ?_
    refine E_ic (v := 1) d_Log_giveBack_54 (by decide) ?_
    exact E_rZ d_Log_giveBack_55 rfl hq
  · rw [if_pos c] at hq
    refine E_ic (v := 0) d_Log_giveBack_7 (by decide) ?_
    exact E_rZ d_Log_giveBack_8 rfl hq
def f_Tc_undo (a0 : Nat) (h : PH) : Option (Int32 × PH) :=
  (ldR h 8 a0 1).bind fun v1 =>
  (ldR h 8 a0 0).bind fun v2 =>
  (ldR h 1 v2 0).bind fun v3 =>
  (isO h 3 v1).bind fun _ =>
  (f_Log_giveBack v1 v3 h).bind fun p4 =>
  rtZ p4.1 p4.2
theorem t_Tc_undo {d : Nat} (hd : 3 ≤ d) {a0 : Nat} {h : PH} {r : Int32 × PH} (hq : f_Tc_undo a0 h = some r) : E d 0 0 m_Tc_undo 0 [(0, .ref a0)] [] h (PI r) := by
  unfold f_Tc_undo at hq
  obtain ⟨d, rfl⟩ : ∃ e, d = e + 1 := ⟨d - 1, by omega⟩
  refine E_aln 0 d_Tc_undo_0 rfl rfl ?_
  obtain ⟨v1, ev1, hq⟩ := bd hq
  refine E_gR d_Tc_undo_1 lk_Tc_19 rfl ev1 ?_
  refine E_aln 0 d_Tc_undo_4 rfl rfl ?_
  obtain ⟨v2, ev2, hq⟩ := bd hq
  refine E_gR d_Tc_undo_5 lk_Tc_10 rfl ev2 ?_
  obtain ⟨v3, ev3, hq⟩ := bd hq
  refine E_gR d_Tc_undo_8 lk_Tc_47 rfl ev3 ?_
  obtain ⟨q5, eq5, hq⟩ := bd hq
  obtain ⟨p4, ep4, hq⟩ := bd hq
  refine E_cV1I d_Tc_undo_11 ck_Tc_339 rfl rfl eq5 (Nat.le_of_ble_eq_true rfl) (Nat.le_of_ble_eq_true rfl) (t_Log_giveBack (by omega) ep4) ?_
  exact E_rZ d_Tc_undo_14 rfl hq
def f_Told_copyFrom (a0 : Nat) (a1 : Nat) (h : PH) : Option (PH) :=
  (ldR h 7 a0 0).bind fun v1 =>
  (ldR h 7 a1 0).bind fun v2 =>
  (isO h 6 v1).bind fun _ =>
  (f_Row_copyFrom v1 v2 h).bind fun h3 =>
  (ldR h3 7 a0 1).bind fun v5 =>
  (ldR h3 7 a1 1).bind fun v6 =>
  (isO h3 6 v5).bind fun _ =>
  (f_Row_copyFrom v5 v6 h3).bind fun h7 =>
  (ldR h7 7 a0 2).bind fun v9 =>
  (ldR h7 7 a1 2).bind fun v10 =>
  (isO h7 6 v9).bind fun _ =>
  (f_Row_copyFrom v9 v10 h7).bind fun h11 =>
  (ldR h11 7 a0 3).bind fun v13 =>
  (ldR h11 7 a1 3).bind fun v14 =>
  (isO h11 6 v13).bind fun _ =>
  (f_Row_copyFrom v13 v14 h11).bind fun h15 =>
  (ldR h15 7 a0 4).bind fun v17 =>
  (ldR h15 7 a1 4).bind fun v18 =>
  (isO h15 6 v17).bind fun _ =>
  (f_Row_copyFrom v17 v18 h15).bind fun h19 =>
  (ldR h19 7 a0 5).bind fun v21 =>
  (ldR h19 7 a1 5).bind fun v22 =>
  (isO h19 6 v21).bind fun _ =>
  (f_Row_copyFrom v21 v22 h19).bind fun h23 =>
  (ldR h23 7 a1 6).bind fun v25 =>
  (ldR h23 7 a0 6).bind fun v26 =>
  (cpA h23 v25 0 v26 0 24).bind fun h27 =>
  (ldR h27 7 a1 7).bind fun v28 =>
  (ldR h27 7 a0 7).bind fun v29 =>
  (cpA h27 v28 0 v29 0 24).bind fun h30 =>
  (ldI h30 7 a1 8).bind fun v31 =>
  (stI h30 7 a0 8 v31).bind fun h32 =>
  (ldI h32 7 a1 9).bind fun v33 =>
  (stI h32 7 a0 9 v33).bind fun h34 =>
  some h34
theorem t_Told_copyFrom {d : Nat} (hd : 2 ≤ d) {a0 : Nat} {a1 : Nat} {h : PH} {r : PH} (hq : f_Told_copyFrom a0 a1 h = some r) : E d 0 0 m_Told_copyFrom 0 [(0, .ref a0), (1, .ref a1)] [] h (PV r) := by
  unfold f_Told_copyFrom at hq
  obtain ⟨d, rfl⟩ : ∃ e, d = e + 1 := ⟨d - 1, by omega⟩
  refine E_aln 0 d_Told_copyFrom_0 rfl rfl ?_
  obtain ⟨v1, ev1, hq⟩ := bd hq
  refine E_gR d_Told_copyFrom_1 lk_Told_14 rfl ev1 ?_
  refine E_aln 1 d_Told_copyFrom_4 rfl rfl ?_
  obtain ⟨v2, ev2, hq⟩ := bd hq
  refine E_gR d_Told_copyFrom_5 lk_Told_14 rfl ev2 ?_
  obtain ⟨q4, eq4, hq⟩ := bd hq
  obtain ⟨h3, eh3, hq⟩ := bd hq
  refine E_cV1V d_Told_copyFrom_8 ck_Told_49 rfl rfl eq4 (Nat.le_of_ble_eq_true rfl) (Nat.le_of_ble_eq_true rfl) (t_Row_copyFrom (by omega) eh3) ?_
  refine E_aln 0 d_Told_copyFrom_11 rfl rfl ?_
  obtain ⟨v5, ev5, hq⟩ := bd hq
  refine E_gR d_Told_copyFrom_12 lk_Told_20 rfl ev5 ?_
  refine E_aln 1 d_Told_copyFrom_15 rfl rfl ?_
  obtain ⟨v6, ev6, hq⟩ := bd hq
  refine E_gR d_Told_copyFrom_16 lk_Told_20 rfl ev6 ?_
  obtain ⟨q8, eq8, hq⟩ := bd hq
  obtain ⟨h7, eh7, hq⟩ := bd hq
  refine E_cV1V d_Told_copyFrom_19 ck_Told_49 rfl rfl eq8 (Nat.le_of_ble_eq_true rfl) (Nat.le_of_ble_eq_true rfl) (t_Row_copyFrom (by omega) eh7) ?_
  refine E_aln 0 d_Told_copyFrom_22 rfl rfl ?_
  obtain ⟨v9, ev9, hq⟩ := bd hq
  refine E_gR d_Told_copyFrom_23 lk_Told_23 rfl ev9 ?_
  refine E_aln 1 d_Told_copyFrom_26 rfl rfl ?_
  obtain ⟨v10, ev10, hq⟩ := bd hq
  refine E_gR d_Told_copyFrom_27 lk_Told_23 rfl ev10 ?_
  obtain ⟨q12, eq12, hq⟩ := bd hq
  obtain ⟨h11, eh11, hq⟩ := bd hq
  refine E_cV1V d_Told_copyFrom_30 ck_Told_49 rfl rfl eq12 (Nat.le_of_ble_eq_true rfl) (Nat.le_of_ble_eq_true rfl) (t_Row_copyFrom (by omega) eh11) ?_
  refine E_aln 0 d_Told_copyFrom_33 rfl rfl ?_
  obtain ⟨v13, ev13, hq⟩ := bd hq
  refine E_gR d_Told_copyFrom_34 lk_Told_26 rfl ev13 ?_
  refine E_aln 1 d_Told_copyFrom_37 rfl rfl ?_
  obtain ⟨v14, ev14, hq⟩ := bd hq
  refine E_gR d_Told_copyFrom_38 lk_Told_26 rfl ev14 ?_
  obtain ⟨q16, eq16, hq⟩ := bd hq
  obtain ⟨h15, eh15, hq⟩ := bd hq
  refine E_cV1V d_Told_copyFrom_41 ck_Told_49 rfl rfl eq16 (Nat.le_of_ble_eq_true rfl) (Nat.le_of_ble_eq_true rfl) (t_Row_copyFrom (by omega) eh15) ?_
  refine E_aln 0 d_Told_copyFrom_44 rfl rfl ?_
  obtain ⟨v17, ev17, hq⟩ := bd hq
  refine E_gR d_Told_copyFrom_45 lk_Told_29 rfl ev17 ?_
  refine E_aln 1 d_Told_copyFrom_48 rfl rfl ?_
  obtain ⟨v18, ev18, hq⟩ := bd hq
  refine E_gR d_Told_copyFrom_49 lk_Told_29 rfl ev18 ?_
  obtain ⟨q20, eq20, hq⟩ := bd hq
  obtain ⟨h19, eh19, hq⟩ := bd hq
  refine E_cV1V d_Told_copyFrom_52 ck_Told_49 rfl rfl eq20 (Nat.le_of_ble_eq_true rfl) (Nat.le_of_ble_eq_true rfl) (t_Row_copyFrom (by omega) eh19) ?_
  refine E_aln 0 d_Told_copyFrom_55 rfl rfl ?_
  obtain ⟨v21, ev21, hq⟩ := bd hq
  refine E_gR d_Told_copyFrom_56 lk_Told_32 rfl ev21 ?_
  refine E_aln 1 d_Told_copyFrom_59 rfl rfl ?_
  obtain ⟨v22, ev22, hq⟩ := bd hq
  refine E_gR d_Told_copyFrom_60 lk_Told_32 rfl ev22 ?_
  obtain ⟨q24, eq24, hq⟩ := bd hq
  obtain ⟨h23, eh23, hq⟩ := bd hq
  refine E_cV1V d_Told_copyFrom_63 ck_Told_49 rfl rfl eq24 (Nat.le_of_ble_eq_true rfl) (Nat.le_of_ble_eq_true rfl) (t_Row_copyFrom (by omega) eh23) ?_
  refine E_aln 1 d_Told_copyFrom_66 rfl rfl ?_
  obtain ⟨v25, ev25, hq⟩ := bd hq
  refine E_gR d_Told_copyFrom_67 lk_Told_35 rfl ev25 ?_
  refine E_ic (v := 0) d_Told_copyFrom_70 (by decide) ?_
  refine E_aln 0 d_Told_copyFrom_71 rfl rfl ?_
  obtain ⟨v26, ev26, hq⟩ := bd hq
  refine E_gR d_Told_copyFrom_72 lk_Told_35 rfl ev26 ?_
  refine E_ic (v := 0) d_Told_copyFrom_75 (by decide) ?_
  refine E_bi (v := 24) d_Told_copyFrom_76 (by decide) ?_
  obtain ⟨h27, eh27, hq⟩ := bd hq
  refine E_cp d_Told_copyFrom_78 kj_Told_53 (Nat.le_of_ble_eq_true rfl) eh27 ?_
  refine E_aln 1 d_Told_copyFrom_81 rfl rfl ?_
  obtain ⟨v28, ev28, hq⟩ := bd hq
  refine E_gR d_Told_copyFrom_82 lk_Told_39 rfl ev28 ?_
  refine E_ic (v := 0) d_Told_copyFrom_85 (by decide) ?_
  refine E_aln 0 d_Told_copyFrom_86 rfl rfl ?_
  obtain ⟨v29, ev29, hq⟩ := bd hq
  refine E_gR d_Told_copyFrom_87 lk_Told_39 rfl ev29 ?_
  refine E_ic (v := 0) d_Told_copyFrom_90 (by decide) ?_
  refine E_bi (v := 24) d_Told_copyFrom_91 (by decide) ?_
  obtain ⟨h30, eh30, hq⟩ := bd hq
  refine E_cp d_Told_copyFrom_93 kj_Told_53 (Nat.le_of_ble_eq_true rfl) eh30 ?_
  refine E_aln 0 d_Told_copyFrom_96 rfl rfl ?_
  refine E_aln 1 d_Told_copyFrom_97 rfl rfl ?_
  obtain ⟨v31, ev31, hq⟩ := bd hq
  refine E_gI d_Told_copyFrom_98 lk_Told_42 rfl ev31 ?_
  obtain ⟨h32, eh32, hq⟩ := bd hq
  refine E_pI d_Told_copyFrom_101 lp_Told_m_42 rfl eh32 ?_
  refine E_aln 0 d_Told_copyFrom_104 rfl rfl ?_
  refine E_aln 1 d_Told_copyFrom_105 rfl rfl ?_
  obtain ⟨v33, ev33, hq⟩ := bd hq
  refine E_gI d_Told_copyFrom_106 lk_Told_46 rfl ev33 ?_
  obtain ⟨h34, eh34, hq⟩ := bd hq
  refine E_pI d_Told_copyFrom_109 lp_Told_m_46 rfl eh34 ?_
  exact E_rV d_Told_copyFrom_112 rfl hq
def f_Land_copyFrom (a0 : Nat) (a1 : Nat) (h : PH) : Option (PH) :=
  (ldR h 1 a0 0).bind fun v1 =>
  (ldR h 1 a1 0).bind fun v2 =>
  (isO h 5 v1).bind fun _ =>
  (f_Realm_copyFrom v1 v2 h).bind fun h3 =>
  (ldR h3 1 a1 1).bind fun v5 =>
  (ldR h3 1 a0 1).bind fun v6 =>
  (cpA h3 v5 0 v6 0 600).bind fun h7 =>
  (ldR h7 1 a0 2).bind fun v8 =>
  (ldR h7 1 a1 2).bind fun v9 =>
  (isO h7 2 v8).bind fun _ =>
  (f_Law_copyFrom v8 v9 h7).bind fun h10 =>
  (ldR h10 1 a0 3).bind fun v12 =>
  (ldR h10 1 a1 3).bind fun v13 =>
  (isO h10 6 v12).bind fun _ =>
  (f_Row_copyFrom v12 v13 h10).bind fun h14 =>
  (ldR h14 1 a0 4).bind fun v16 =>
  (ldR h14 1 a1 4).bind fun v17 =>
  (isO h14 6 v16).bind fun _ =>
  (f_Row_copyFrom v16 v17 h14).bind fun h18 =>
  (ldR h18 1 a0 5).bind fun v20 =>
  (ldR h18 1 a1 5).bind fun v21 =>
  (isO h18 6 v20).bind fun _ =>
  (f_Row_copyFrom v20 v21 h18).bind fun h22 =>
  (ldR h22 1 a0 6).bind fun v24 =>
  (ldR h22 1 a1 6).bind fun v25 =>
  (isO h22 7 v24).bind fun _ =>
  (f_Told_copyFrom v24 v25 h22).bind fun h26 =>
  some h26
theorem t_Land_copyFrom {d : Nat} (hd : 3 ≤ d) {a0 : Nat} {a1 : Nat} {h : PH} {r : PH} (hq : f_Land_copyFrom a0 a1 h = some r) : E d 0 0 m_Land_copyFrom 0 [(0, .ref a0), (1, .ref a1)] [] h (PV r) := by
  unfold f_Land_copyFrom at hq
  obtain ⟨d, rfl⟩ : ∃ e, d = e + 1 := ⟨d - 1, by omega⟩
  refine E_aln 0 d_Land_copyFrom_0 rfl rfl ?_
  obtain ⟨v1, ev1, hq⟩ := bd hq
  refine E_gR d_Land_copyFrom_1 lk_Land_12 rfl ev1 ?_
  refine E_aln 1 d_Land_copyFrom_4 rfl rfl ?_
  obtain ⟨v2, ev2, hq⟩ := bd hq
  refine E_gR d_Land_copyFrom_5 lk_Land_12 rfl ev2 ?_
  obtain ⟨q4, eq4, hq⟩ := bd hq
  obtain ⟨h3, eh3, hq⟩ := bd hq
  refine E_cV1V d_Land_copyFrom_8 ck_Land_51 rfl rfl eq4 (Nat.le_of_ble_eq_true rfl) (Nat.le_of_ble_eq_true rfl) (t_Realm_copyFrom (by omega) eh3) ?_
  refine E_aln 1 d_Land_copyFrom_11 rfl rfl ?_
  obtain ⟨v5, ev5, hq⟩ := bd hq
  refine E_gR d_Land_copyFrom_12 lk_Land_18 rfl ev5 ?_
  refine E_ic (v := 0) d_Land_copyFrom_15 (by decide) ?_
  refine E_aln 0 d_Land_copyFrom_16 rfl rfl ?_
  obtain ⟨v6, ev6, hq⟩ := bd hq
  refine E_gR d_Land_copyFrom_17 lk_Land_18 rfl ev6 ?_
  refine E_ic (v := 0) d_Land_copyFrom_20 (by decide) ?_
  refine E_si (v := 600) d_Land_copyFrom_21 (by decide) ?_
  obtain ⟨h7, eh7, hq⟩ := bd hq
  refine E_cp d_Land_copyFrom_24 kj_Land_55 (Nat.le_of_ble_eq_true rfl) eh7 ?_
  refine E_aln 0 d_Land_copyFrom_27 rfl rfl ?_
  obtain ⟨v8, ev8, hq⟩ := bd hq
  refine E_gR d_Land_copyFrom_28 lk_Land_25 rfl ev8 ?_
  refine E_aln 1 d_Land_copyFrom_31 rfl rfl ?_
  obtain ⟨v9, ev9, hq⟩ := bd hq
  refine E_gR d_Land_copyFrom_32 lk_Land_25 rfl ev9 ?_
  obtain ⟨q11, eq11, hq⟩ := bd hq
  obtain ⟨h10, eh10, hq⟩ := bd hq
  refine E_cV1V d_Land_copyFrom_35 ck_Land_61 rfl rfl eq11 (Nat.le_of_ble_eq_true rfl) (Nat.le_of_ble_eq_true rfl) (t_Law_copyFrom (by omega) eh10) ?_
  refine E_aln 0 d_Land_copyFrom_38 rfl rfl ?_
  obtain ⟨v12, ev12, hq⟩ := bd hq
  refine E_gR d_Land_copyFrom_39 lk_Land_34 rfl ev12 ?_
  refine E_aln 1 d_Land_copyFrom_42 rfl rfl ?_
  obtain ⟨v13, ev13, hq⟩ := bd hq
  refine E_gR d_Land_copyFrom_43 lk_Land_34 rfl ev13 ?_
  obtain ⟨q15, eq15, hq⟩ := bd hq
  obtain ⟨h14, eh14, hq⟩ := bd hq
  refine E_cV1V d_Land_copyFrom_46 ck_Land_64 rfl rfl eq15 (Nat.le_of_ble_eq_true rfl) (Nat.le_of_ble_eq_true rfl) (t_Row_copyFrom (by omega) eh14) ?_
  refine E_aln 0 d_Land_copyFrom_49 rfl rfl ?_
  obtain ⟨v16, ev16, hq⟩ := bd hq
  refine E_gR d_Land_copyFrom_50 lk_Land_38 rfl ev16 ?_
  refine E_aln 1 d_Land_copyFrom_53 rfl rfl ?_
  obtain ⟨v17, ev17, hq⟩ := bd hq
  refine E_gR d_Land_copyFrom_54 lk_Land_38 rfl ev17 ?_
  obtain ⟨q19, eq19, hq⟩ := bd hq
  obtain ⟨h18, eh18, hq⟩ := bd hq
  refine E_cV1V d_Land_copyFrom_57 ck_Land_64 rfl rfl eq19 (Nat.le_of_ble_eq_true rfl) (Nat.le_of_ble_eq_true rfl) (t_Row_copyFrom (by omega) eh18) ?_
  refine E_aln 0 d_Land_copyFrom_60 rfl rfl ?_
  obtain ⟨v20, ev20, hq⟩ := bd hq
  refine E_gR d_Land_copyFrom_61 lk_Land_41 rfl ev20 ?_
  refine E_aln 1 d_Land_copyFrom_64 rfl rfl ?_
  obtain ⟨v21, ev21, hq⟩ := bd hq
  refine E_gR d_Land_copyFrom_65 lk_Land_41 rfl ev21 ?_
  obtain ⟨q23, eq23, hq⟩ := bd hq
  obtain ⟨h22, eh22, hq⟩ := bd hq
  refine E_cV1V d_Land_copyFrom_68 ck_Land_64 rfl rfl eq23 (Nat.le_of_ble_eq_true rfl) (Nat.le_of_ble_eq_true rfl) (t_Row_copyFrom (by omega) eh22) ?_
  refine E_aln 0 d_Land_copyFrom_71 rfl rfl ?_
  obtain ⟨v24, ev24, hq⟩ := bd hq
  refine E_gR d_Land_copyFrom_72 lk_Land_47 rfl ev24 ?_
  refine E_aln 1 d_Land_copyFrom_75 rfl rfl ?_
  obtain ⟨v25, ev25, hq⟩ := bd hq
  refine E_gR d_Land_copyFrom_76 lk_Land_47 rfl ev25 ?_
  obtain ⟨q27, eq27, hq⟩ := bd hq
  obtain ⟨h26, eh26, hq⟩ := bd hq
  refine E_cV1V d_Land_copyFrom_79 ck_Land_67 rfl rfl eq27 (Nat.le_of_ble_eq_true rfl) (Nat.le_of_ble_eq_true rfl) (t_Told_copyFrom (by omega) eh26) ?_
  exact E_rV d_Land_copyFrom_82 rfl hq
def f_Tc_image_22 (a0 : Nat) (h : PH) : Option (Int32 × PH) :=
  (ldR h 8 a0 5).bind fun v1 =>
  (ldR h 8 a0 0).bind fun v2 =>
  (isO h 1 v1).bind fun _ =>
  (f_Land_copyFrom v1 v2 h).bind fun h3 =>
  rtZ 1 h3
theorem t_Tc_image_22 {d : Nat} (hd : 4 ≤ d) {mc ms : Nat} (hmc : 0 ≤ mc) (hms : 0 ≤ ms) {a0 : Nat} {h : PH} {r : Int32 × PH} (hq : f_Tc_image_22 a0 h = some r) : E d mc ms m_Tc_image 22 [(0, .ref a0)] [] h (PI r) := by
  unfold f_Tc_image_22 at hq
  obtain ⟨d, rfl⟩ : ∃ e, d = e + 1 := ⟨d - 1, by omega⟩
  refine E_aln 0 d_Tc_image_22 rfl rfl ?_
  obtain ⟨v1, ev1, hq⟩ := bd hq
  refine E_gR d_Tc_image_23 lk_Tc_44 rfl ev1 ?_
  refine E_aln 0 d_Tc_image_26 rfl rfl ?_
  obtain ⟨v2, ev2, hq⟩ := bd hq
  refine E_gR d_Tc_image_27 lk_Tc_10 rfl ev2 ?_
  obtain ⟨q4, eq4, hq⟩ := bd hq
  obtain ⟨h3, eh3, hq⟩ := bd hq
  refine E_cV1V d_Tc_image_30 ck_Tc_343 rfl rfl eq4 (Nat.le_of_ble_eq_true rfl) (Nat.le_of_ble_eq_true rfl) (t_Land_copyFrom (by omega) eh3) ?_
  refine E_ic (v := 1) d_Tc_image_33 (by decide) ?_
  exact E_rZ d_Tc_image_34 rfl hq
def f_Tc_image (a0 : Nat) (x1 : Int32) (h : PH) : Option (Int32 × PH) :=
  if x1 = 0 then
    (ldO h 8 a0 5).bind fun v1 =>
    if v1 = none then
      rtZ 0 h
    else
      (ldR h 8 a0 0).bind fun v2 =>
      (ldR h 8 a0 5).bind fun v3 =>
      (isO h 1 v2).bind fun _ =>
      (f_Land_copyFrom v2 v3 h).bind fun h4 =>
      (ldR h4 8 a0 1).bind fun v6 =>
      (isO h4 3 v6).bind fun _ =>
      (f_Log_forget v6  h4).bind fun h7 =>
      rtZ 1 h7
  else
    (ldO h 8 a0 5).bind fun v9 =>
    if v9 = none then
      (some (nw h (0, 1))).bind fun h10 =>
      (f_Land_init (gN h)  h10).bind fun h11 =>
      (stR h11 8 a0 5 (some (gN h))).bind fun h12 =>
      f_Tc_image_22 a0 h12
    else
      f_Tc_image_22 a0 h
theorem t_Tc_image {d : Nat} (hd : 4 ≤ d) {mc ms : Nat} (hmc : 39 ≤ mc) (hms : 1886 ≤ ms) {a0 : Nat} {x1 : Int32} {h : PH} {r : Int32 × PH} (hq : f_Tc_image a0 x1 h = some r) : E d mc ms m_Tc_image 0 [(0, .ref a0), (1, .int x1)] [] h (PI r) := by
  unfold f_Tc_image at hq
  obtain ⟨d, rfl⟩ : ∃ e, d = e + 1 := ⟨d - 1, by omega⟩
  refine E_iln 1 d_Tc_image_0 rfl rfl ?_
  refine E_zeq (tgt := 35) d_Tc_image_1 (by decide) (fun c => ?_) (fun c => ?_)
  · rw [if_pos c] at hq
    refine E_aln 0 d_Tc_image_35 rfl rfl ?_
    obtain ⟨v1, ev1, hq⟩ := bd hq
    refine E_gO d_Tc_image_36 lk_Tc_44 rfl ev1 ?_
    refine E_nonnull (tgt := 44) d_Tc_image_39 (by decide) (fun aa c => ?_) (fun c => ?_)
    · rw [if_neg (by rw [c]; exact fun z => by cases z)] at hq
      refine E_aln 0 d_Tc_image_44 rfl rfl ?_
      obtain ⟨v2, ev2, hq⟩ := bd hq
      refine E_gR d_Tc_image_45 lk_Tc_10 rfl ev2 ?_
      refine E_aln 0 d_Tc_image_48 rfl rfl ?_
      obtain ⟨v3, ev3, hq⟩ := bd hq
      refine E_gR d_Tc_image_49 lk_Tc_44 rfl ev3 ?_
      obtain ⟨q5, eq5, hq⟩ := bd hq
      obtain ⟨h4, eh4, hq⟩ := bd hq
      refine E_cV1V d_Tc_image_52 ck_Tc_343 rfl rfl eq5 (Nat.le_of_ble_eq_true rfl) (Nat.le_of_ble_eq_true rfl) (t_Land_copyFrom (by omega) eh4) ?_
      refine E_aln 0 d_Tc_image_55 rfl rfl ?_
      obtain ⟨v6, ev6, hq⟩ := bd hq
      refine E_gR d_Tc_image_56 lk_Tc_19 rfl ev6 ?_
      obtain ⟨q8, eq8, hq⟩ := bd hq
      obtain ⟨h7, eh7, hq⟩ := bd hq
      refine E_cV0V d_Tc_image_59 ck_Tc_54 rfl rfl eq8 (Nat.le_of_ble_eq_true rfl) (Nat.le_of_ble_eq_true rfl) (t_Log_forget (by omega) eh7) ?_
      refine E_ic (v := 1) d_Tc_image_62 (by decide) ?_
      exact E_rZ d_Tc_image_63 rfl hq
    · rw [if_pos c] at hq
      refine E_ic (v := 0) d_Tc_image_42 (by decide) ?_
      exact E_rZ d_Tc_image_43 rfl hq
  · rw [if_neg c] at hq
    refine E_aln 0 d_Tc_image_4 rfl rfl ?_
    obtain ⟨v9, ev9, hq⟩ := bd hq
    refine E_gO d_Tc_image_5 lk_Tc_44 rfl ev9 ?_
    refine E_nonnull (tgt := 22) d_Tc_image_8 (by decide) (fun aa c => ?_) (fun c => ?_)
    · rw [if_neg (by rw [c]; exact fun z => by cases z)] at hq
      exact E_sub (ks := [0]) rfl <| t_Tc_image_22 (by omega) (by first | assumption | omega) (by first | assumption | omega) hq
    · rw [if_pos c] at hq
      refine E_aln 0 d_Tc_image_11 rfl rfl ?_
      obtain ⟨h10, eh10, hq⟩ := bd hq
      cases eh10
      refine E_new (mc' := mc - 1) (ms' := ms - 7) d_Tc_image_12 ln_Tc_7 (by omega) (by show _ + 7 ≤ _; omega) ?_
      refine E_dupr d_Tc_image_15 ?_
      obtain ⟨h11, eh11, hq⟩ := bd hq
      refine E_cI0VA (mc1 := 38) (ms1 := 1879) (mc2 := mc - 39) (ms2 := ms - 1886) d_Tc_image_16 ck_Tc_9 (Nat.le_of_ble_eq_true rfl) (Nat.le_of_ble_eq_true rfl) (by omega) (by omega) (t_Land_init (by omega) (Nat.le_refl _) (Nat.le_refl _) eh11) ?_
      obtain ⟨h12, eh12, hq⟩ := bd hq
      refine E_pR d_Tc_image_19 lp_Tc_m_44 rfl eh12 ?_
      exact E_sub (ks := [0]) rfl <| t_Tc_image_22 (by omega) (by first | assumption | omega) (by first | assumption | omega) hq
def f_Tc_look (a0 : Nat) (x1 : Int32) (h : PH) : Option (Int32 × PH) :=
  (ldR h 8 a0 0).bind fun v1 =>
  (ldR h 1 v1 0).bind fun v2 =>
  if x1 = 0 then
    (ldI h 5 v2 1).bind fun v3 =>
    some (v3, h)
  else
    if x1 = 1 then
      (ldI h 5 v2 9).bind fun v4 =>
      some (v4, h)
    else
      if x1 = 2 then
        (ldI h 5 v2 18).bind fun v5 =>
        some (v5, h)
      else
        if x1 = 3 then
          (ldI h 5 v2 15).bind fun v6 =>
          some (v6, h)
        else
          if x1 = 4 then
            (ldI h 5 v2 16).bind fun v7 =>
            some (v7, h)
          else
            if x1 = 5 then
              (ldI h 5 v2 17).bind fun v8 =>
              some (v8, h)
            else
              if x1 = 6 then
                (ldI h 5 v2 14).bind fun v9 =>
                some (v9, h)
              else
                if x1 = 7 then
                  (ldI h 5 v2 7).bind fun v10 =>
                  some (v10, h)
                else
                  if x1 = 8 then
                    (ldI h 5 v2 19).bind fun v11 =>
                    some (v11, h)
                  else
                    if x1 = 9 then
                      (ldI h 5 v2 0).bind fun v12 =>
                      some (v12, h)
                    else
                      if x1 = 10 then
                        (ldR h 8 a0 0).bind fun v13 =>
                        (ldR h 1 v13 2).bind fun v14 =>
                        (ldR h 2 v14 0).bind fun v15 =>
                        (ldI h 6 v15 2).bind fun v16 =>
                        some (v16, h)
                      else
                        if x1 = 11 then
                          (ldR h 8 a0 0).bind fun v17 =>
                          (ldR h 1 v17 3).bind fun v18 =>
                          (ldI h 6 v18 2).bind fun v19 =>
                          some (v19, h)
                        else
                          if x1 = 12 then
                            (ldR h 8 a0 0).bind fun v20 =>
                            (ldR h 1 v20 4).bind fun v21 =>
                            (ldI h 6 v21 2).bind fun v22 =>
                            some (v22, h)
                          else
                            if x1 = 13 then
                              (ldR h 8 a0 0).bind fun v23 =>
                              (ldR h 1 v23 5).bind fun v24 =>
                              (ldI h 6 v24 2).bind fun v25 =>
                              some (v25, h)
                            else
                              if x1 = 14 then
                                (ldR h 8 a0 1).bind fun v26 =>
                                (ldI h 3 v26 2).bind fun v27 =>
                                some (v27, h)
                              else
                                some ((-100000), h)
theorem t_Tc_look {d : Nat} (hd : 0 ≤ d) {a0 : Nat} {x1 : Int32} {h : PH} {r : Int32 × PH} (hq : f_Tc_look a0 x1 h = some r) : E d 0 0 m_Tc_look 0 [(0, .ref a0), (1, .int x1)] [] h (PI r) := by
  unfold f_Tc_look at hq
  refine E_aln 0 d_Tc_look_0 rfl rfl ?_
  obtain ⟨v1, ev1, hq⟩ := bd hq
  refine E_gR d_Tc_look_1 lk_Tc_10 rfl ev1 ?_
  obtain ⟨v2, ev2, hq⟩ := bd hq
  refine E_gR d_Tc_look_4 lk_Tc_47 rfl ev2 ?_
  refine E_asn (ls' := [(2, .ref v2), (0, .ref a0), (1, .int x1)]) d_Tc_look_7 (Nat.le_of_ble_eq_true rfl) rfl ?_
  refine E_iln 2 d_Tc_look_8 rfl rfl ?_
  by_cases c0 : x1 = 0
  · rw [if_pos c0] at hq
    refine E_table (tgt := 84) d_Tc_look_9 (by rw [c0]; decide) (fun _ _ => ⟨75, by rw [c0]; decide, by decide⟩) ?_
    refine E_aln 0 d_Tc_look_84 rfl rfl ?_
    obtain ⟨v3, ev3, hq⟩ := bd hq
    refine E_gI d_Tc_look_85 lk_Tc_120 rfl ev3 ?_
    exact E_rI d_Tc_look_88 rfl hq
  · rw [if_neg c0] at hq
    by_cases c1 : x1 = 1
    · rw [if_pos c1] at hq
      refine E_table (tgt := 89) d_Tc_look_9 (by rw [c1]; decide) (fun _ _ => ⟨80, by rw [c1]; decide, by decide⟩) ?_
      refine E_aln 0 d_Tc_look_89 rfl rfl ?_
      obtain ⟨v4, ev4, hq⟩ := bd hq
      refine E_gI d_Tc_look_90 lk_Tc_123 rfl ev4 ?_
      exact E_rI d_Tc_look_93 rfl hq
    · rw [if_neg c1] at hq
      by_cases c2 : x1 = 2
      · rw [if_pos c2] at hq
        refine E_table (tgt := 94) d_Tc_look_9 (by rw [c2]; decide) (fun _ _ => ⟨85, by rw [c2]; decide, by decide⟩) ?_
        refine E_aln 0 d_Tc_look_94 rfl rfl ?_
        obtain ⟨v5, ev5, hq⟩ := bd hq
        refine E_gI d_Tc_look_95 lk_Tc_97 rfl ev5 ?_
        exact E_rI d_Tc_look_98 rfl hq
      · rw [if_neg c2] at hq
        by_cases c3 : x1 = 3
        · rw [if_pos c3] at hq
          refine E_table (tgt := 99) d_Tc_look_9 (by rw [c3]; decide) (fun _ _ => ⟨90, by rw [c3]; decide, by decide⟩) ?_
          refine E_aln 0 d_Tc_look_99 rfl rfl ?_
          obtain ⟨v6, ev6, hq⟩ := bd hq
          refine E_gI d_Tc_look_100 lk_Tc_217 rfl ev6 ?_
          exact E_rI d_Tc_look_103 rfl hq
        · rw [if_neg c3] at hq
          by_cases c4 : x1 = 4
          · rw [if_pos c4] at hq
            refine E_table (tgt := 104) d_Tc_look_9 (by rw [c4]; decide) (fun _ _ => ⟨95, by rw [c4]; decide, by decide⟩) ?_
            refine E_aln 0 d_Tc_look_104 rfl rfl ?_
            obtain ⟨v7, ev7, hq⟩ := bd hq
            refine E_gI d_Tc_look_105 lk_Tc_220 rfl ev7 ?_
            exact E_rI d_Tc_look_108 rfl hq
          · rw [if_neg c4] at hq
            by_cases c5 : x1 = 5
            · rw [if_pos c5] at hq
              refine E_table (tgt := 109) d_Tc_look_9 (by rw [c5]; decide) (fun _ _ => ⟨100, by rw [c5]; decide, by decide⟩) ?_
              refine E_aln 0 d_Tc_look_109 rfl rfl ?_
              obtain ⟨v8, ev8, hq⟩ := bd hq
              refine E_gI d_Tc_look_110 lk_Tc_346 rfl ev8 ?_
              exact E_rI d_Tc_look_113 rfl hq
            · rw [if_neg c5] at hq
              by_cases c6 : x1 = 6
              · rw [if_pos c6] at hq
                refine E_table (tgt := 114) d_Tc_look_9 (by rw [c6]; decide) (fun _ _ => ⟨105, by rw [c6]; decide, by decide⟩) ?_
                refine E_aln 0 d_Tc_look_114 rfl rfl ?_
                obtain ⟨v9, ev9, hq⟩ := bd hq
                refine E_gI d_Tc_look_115 lk_Tc_349 rfl ev9 ?_
                exact E_rI d_Tc_look_118 rfl hq
              · rw [if_neg c6] at hq
                by_cases c7 : x1 = 7
                · rw [if_pos c7] at hq
                  refine E_table (tgt := 119) d_Tc_look_9 (by rw [c7]; decide) (fun _ _ => ⟨110, by rw [c7]; decide, by decide⟩) ?_
                  refine E_aln 0 d_Tc_look_119 rfl rfl ?_
                  obtain ⟨v10, ev10, hq⟩ := bd hq
                  refine E_gI d_Tc_look_120 lk_Tc_100 rfl ev10 ?_
                  exact E_rI d_Tc_look_123 rfl hq
                · rw [if_neg c7] at hq
                  by_cases c8 : x1 = 8
                  · rw [if_pos c8] at hq
                    refine E_table (tgt := 124) d_Tc_look_9 (by rw [c8]; decide) (fun _ _ => ⟨115, by rw [c8]; decide, by decide⟩) ?_
                    refine E_aln 0 d_Tc_look_124 rfl rfl ?_
                    obtain ⟨v11, ev11, hq⟩ := bd hq
                    refine E_gI d_Tc_look_125 lk_Tc_209 rfl ev11 ?_
                    exact E_rI d_Tc_look_128 rfl hq
                  · rw [if_neg c8] at hq
                    by_cases c9 : x1 = 9
                    · rw [if_pos c9] at hq
                      refine E_table (tgt := 129) d_Tc_look_9 (by rw [c9]; decide) (fun _ _ => ⟨120, by rw [c9]; decide, by decide⟩) ?_
                      refine E_aln 0 d_Tc_look_129 rfl rfl ?_
                      obtain ⟨v12, ev12, hq⟩ := bd hq
                      refine E_gI d_Tc_look_130 lk_Tc_50 rfl ev12 ?_
                      exact E_rI d_Tc_look_133 rfl hq
                    · rw [if_neg c9] at hq
                      by_cases c10 : x1 = 10
                      · rw [if_pos c10] at hq
                        refine E_table (tgt := 134) d_Tc_look_9 (by rw [c10]; decide) (fun _ _ => ⟨125, by rw [c10]; decide, by decide⟩) ?_
                        refine E_aln 1 d_Tc_look_134 rfl rfl ?_
                        obtain ⟨v13, ev13, hq⟩ := bd hq
                        refine E_gR d_Tc_look_135 lk_Tc_10 rfl ev13 ?_
                        obtain ⟨v14, ev14, hq⟩ := bd hq
                        refine E_gR d_Tc_look_138 lk_Tc_129 rfl ev14 ?_
                        obtain ⟨v15, ev15, hq⟩ := bd hq
                        refine E_gR d_Tc_look_141 lk_Tc_140 rfl ev15 ?_
                        obtain ⟨v16, ev16, hq⟩ := bd hq
                        refine E_gI d_Tc_look_144 lk_Tc_144 rfl ev16 ?_
                        exact E_rI d_Tc_look_147 rfl hq
                      · rw [if_neg c10] at hq
                        by_cases c11 : x1 = 11
                        · rw [if_pos c11] at hq
                          refine E_table (tgt := 148) d_Tc_look_9 (by rw [c11]; decide) (fun _ _ => ⟨139, by rw [c11]; decide, by decide⟩) ?_
                          refine E_aln 1 d_Tc_look_148 rfl rfl ?_
                          obtain ⟨v17, ev17, hq⟩ := bd hq
                          refine E_gR d_Tc_look_149 lk_Tc_10 rfl ev17 ?_
                          obtain ⟨v18, ev18, hq⟩ := bd hq
                          refine E_gR d_Tc_look_152 lk_Tc_149 rfl ev18 ?_
                          obtain ⟨v19, ev19, hq⟩ := bd hq
                          refine E_gI d_Tc_look_155 lk_Tc_144 rfl ev19 ?_
                          exact E_rI d_Tc_look_158 rfl hq
                        · rw [if_neg c11] at hq
                          by_cases c12 : x1 = 12
                          · rw [if_pos c12] at hq
                            refine E_table (tgt := 159) d_Tc_look_9 (by rw [c12]; decide) (fun _ _ => ⟨150, by rw [c12]; decide, by decide⟩) ?_
                            refine E_aln 1 d_Tc_look_159 rfl rfl ?_
                            obtain ⟨v20, ev20, hq⟩ := bd hq
                            refine E_gR d_Tc_look_160 lk_Tc_10 rfl ev20 ?_
                            obtain ⟨v21, ev21, hq⟩ := bd hq
                            refine E_gR d_Tc_look_163 lk_Tc_152 rfl ev21 ?_
                            obtain ⟨v22, ev22, hq⟩ := bd hq
                            refine E_gI d_Tc_look_166 lk_Tc_144 rfl ev22 ?_
                            exact E_rI d_Tc_look_169 rfl hq
                          · rw [if_neg c12] at hq
                            by_cases c13 : x1 = 13
                            · rw [if_pos c13] at hq
                              refine E_table (tgt := 170) d_Tc_look_9 (by rw [c13]; decide) (fun _ _ => ⟨161, by rw [c13]; decide, by decide⟩) ?_
                              refine E_aln 1 d_Tc_look_170 rfl rfl ?_
                              obtain ⟨v23, ev23, hq⟩ := bd hq
                              refine E_gR d_Tc_look_171 lk_Tc_10 rfl ev23 ?_
                              obtain ⟨v24, ev24, hq⟩ := bd hq
                              refine E_gR d_Tc_look_174 lk_Tc_155 rfl ev24 ?_
                              obtain ⟨v25, ev25, hq⟩ := bd hq
                              refine E_gI d_Tc_look_177 lk_Tc_144 rfl ev25 ?_
                              exact E_rI d_Tc_look_180 rfl hq
                            · rw [if_neg c13] at hq
                              by_cases c14 : x1 = 14
                              · rw [if_pos c14] at hq
                                refine E_table (tgt := 181) d_Tc_look_9 (by rw [c14]; decide) (fun _ _ => ⟨172, by rw [c14]; decide, by decide⟩) ?_
                                refine E_aln 1 d_Tc_look_181 rfl rfl ?_
                                obtain ⟨v26, ev26, hq⟩ := bd hq
                                refine E_gR d_Tc_look_182 lk_Tc_19 rfl ev26 ?_
                                obtain ⟨v27, ev27, hq⟩ := bd hq
                                refine E_gI d_Tc_look_185 lk_Tc_352 rfl ev27 ?_
                                exact E_rI d_Tc_look_188 rfl hq
                              · rw [if_neg c14] at hq
                                refine E_table (tgt := 189) d_Tc_look_9 (fun _ => by decide) (fun z1 z2 => (tab_out (l := [0, 1, 2, 3, 4, 5, 6, 7, 8, 9, 10, 11, 12, 13, 14]) ⟨(fun z => c0 (z.trans (by decide))), (fun z => c1 (z.trans (by decide))), (fun z => c2 (z.trans (by decide))), (fun z => c3 (z.trans (by decide))), (fun z => c4 (z.trans (by decide))), (fun z => c5 (z.trans (by decide))), (fun z => c6 (z.trans (by decide))), (fun z => c7 (z.trans (by decide))), (fun z => c8 (z.trans (by decide))), (fun z => c9 (z.trans (by decide))), (fun z => c10 (z.trans (by decide))), (fun z => c11 (z.trans (by decide))), (fun z => c12 (z.trans (by decide))), (fun z => c13 (z.trans (by decide))), (fun z => c14 (z.trans (by decide))), trivial⟩ (by decide) z1 z2).elim) ?_
                                refine E_ldcw d_Tc_look_189 kc_Tc_353 ?_
                                exact E_rI d_Tc_look_192 rfl hq
def f_Mo_init (a0 : Nat) (h : PH) : Option (PH) :=
  (nwA h 79 79).bind fun h1 =>
  (stR h1 9 a0 1 (some (gN h))).bind fun h2 =>
  (nwA h2 474 474).bind fun h3 =>
  (stR h3 9 a0 2 (some (gN h2))).bind fun h4 =>
  (nwA h4 79 79).bind fun h5 =>
  (stR h5 9 a0 4 (some (gN h4))).bind fun h6 =>
  (nwA h6 12 12).bind fun h7 =>
  (stR h7 9 a0 8 (some (gN h6))).bind fun h8 =>
  (nwA h8 12 12).bind fun h9 =>
  (stR h9 9 a0 9 (some (gN h8))).bind fun h10 =>
  (nwA h10 6 6).bind fun h11 =>
  (stR h11 9 a0 10 (some (gN h10))).bind fun h12 =>
  (nwA h12 6 6).bind fun h13 =>
  (stR h13 9 a0 11 (some (gN h12))).bind fun h14 =>
  (nwA h14 600 600).bind fun h15 =>
  (stR h15 9 a0 12 (some (gN h14))).bind fun h16 =>
  (nwA h16 400 400).bind fun h17 =>
  (stR h17 9 a0 13 (some (gN h16))).bind fun h18 =>
  (nwA h18 144 144).bind fun h19 =>
  (wrA h19 (gN h18) 0 32).bind fun h20 =>
  (wrA h20 (gN h18) 1 119).bind fun h21 =>
  (wrA h21 (gN h18) 2 101).bind fun h22 =>
  (wrA h22 (gN h18) 3 101).bind fun h23 =>
  (wrA h23 (gN h18) 4 112).bind fun h24 =>
  (wrA h24 (gN h18) 5 32).bind fun h25 =>
  (wrA h25 (gN h18) 6 114).bind fun h26 =>
  (wrA h26 (gN h18) 7 97).bind fun h27 =>
  (wrA h27 (gN h18) 8 116).bind fun h28 =>
  (wrA h28 (gN h18) 9 101).bind fun h29 =>
  (wrA h29 (gN h18) 10 32).bind fun h30 =>
  (wrA h30 (gN h18) 11 102).bind fun h31 =>
  (wrA h31 (gN h18) 12 105).bind fun h32 =>
  (wrA h32 (gN h18) 13 110).bind fun h33 =>
  (wrA h33 (gN h18) 14 100).bind fun h34 =>
  (wrA h34 (gN h18) 15 32).bind fun h35 =>
  (wrA h35 (gN h18) 16 119).bind fun h36 =>
  (wrA h36 (gN h18) 17 104).bind fun h37 =>
  (wrA h37 (gN h18) 18 101).bind fun h38 =>
  (wrA h38 (gN h18) 19 110).bind fun h39 =>
  (wrA h39 (gN h18) 20 32).bind fun h40 =>
  (wrA h40 (gN h18) 21 111).bind fun h41 =>
  (wrA h41 (gN h18) 22 114).bind fun h42 =>
  (wrA h42 (gN h18) 23 32).bind fun h43 =>
  (wrA h43 (gN h18) 24 97).bind fun h44 =>
  (wrA h44 (gN h18) 25 110).bind fun h45 =>
  (wrA h45 (gN h18) 26 100).bind fun h46 =>
  (wrA h46 (gN h18) 27 32).bind fun h47 =>
  (wrA h47 (gN h18) 28 110).bind fun h48 =>
  (wrA h48 (gN h18) 29 111).bind fun h49 =>
  (wrA h49 (gN h18) 30 116).bind fun h50 =>
  (wrA h50 (gN h18) 31 32).bind fun h51 =>
  (wrA h51 (gN h18) 32 99).bind fun h52 =>
  (wrA h52 (gN h18) 33 97).bind fun h53 =>
  (wrA h53 (gN h18) 34 117).bind fun h54 =>
  (wrA h54 (gN h18) 35 115).bind fun h55 =>
  (wrA h55 (gN h18) 36 101).bind fun h56 =>
  (wrA h56 (gN h18) 37 32).bind fun h57 =>
  (wrA h57 (gN h18) 38 103).bind fun h58 =>
  (wrA h58 (gN h18) 39 114).bind fun h59 =>
  (wrA h59 (gN h18) 40 105).bind fun h60 =>
  (wrA h60 (gN h18) 41 112).bind fun h61 =>
  (wrA h61 (gN h18) 42 32).bind fun h62 =>
  (wrA h62 (gN h18) 43 119).bind fun h63 =>
  (wrA h63 (gN h18) 44 101).bind fun h64 =>
  (wrA h64 (gN h18) 45 116).bind fun h65 =>
  (wrA h65 (gN h18) 46 32).bind fun h66 =>
  (wrA h66 (gN h18) 47 99).bind fun h67 =>
  (wrA h67 (gN h18) 48 111).bind fun h68 =>
  (wrA h68 (gN h18) 49 105).bind fun h69 =>
  (wrA h69 (gN h18) 50 110).bind fun h70 =>
  (wrA h70 (gN h18) 51 32).bind fun h71 =>
  (wrA h71 (gN h18) 52 104).bind fun h72 =>
  (wrA h72 (gN h18) 53 111).bind fun h73 =>
  (wrA h73 (gN h18) 54 117).bind fun h74 =>
  (wrA h74 (gN h18) 55 114).bind fun h75 =>
  (wrA h75 (gN h18) 56 32).bind fun h76 =>
  (wrA h76 (gN h18) 57 103).bind fun h77 =>
  (wrA h77 (gN h18) 58 97).bind fun h78 =>
  (wrA h78 (gN h18) 59 116).bind fun h79 =>
  (wrA h79 (gN h18) 60 101).bind fun h80 =>
  (wrA h80 (gN h18) 61 32).bind fun h81 =>
  (wrA h81 (gN h18) 62 110).bind fun h82 =>
  (wrA h82 (gN h18) 63 111).bind fun h83 =>
  (wrA h83 (gN h18) 64 115).bind fun h84 =>
  (wrA h84 (gN h18) 65 101).bind fun h85 =>
  (wrA h85 (gN h18) 66 32).bind fun h86 =>
  (wrA h86 (gN h18) 67 115).bind fun h87 =>
  (wrA h87 (gN h18) 68 111).bind fun h88 =>
  (wrA h88 (gN h18) 69 102).bind fun h89 =>
  (wrA h89 (gN h18) 70 116).bind fun h90 =>
  (wrA h90 (gN h18) 71 32).bind fun h91 =>
  (wrA h91 (gN h18) 72 116).bind fun h92 =>
  (wrA h92 (gN h18) 73 105).bind fun h93 =>
  (wrA h93 (gN h18) 74 114).bind fun h94 =>
  (wrA h94 (gN h18) 75 101).bind fun h95 =>
  (wrA h95 (gN h18) 76 100).bind fun h96 =>
  (wrA h96 (gN h18) 77 32).bind fun h97 =>
  (wrA h97 (gN h18) 78 107).bind fun h98 =>
  (wrA h98 (gN h18) 79 105).bind fun h99 =>
  (wrA h99 (gN h18) 80 110).bind fun h100 =>
  (wrA h100 (gN h18) 81 32).bind fun h101 =>
  (wrA h101 (gN h18) 82 116).bind fun h102 =>
  (wrA h102 (gN h18) 83 114).bind fun h103 =>
  (wrA h103 (gN h18) 84 97).bind fun h104 =>
  (wrA h104 (gN h18) 85 118).bind fun h105 =>
  (wrA h105 (gN h18) 86 101).bind fun h106 =>
  (wrA h106 (gN h18) 87 108).bind fun h107 =>
  (wrA h107 (gN h18) 88 108).bind fun h108 =>
  (wrA h108 (gN h18) 89 101).bind fun h109 =>
  (wrA h109 (gN h18) 90 114).bind fun h110 =>
  (wrA h110 (gN h18) 91 32).bind fun h111 =>
  (wrA h111 (gN h18) 92 119).bind fun h112 =>
  (wrA h112 (gN h18) 93 105).bind fun h113 =>
  (wrA h113 (gN h18) 94 116).bind fun h114 =>
  (wrA h114 (gN h18) 95 104).bind fun h115 =>
  (wrA h115 (gN h18) 96 32).bind fun h116 =>
  (wrA h116 (gN h18) 97 97).bind fun h117 =>
  (wrA h117 (gN h18) 98 116).bind fun h118 =>
  (wrA h118 (gN h18) 99 32).bind fun h119 =>
  (wrA h119 (gN h18) 100 115).bind fun h120 =>
  (wrA h120 (gN h18) 101 101).bind fun h121 =>
  (wrA h121 (gN h18) 102 110).bind fun h122 =>
  (wrA h122 (gN h18) 103 100).bind fun h123 =>
  (wrA h123 (gN h18) 104 32).bind fun h124 =>
  (wrA h124 (gN h18) 105 116).bind fun h125 =>
  (wrA h125 (gN h18) 106 111).bind fun h126 =>
  (wrA h126 (gN h18) 107 32).bind fun h127 =>
  (wrA h127 (gN h18) 108 111).bind fun h128 =>
  (wrA h128 (gN h18) 109 112).bind fun h129 =>
  (wrA h129 (gN h18) 110 101).bind fun h130 =>
  (wrA h130 (gN h18) 111 110).bind fun h131 =>
  (wrA h131 (gN h18) 112 32).bind fun h132 =>
  (wrA h132 (gN h18) 113 99).bind fun h133 =>
  (wrA h133 (gN h18) 114 108).bind fun h134 =>
  (wrA h134 (gN h18) 115 111).bind fun h135 =>
  (wrA h135 (gN h18) 116 115).bind fun h136 =>
  (wrA h136 (gN h18) 117 101).bind fun h137 =>
  (wrA h137 (gN h18) 118 32).bind fun h138 =>
  (wrA h138 (gN h18) 119 109).bind fun h139 =>
  (wrA h139 (gN h18) 120 111).bind fun h140 =>
  (wrA h140 (gN h18) 121 118).bind fun h141 =>
  (wrA h141 (gN h18) 122 101).bind fun h142 =>
  (wrA h142 (gN h18) 123 32).bind fun h143 =>
  (wrA h143 (gN h18) 124 106).bind fun h144 =>
  (wrA h144 (gN h18) 125 111).bind fun h145 =>
  (wrA h145 (gN h18) 126 107).bind fun h146 =>
  (wrA h146 (gN h18) 127 101).bind fun h147 =>
  (wrA h147 (gN h18) 128 32).bind fun h148 =>
  (wrA h148 (gN h18) 129 111).bind fun h149 =>
  (wrA h149 (gN h18) 130 110).bind fun h150 =>
  (wrA h150 (gN h18) 131 105).bind fun h151 =>
  (wrA h151 (gN h18) 132 111).bind fun h152 =>
  (wrA h152 (gN h18) 133 110).bind fun h153 =>
  (wrA h153 (gN h18) 134 32).bind fun h154 =>
  (wrA h154 (gN h18) 135 114).bind fun h155 =>
  (wrA h155 (gN h18) 136 111).bind fun h156 =>
  (wrA h156 (gN h18) 137 97).bind fun h157 =>
  (wrA h157 (gN h18) 138 100).bind fun h158 =>
  (wrA h158 (gN h18) 139 32).bind fun h159 =>
  (wrA h159 (gN h18) 140 100).bind fun h160 =>
  (wrA h160 (gN h18) 141 114).bind fun h161 =>
  (wrA h161 (gN h18) 142 121).bind fun h162 =>
  (wrA h162 (gN h18) 143 32).bind fun h163 =>
  (stR h163 9 a0 19 (some (gN h18))).bind fun h164 =>
  (nwA h164 2 2).bind fun h165 =>
  (stR h165 9 a0 20 (some (gN h164))).bind fun h166 =>
  (nwA h166 48 48).bind fun h167 =>
  (stR h167 9 a0 21 (some (gN h166))).bind fun h168 =>
  (nwA h168 48 48).bind fun h169 =>
  (stR h169 9 a0 22 (some (gN h168))).bind fun h170 =>
  (nwA h170 48 48).bind fun h171 =>
  (stR h171 9 a0 23 (some (gN h170))).bind fun h172 =>
  (nwA h172 48 48).bind fun h173 =>
  (stR h173 9 a0 24 (some (gN h172))).bind fun h174 =>
  (nwA h174 1200 1200).bind fun h175 =>
  (stR h175 9 a0 25 (some (gN h174))).bind fun h176 =>
  (nwA h176 1200 1200).bind fun h177 =>
  (stR h177 9 a0 26 (some (gN h176))).bind fun h178 =>
  (nwA h178 40 40).bind fun h179 =>
  (stR h179 9 a0 30 (some (gN h178))).bind fun h180 =>
  (stI h180 9 a0 35 (-1)).bind fun h181 =>
  (nwA h181 24 24).bind fun h182 =>
  (stR h182 9 a0 37 (some (gN h181))).bind fun h183 =>
  (nwA h183 128 128).bind fun h184 =>
  (stR h184 9 a0 39 (some (gN h183))).bind fun h185 =>
  (nwA h185 128 128).bind fun h186 =>
  (stR h186 9 a0 41 (some (gN h185))).bind fun h187 =>
  (nwA h187 10 10).bind fun h188 =>
  (stR h188 9 a0 42 (some (gN h187))).bind fun h189 =>
  (nwA h189 420 420).bind fun h190 =>
  (stR h190 9 a0 43 (some (gN h189))).bind fun h191 =>
  (nwA h191 8 8).bind fun h192 =>
  (stR h192 9 a0 45 (some (gN h191))).bind fun h193 =>
  (nwA h193 8 8).bind fun h194 =>
  (stR h194 9 a0 46 (some (gN h193))).bind fun h195 =>
  (nwA h195 8 8).bind fun h196 =>
  (stR h196 9 a0 47 (some (gN h195))).bind fun h197 =>
  (nwA h197 6 6).bind fun h198 =>
  (stR h198 9 a0 49 (some (gN h197))).bind fun h199 =>
  (nwA h199 64 64).bind fun h200 =>
  (stR h200 9 a0 50 (some (gN h199))).bind fun h201 =>
  (nwA h201 64 64).bind fun h202 =>
  (stR h202 9 a0 51 (some (gN h201))).bind fun h203 =>
  (nwA h203 8 8).bind fun h204 =>
  (stR h204 9 a0 53 (some (gN h203))).bind fun h205 =>
  (nwA h205 256 256).bind fun h206 =>
  (stR h206 9 a0 54 (some (gN h205))).bind fun h207 =>
  (nwA h207 10 10).bind fun h208 =>
  (stR h208 9 a0 57 (some (gN h207))).bind fun h209 =>
  (nwA h209 6 6).bind fun h210 =>
  (stR h210 9 a0 58 (some (gN h209))).bind fun h211 =>
  (nwA h211 6 6).bind fun h212 =>
  (stR h212 9 a0 59 (some (gN h211))).bind fun h213 =>
  (nwA h213 10 10).bind fun h214 =>
  (stR h214 9 a0 60 (some (gN h213))).bind fun h215 =>
  (nwA h215 10 10).bind fun h216 =>
  (stR h216 9 a0 61 (some (gN h215))).bind fun h217 =>
  (nwA h217 24 24).bind fun h218 =>
  (stR h218 9 a0 62 (some (gN h217))).bind fun h219 =>
  (nwA h219 12 12).bind fun h220 =>
  (stR h220 9 a0 64 (some (gN h219))).bind fun h221 =>
  (nwA h221 4 4).bind fun h222 =>
  (stR h222 9 a0 65 (some (gN h221))).bind fun h223 =>
  (nwA h223 4 4).bind fun h224 =>
  (stR h224 9 a0 66 (some (gN h223))).bind fun h225 =>
  (nwA h225 24 24).bind fun h226 =>
  (stR h226 9 a0 67 (some (gN h225))).bind fun h227 =>
  (nwA h227 2100 2100).bind fun h228 =>
  (stR h228 9 a0 73 (some (gN h227))).bind fun h229 =>
  some h229
theorem t_Mo_init {d : Nat} (hd : 1 ≤ d) {mc ms : Nat} (hmc : 42 ≤ mc) (hms : 7788 ≤ ms) {a0 : Nat} {h : PH} {r : PH} (hq : f_Mo_init a0 h = some r) : E d mc ms m_Mo_init 0 [(0, .ref a0)] [] h (PV r) := by
  unfold f_Mo_init at hq
  obtain ⟨d, rfl⟩ : ∃ e, d = e + 1 := ⟨d - 1, by omega⟩
  refine E_aln 0 d_Mo_init_0 rfl rfl ?_
  refine E_obj d_Mo_init_1 kj_Mo_1 (Nat.le_of_ble_eq_true rfl) ?_
  refine E_aln 0 d_Mo_init_4 rfl rfl ?_
  refine E_bi (v := 79) d_Mo_init_5 (by decide) ?_
  obtain ⟨h1, eh1, hq⟩ := bd hq
  refine E_na (mc' := mc - 1) (ms' := ms - 79) d_Mo_init_7 eh1 (by omega) (by omega) ?_
  obtain ⟨h2, eh2, hq⟩ := bd hq
  refine E_pR d_Mo_init_9 lp_Mo_i_7 rfl eh2 ?_
  refine E_aln 0 d_Mo_init_12 rfl rfl ?_
  refine E_si (v := 474) d_Mo_init_13 (by decide) ?_
  obtain ⟨h3, eh3, hq⟩ := bd hq
  refine E_na (mc' := mc - 2) (ms' := ms - 553) d_Mo_init_16 eh3 (by omega) (by omega) ?_
  obtain ⟨h4, eh4, hq⟩ := bd hq
  refine E_pR d_Mo_init_18 lp_Mo_i_13 rfl eh4 ?_
  refine E_aln 0 d_Mo_init_21 rfl rfl ?_
  refine E_bi (v := 79) d_Mo_init_22 (by decide) ?_
  obtain ⟨h5, eh5, hq⟩ := bd hq
  refine E_na (mc' := mc - 3) (ms' := ms - 632) d_Mo_init_24 eh5 (by omega) (by omega) ?_
  obtain ⟨h6, eh6, hq⟩ := bd hq
  refine E_pR d_Mo_init_26 lp_Mo_i_16 rfl eh6 ?_
  refine E_aln 0 d_Mo_init_29 rfl rfl ?_
  refine E_bi (v := 12) d_Mo_init_30 (by decide) ?_
  obtain ⟨h7, eh7, hq⟩ := bd hq
  refine E_na (mc' := mc - 4) (ms' := ms - 644) d_Mo_init_32 eh7 (by omega) (by omega) ?_
  obtain ⟨h8, eh8, hq⟩ := bd hq
  refine E_pR d_Mo_init_34 lp_Mo_i_19 rfl eh8 ?_
  refine E_aln 0 d_Mo_init_37 rfl rfl ?_
  refine E_bi (v := 12) d_Mo_init_38 (by decide) ?_
  obtain ⟨h9, eh9, hq⟩ := bd hq
  refine E_na (mc' := mc - 5) (ms' := ms - 656) d_Mo_init_40 eh9 (by omega) (by omega) ?_
  obtain ⟨h10, eh10, hq⟩ := bd hq
  refine E_pR d_Mo_init_42 lp_Mo_i_22 rfl eh10 ?_
  refine E_aln 0 d_Mo_init_45 rfl rfl ?_
  refine E_bi (v := 6) d_Mo_init_46 (by decide) ?_
  obtain ⟨h11, eh11, hq⟩ := bd hq
  refine E_na (mc' := mc - 6) (ms' := ms - 662) d_Mo_init_48 eh11 (by omega) (by omega) ?_
  obtain ⟨h12, eh12, hq⟩ := bd hq
  refine E_pR d_Mo_init_50 lp_Mo_i_25 rfl eh12 ?_
  refine E_aln 0 d_Mo_init_53 rfl rfl ?_
  refine E_bi (v := 6) d_Mo_init_54 (by decide) ?_
  obtain ⟨h13, eh13, hq⟩ := bd hq
  refine E_na (mc' := mc - 7) (ms' := ms - 668) d_Mo_init_56 eh13 (by omega) (by omega) ?_
  obtain ⟨h14, eh14, hq⟩ := bd hq
  refine E_pR d_Mo_init_58 lp_Mo_i_28 rfl eh14 ?_
  refine E_aln 0 d_Mo_init_61 rfl rfl ?_
  refine E_si (v := 600) d_Mo_init_62 (by decide) ?_
  obtain ⟨h15, eh15, hq⟩ := bd hq
  refine E_na (mc' := mc - 8) (ms' := ms - 1268) d_Mo_init_65 eh15 (by omega) (by omega) ?_
  obtain ⟨h16, eh16, hq⟩ := bd hq
  refine E_pR d_Mo_init_67 lp_Mo_i_31 rfl eh16 ?_
  refine E_aln 0 d_Mo_init_70 rfl rfl ?_
  refine E_si (v := 400) d_Mo_init_71 (by decide) ?_
  obtain ⟨h17, eh17, hq⟩ := bd hq
  refine E_na (mc' := mc - 9) (ms' := ms - 1668) d_Mo_init_74 eh17 (by omega) (by omega) ?_
  obtain ⟨h18, eh18, hq⟩ := bd hq
  refine E_pR d_Mo_init_76 lp_Mo_i_34 rfl eh18 ?_
  refine E_aln 0 d_Mo_init_79 rfl rfl ?_
  refine E_si (v := 144) d_Mo_init_80 (by decide) ?_
  obtain ⟨h19, eh19, hq⟩ := bd hq
  refine E_na (mc' := mc - 10) (ms' := ms - 1812) d_Mo_init_83 eh19 (by omega) (by omega) ?_
  refine E_dupr d_Mo_init_85 ?_
  refine E_ic (v := 0) d_Mo_init_86 (by decide) ?_
  refine E_bi (v := 32) d_Mo_init_87 (by decide) ?_
  obtain ⟨h20, eh20, hq⟩ := bd hq
  refine E_wa d_Mo_init_89 eh20 ?_
  refine E_dupr d_Mo_init_90 ?_
  refine E_ic (v := 1) d_Mo_init_91 (by decide) ?_
  refine E_bi (v := 119) d_Mo_init_92 (by decide) ?_
  obtain ⟨h21, eh21, hq⟩ := bd hq
  refine E_wa d_Mo_init_94 eh21 ?_
  refine E_dupr d_Mo_init_95 ?_
  refine E_ic (v := 2) d_Mo_init_96 (by decide) ?_
  refine E_bi (v := 101) d_Mo_init_97 (by decide) ?_
  obtain ⟨h22, eh22, hq⟩ := bd hq
  refine E_wa d_Mo_init_99 eh22 ?_
  refine E_dupr d_Mo_init_100 ?_
  refine E_ic (v := 3) d_Mo_init_101 (by decide) ?_
  refine E_bi (v := 101) d_Mo_init_102 (by decide) ?_
  obtain ⟨h23, eh23, hq⟩ := bd hq
  refine E_wa d_Mo_init_104 eh23 ?_
  refine E_dupr d_Mo_init_105 ?_
  refine E_ic (v := 4) d_Mo_init_106 (by decide) ?_
  refine E_bi (v := 112) d_Mo_init_107 (by decide) ?_
  obtain ⟨h24, eh24, hq⟩ := bd hq
  refine E_wa d_Mo_init_109 eh24 ?_
  refine E_dupr d_Mo_init_110 ?_
  refine E_ic (v := 5) d_Mo_init_111 (by decide) ?_
  refine E_bi (v := 32) d_Mo_init_112 (by decide) ?_
  obtain ⟨h25, eh25, hq⟩ := bd hq
  refine E_wa d_Mo_init_114 eh25 ?_
  refine E_dupr d_Mo_init_115 ?_
  refine E_bi (v := 6) d_Mo_init_116 (by decide) ?_
  refine E_bi (v := 114) d_Mo_init_118 (by decide) ?_
  obtain ⟨h26, eh26, hq⟩ := bd hq
  refine E_wa d_Mo_init_120 eh26 ?_
  refine E_dupr d_Mo_init_121 ?_
  refine E_bi (v := 7) d_Mo_init_122 (by decide) ?_
  refine E_bi (v := 97) d_Mo_init_124 (by decide) ?_
  obtain ⟨h27, eh27, hq⟩ := bd hq
  refine E_wa d_Mo_init_126 eh27 ?_
  refine E_dupr d_Mo_init_127 ?_
  refine E_bi (v := 8) d_Mo_init_128 (by decide) ?_
  refine E_bi (v := 116) d_Mo_init_130 (by decide) ?_
  obtain ⟨h28, eh28, hq⟩ := bd hq
  refine E_wa d_Mo_init_132 eh28 ?_
  refine E_dupr d_Mo_init_133 ?_
  refine E_bi (v := 9) d_Mo_init_134 (by decide) ?_
  refine E_bi (v := 101) d_Mo_init_136 (by decide) ?_
  obtain ⟨h29, eh29, hq⟩ := bd hq
  refine E_wa d_Mo_init_138 eh29 ?_
  refine E_dupr d_Mo_init_139 ?_
  refine E_bi (v := 10) d_Mo_init_140 (by decide) ?_
  refine E_bi (v := 32) d_Mo_init_142 (by decide) ?_
  obtain ⟨h30, eh30, hq⟩ := bd hq
  refine E_wa d_Mo_init_144 eh30 ?_
  refine E_dupr d_Mo_init_145 ?_
  refine E_bi (v := 11) d_Mo_init_146 (by decide) ?_
  refine E_bi (v := 102) d_Mo_init_148 (by decide) ?_
  obtain ⟨h31, eh31, hq⟩ := bd hq
  refine E_wa d_Mo_init_150 eh31 ?_
  refine E_dupr d_Mo_init_151 ?_
  refine E_bi (v := 12) d_Mo_init_152 (by decide) ?_
  refine E_bi (v := 105) d_Mo_init_154 (by decide) ?_
  obtain ⟨h32, eh32, hq⟩ := bd hq
  refine E_wa d_Mo_init_156 eh32 ?_
  refine E_dupr d_Mo_init_157 ?_
  refine E_bi (v := 13) d_Mo_init_158 (by decide) ?_
  refine E_bi (v := 110) d_Mo_init_160 (by decide) ?_
  obtain ⟨h33, eh33, hq⟩ := bd hq
  refine E_wa d_Mo_init_162 eh33 ?_
  refine E_dupr d_Mo_init_163 ?_
  refine E_bi (v := 14) d_Mo_init_164 (by decide) ?_
  refine E_bi (v := 100) d_Mo_init_166 (by decide) ?_
  obtain ⟨h34, eh34, hq⟩ := bd hq
  refine E_wa d_Mo_init_168 eh34 ?_
  refine E_dupr d_Mo_init_169 ?_
  refine E_bi (v := 15) d_Mo_init_170 (by decide) ?_
  refine E_bi (v := 32) d_Mo_init_172 (by decide) ?_
  obtain ⟨h35, eh35, hq⟩ := bd hq
  refine E_wa d_Mo_init_174 eh35 ?_
  refine E_dupr d_Mo_init_175 ?_
  refine E_bi (v := 16) d_Mo_init_176 (by decide) ?_
  refine E_bi (v := 119) d_Mo_init_178 (by decide) ?_
  obtain ⟨h36, eh36, hq⟩ := bd hq
  refine E_wa d_Mo_init_180 eh36 ?_
  refine E_dupr d_Mo_init_181 ?_
  refine E_bi (v := 17) d_Mo_init_182 (by decide) ?_
  refine E_bi (v := 104) d_Mo_init_184 (by decide) ?_
  obtain ⟨h37, eh37, hq⟩ := bd hq
  refine E_wa d_Mo_init_186 eh37 ?_
  refine E_dupr d_Mo_init_187 ?_
  refine E_bi (v := 18) d_Mo_init_188 (by decide) ?_
  refine E_bi (v := 101) d_Mo_init_190 (by decide) ?_
  obtain ⟨h38, eh38, hq⟩ := bd hq
  refine E_wa d_Mo_init_192 eh38 ?_
  refine E_dupr d_Mo_init_193 ?_
  refine E_bi (v := 19) d_Mo_init_194 (by decide) ?_
  refine E_bi (v := 110) d_Mo_init_196 (by decide) ?_
  obtain ⟨h39, eh39, hq⟩ := bd hq
  refine E_wa d_Mo_init_198 eh39 ?_
  refine E_dupr d_Mo_init_199 ?_
  refine E_bi (v := 20) d_Mo_init_200 (by decide) ?_
  refine E_bi (v := 32) d_Mo_init_202 (by decide) ?_
  obtain ⟨h40, eh40, hq⟩ := bd hq
  refine E_wa d_Mo_init_204 eh40 ?_
  refine E_dupr d_Mo_init_205 ?_
  refine E_bi (v := 21) d_Mo_init_206 (by decide) ?_
  refine E_bi (v := 111) d_Mo_init_208 (by decide) ?_
  obtain ⟨h41, eh41, hq⟩ := bd hq
  refine E_wa d_Mo_init_210 eh41 ?_
  refine E_dupr d_Mo_init_211 ?_
  refine E_bi (v := 22) d_Mo_init_212 (by decide) ?_
  refine E_bi (v := 114) d_Mo_init_214 (by decide) ?_
  obtain ⟨h42, eh42, hq⟩ := bd hq
  refine E_wa d_Mo_init_216 eh42 ?_
  refine E_dupr d_Mo_init_217 ?_
  refine E_bi (v := 23) d_Mo_init_218 (by decide) ?_
  refine E_bi (v := 32) d_Mo_init_220 (by decide) ?_
  obtain ⟨h43, eh43, hq⟩ := bd hq
  refine E_wa d_Mo_init_222 eh43 ?_
  refine E_dupr d_Mo_init_223 ?_
  refine E_bi (v := 24) d_Mo_init_224 (by decide) ?_
  refine E_bi (v := 97) d_Mo_init_226 (by decide) ?_
  obtain ⟨h44, eh44, hq⟩ := bd hq
  refine E_wa d_Mo_init_228 eh44 ?_
  refine E_dupr d_Mo_init_229 ?_
  refine E_bi (v := 25) d_Mo_init_230 (by decide) ?_
  refine E_bi (v := 110) d_Mo_init_232 (by decide) ?_
  obtain ⟨h45, eh45, hq⟩ := bd hq
  refine E_wa d_Mo_init_234 eh45 ?_
  refine E_dupr d_Mo_init_235 ?_
  refine E_bi (v := 26) d_Mo_init_236 (by decide) ?_
  refine E_bi (v := 100) d_Mo_init_238 (by decide) ?_
  obtain ⟨h46, eh46, hq⟩ := bd hq
  refine E_wa d_Mo_init_240 eh46 ?_
  refine E_dupr d_Mo_init_241 ?_
  refine E_bi (v := 27) d_Mo_init_242 (by decide) ?_
  refine E_bi (v := 32) d_Mo_init_244 (by decide) ?_
  obtain ⟨h47, eh47, hq⟩ := bd hq
  refine E_wa d_Mo_init_246 eh47 ?_
  refine E_dupr d_Mo_init_247 ?_
  refine E_bi (v := 28) d_Mo_init_248 (by decide) ?_
  refine E_bi (v := 110) d_Mo_init_250 (by decide) ?_
  obtain ⟨h48, eh48, hq⟩ := bd hq
  refine E_wa d_Mo_init_252 eh48 ?_
  refine E_dupr d_Mo_init_253 ?_
  refine E_bi (v := 29) d_Mo_init_254 (by decide) ?_
  refine E_bi (v := 111) d_Mo_init_256 (by decide) ?_
  obtain ⟨h49, eh49, hq⟩ := bd hq
  refine E_wa d_Mo_init_258 eh49 ?_
  refine E_dupr d_Mo_init_259 ?_
  refine E_bi (v := 30) d_Mo_init_260 (by decide) ?_
  refine E_bi (v := 116) d_Mo_init_262 (by decide) ?_
  obtain ⟨h50, eh50, hq⟩ := bd hq
  refine E_wa d_Mo_init_264 eh50 ?_
  refine E_dupr d_Mo_init_265 ?_
  refine E_bi (v := 31) d_Mo_init_266 (by decide) ?_
  refine E_bi (v := 32) d_Mo_init_268 (by decide) ?_
  obtain ⟨h51, eh51, hq⟩ := bd hq
  refine E_wa d_Mo_init_270 eh51 ?_
  refine E_dupr d_Mo_init_271 ?_
  refine E_bi (v := 32) d_Mo_init_272 (by decide) ?_
  refine E_bi (v := 99) d_Mo_init_274 (by decide) ?_
  obtain ⟨h52, eh52, hq⟩ := bd hq
  refine E_wa d_Mo_init_276 eh52 ?_
  refine E_dupr d_Mo_init_277 ?_
  refine E_bi (v := 33) d_Mo_init_278 (by decide) ?_
  refine E_bi (v := 97) d_Mo_init_280 (by decide) ?_
  obtain ⟨h53, eh53, hq⟩ := bd hq
  refine E_wa d_Mo_init_282 eh53 ?_
  refine E_dupr d_Mo_init_283 ?_
  refine E_bi (v := 34) d_Mo_init_284 (by decide) ?_
  refine E_bi (v := 117) d_Mo_init_286 (by decide) ?_
  obtain ⟨h54, eh54, hq⟩ := bd hq
  refine E_wa d_Mo_init_288 eh54 ?_
  refine E_dupr d_Mo_init_289 ?_
  refine E_bi (v := 35) d_Mo_init_290 (by decide) ?_
  refine E_bi (v := 115) d_Mo_init_292 (by decide) ?_
  obtain ⟨h55, eh55, hq⟩ := bd hq
  refine E_wa d_Mo_init_294 eh55 ?_
  refine E_dupr d_Mo_init_295 ?_
  refine E_bi (v := 36) d_Mo_init_296 (by decide) ?_
  refine E_bi (v := 101) d_Mo_init_298 (by decide) ?_
  obtain ⟨h56, eh56, hq⟩ := bd hq
  refine E_wa d_Mo_init_300 eh56 ?_
  refine E_dupr d_Mo_init_301 ?_
  refine E_bi (v := 37) d_Mo_init_302 (by decide) ?_
  refine E_bi (v := 32) d_Mo_init_304 (by decide) ?_
  obtain ⟨h57, eh57, hq⟩ := bd hq
  refine E_wa d_Mo_init_306 eh57 ?_
  refine E_dupr d_Mo_init_307 ?_
  refine E_bi (v := 38) d_Mo_init_308 (by decide) ?_
  refine E_bi (v := 103) d_Mo_init_310 (by decide) ?_
  obtain ⟨h58, eh58, hq⟩ := bd hq
  refine E_wa d_Mo_init_312 eh58 ?_
  refine E_dupr d_Mo_init_313 ?_
  refine E_bi (v := 39) d_Mo_init_314 (by decide) ?_
  refine E_bi (v := 114) d_Mo_init_316 (by decide) ?_
  obtain ⟨h59, eh59, hq⟩ := bd hq
  refine E_wa d_Mo_init_318 eh59 ?_
  refine E_dupr d_Mo_init_319 ?_
  refine E_bi (v := 40) d_Mo_init_320 (by decide) ?_
  refine E_bi (v := 105) d_Mo_init_322 (by decide) ?_
  obtain ⟨h60, eh60, hq⟩ := bd hq
  refine E_wa d_Mo_init_324 eh60 ?_
  refine E_dupr d_Mo_init_325 ?_
  refine E_bi (v := 41) d_Mo_init_326 (by decide) ?_
  refine E_bi (v := 112) d_Mo_init_328 (by decide) ?_
  obtain ⟨h61, eh61, hq⟩ := bd hq
  refine E_wa d_Mo_init_330 eh61 ?_
  refine E_dupr d_Mo_init_331 ?_
  refine E_bi (v := 42) d_Mo_init_332 (by decide) ?_
  refine E_bi (v := 32) d_Mo_init_334 (by decide) ?_
  obtain ⟨h62, eh62, hq⟩ := bd hq
  refine E_wa d_Mo_init_336 eh62 ?_
  refine E_dupr d_Mo_init_337 ?_
  refine E_bi (v := 43) d_Mo_init_338 (by decide) ?_
  refine E_bi (v := 119) d_Mo_init_340 (by decide) ?_
  obtain ⟨h63, eh63, hq⟩ := bd hq
  refine E_wa d_Mo_init_342 eh63 ?_
  refine E_dupr d_Mo_init_343 ?_
  refine E_bi (v := 44) d_Mo_init_344 (by decide) ?_
  refine E_bi (v := 101) d_Mo_init_346 (by decide) ?_
  obtain ⟨h64, eh64, hq⟩ := bd hq
  refine E_wa d_Mo_init_348 eh64 ?_
  refine E_dupr d_Mo_init_349 ?_
  refine E_bi (v := 45) d_Mo_init_350 (by decide) ?_
  refine E_bi (v := 116) d_Mo_init_352 (by decide) ?_
  obtain ⟨h65, eh65, hq⟩ := bd hq
  refine E_wa d_Mo_init_354 eh65 ?_
  refine E_dupr d_Mo_init_355 ?_
  refine E_bi (v := 46) d_Mo_init_356 (by decide) ?_
  refine E_bi (v := 32) d_Mo_init_358 (by decide) ?_
  obtain ⟨h66, eh66, hq⟩ := bd hq
  refine E_wa d_Mo_init_360 eh66 ?_
  refine E_dupr d_Mo_init_361 ?_
  refine E_bi (v := 47) d_Mo_init_362 (by decide) ?_
  refine E_bi (v := 99) d_Mo_init_364 (by decide) ?_
  obtain ⟨h67, eh67, hq⟩ := bd hq
  refine E_wa d_Mo_init_366 eh67 ?_
  refine E_dupr d_Mo_init_367 ?_
  refine E_bi (v := 48) d_Mo_init_368 (by decide) ?_
  refine E_bi (v := 111) d_Mo_init_370 (by decide) ?_
  obtain ⟨h68, eh68, hq⟩ := bd hq
  refine E_wa d_Mo_init_372 eh68 ?_
  refine E_dupr d_Mo_init_373 ?_
  refine E_bi (v := 49) d_Mo_init_374 (by decide) ?_
  refine E_bi (v := 105) d_Mo_init_376 (by decide) ?_
  obtain ⟨h69, eh69, hq⟩ := bd hq
  refine E_wa d_Mo_init_378 eh69 ?_
  refine E_dupr d_Mo_init_379 ?_
  refine E_bi (v := 50) d_Mo_init_380 (by decide) ?_
  refine E_bi (v := 110) d_Mo_init_382 (by decide) ?_
  obtain ⟨h70, eh70, hq⟩ := bd hq
  refine E_wa d_Mo_init_384 eh70 ?_
  refine E_dupr d_Mo_init_385 ?_
  refine E_bi (v := 51) d_Mo_init_386 (by decide) ?_
  refine E_bi (v := 32) d_Mo_init_388 (by decide) ?_
  obtain ⟨h71, eh71, hq⟩ := bd hq
  refine E_wa d_Mo_init_390 eh71 ?_
  refine E_dupr d_Mo_init_391 ?_
  refine E_bi (v := 52) d_Mo_init_392 (by decide) ?_
  refine E_bi (v := 104) d_Mo_init_394 (by decide) ?_
  obtain ⟨h72, eh72, hq⟩ := bd hq
  refine E_wa d_Mo_init_396 eh72 ?_
  refine E_dupr d_Mo_init_397 ?_
  refine E_bi (v := 53) d_Mo_init_398 (by decide) ?_
  refine E_bi (v := 111) d_Mo_init_400 (by decide) ?_
  obtain ⟨h73, eh73, hq⟩ := bd hq
  refine E_wa d_Mo_init_402 eh73 ?_
  refine E_dupr d_Mo_init_403 ?_
  refine E_bi (v := 54) d_Mo_init_404 (by decide) ?_
  refine E_bi (v := 117) d_Mo_init_406 (by decide) ?_
  obtain ⟨h74, eh74, hq⟩ := bd hq
  refine E_wa d_Mo_init_408 eh74 ?_
  refine E_dupr d_Mo_init_409 ?_
  refine E_bi (v := 55) d_Mo_init_410 (by decide) ?_
  refine E_bi (v := 114) d_Mo_init_412 (by decide) ?_
  obtain ⟨h75, eh75, hq⟩ := bd hq
  refine E_wa d_Mo_init_414 eh75 ?_
  refine E_dupr d_Mo_init_415 ?_
  refine E_bi (v := 56) d_Mo_init_416 (by decide) ?_
  refine E_bi (v := 32) d_Mo_init_418 (by decide) ?_
  obtain ⟨h76, eh76, hq⟩ := bd hq
  refine E_wa d_Mo_init_420 eh76 ?_
  refine E_dupr d_Mo_init_421 ?_
  refine E_bi (v := 57) d_Mo_init_422 (by decide) ?_
  refine E_bi (v := 103) d_Mo_init_424 (by decide) ?_
  obtain ⟨h77, eh77, hq⟩ := bd hq
  refine E_wa d_Mo_init_426 eh77 ?_
  refine E_dupr d_Mo_init_427 ?_
  refine E_bi (v := 58) d_Mo_init_428 (by decide) ?_
  refine E_bi (v := 97) d_Mo_init_430 (by decide) ?_
  obtain ⟨h78, eh78, hq⟩ := bd hq
  refine E_wa d_Mo_init_432 eh78 ?_
  refine E_dupr d_Mo_init_433 ?_
  refine E_bi (v := 59) d_Mo_init_434 (by decide) ?_
  refine E_bi (v := 116) d_Mo_init_436 (by decide) ?_
  obtain ⟨h79, eh79, hq⟩ := bd hq
  refine E_wa d_Mo_init_438 eh79 ?_
  refine E_dupr d_Mo_init_439 ?_
  refine E_bi (v := 60) d_Mo_init_440 (by decide) ?_
  refine E_bi (v := 101) d_Mo_init_442 (by decide) ?_
  obtain ⟨h80, eh80, hq⟩ := bd hq
  refine E_wa d_Mo_init_444 eh80 ?_
  refine E_dupr d_Mo_init_445 ?_
  refine E_bi (v := 61) d_Mo_init_446 (by decide) ?_
  refine E_bi (v := 32) d_Mo_init_448 (by decide) ?_
  obtain ⟨h81, eh81, hq⟩ := bd hq
  refine E_wa d_Mo_init_450 eh81 ?_
  refine E_dupr d_Mo_init_451 ?_
  refine E_bi (v := 62) d_Mo_init_452 (by decide) ?_
  refine E_bi (v := 110) d_Mo_init_454 (by decide) ?_
  obtain ⟨h82, eh82, hq⟩ := bd hq
  refine E_wa d_Mo_init_456 eh82 ?_
  refine E_dupr d_Mo_init_457 ?_
  refine E_bi (v := 63) d_Mo_init_458 (by decide) ?_
  refine E_bi (v := 111) d_Mo_init_460 (by decide) ?_
  obtain ⟨h83, eh83, hq⟩ := bd hq
  refine E_wa d_Mo_init_462 eh83 ?_
  refine E_dupr d_Mo_init_463 ?_
  refine E_bi (v := 64) d_Mo_init_464 (by decide) ?_
  refine E_bi (v := 115) d_Mo_init_466 (by decide) ?_
  obtain ⟨h84, eh84, hq⟩ := bd hq
  refine E_wa d_Mo_init_468 eh84 ?_
  refine E_dupr d_Mo_init_469 ?_
  refine E_bi (v := 65) d_Mo_init_470 (by decide) ?_
  refine E_bi (v := 101) d_Mo_init_472 (by decide) ?_
  obtain ⟨h85, eh85, hq⟩ := bd hq
  refine E_wa d_Mo_init_474 eh85 ?_
  refine E_dupr d_Mo_init_475 ?_
  refine E_bi (v := 66) d_Mo_init_476 (by decide) ?_
  refine E_bi (v := 32) d_Mo_init_478 (by decide) ?_
  obtain ⟨h86, eh86, hq⟩ := bd hq
  refine E_wa d_Mo_init_480 eh86 ?_
  refine E_dupr d_Mo_init_481 ?_
  refine E_bi (v := 67) d_Mo_init_482 (by decide) ?_
  refine E_bi (v := 115) d_Mo_init_484 (by decide) ?_
  obtain ⟨h87, eh87, hq⟩ := bd hq
  refine E_wa d_Mo_init_486 eh87 ?_
  refine E_dupr d_Mo_init_487 ?_
  refine E_bi (v := 68) d_Mo_init_488 (by decide) ?_
  refine E_bi (v := 111) d_Mo_init_490 (by decide) ?_
  obtain ⟨h88, eh88, hq⟩ := bd hq
  refine E_wa d_Mo_init_492 eh88 ?_
  refine E_dupr d_Mo_init_493 ?_
  refine E_bi (v := 69) d_Mo_init_494 (by decide) ?_
  refine E_bi (v := 102) d_Mo_init_496 (by decide) ?_
  obtain ⟨h89, eh89, hq⟩ := bd hq
  refine E_wa d_Mo_init_498 eh89 ?_
  refine E_dupr d_Mo_init_499 ?_
  refine E_bi (v := 70) d_Mo_init_500 (by decide) ?_
  refine E_bi (v := 116) d_Mo_init_502 (by decide) ?_
  obtain ⟨h90, eh90, hq⟩ := bd hq
  refine E_wa d_Mo_init_504 eh90 ?_
  refine E_dupr d_Mo_init_505 ?_
  refine E_bi (v := 71) d_Mo_init_506 (by decide) ?_
  refine E_bi (v := 32) d_Mo_init_508 (by decide) ?_
  obtain ⟨h91, eh91, hq⟩ := bd hq
  refine E_wa d_Mo_init_510 eh91 ?_
  refine E_dupr d_Mo_init_511 ?_
  refine E_bi (v := 72) d_Mo_init_512 (by decide) ?_
  refine E_bi (v := 116) d_Mo_init_514 (by decide) ?_
  obtain ⟨h92, eh92, hq⟩ := bd hq
  refine E_wa d_Mo_init_516 eh92 ?_
  refine E_dupr d_Mo_init_517 ?_
  refine E_bi (v := 73) d_Mo_init_518 (by decide) ?_
  refine E_bi (v := 105) d_Mo_init_520 (by decide) ?_
  obtain ⟨h93, eh93, hq⟩ := bd hq
  refine E_wa d_Mo_init_522 eh93 ?_
  refine E_dupr d_Mo_init_523 ?_
  refine E_bi (v := 74) d_Mo_init_524 (by decide) ?_
  refine E_bi (v := 114) d_Mo_init_526 (by decide) ?_
  obtain ⟨h94, eh94, hq⟩ := bd hq
  refine E_wa d_Mo_init_528 eh94 ?_
  refine E_dupr d_Mo_init_529 ?_
  refine E_bi (v := 75) d_Mo_init_530 (by decide) ?_
  refine E_bi (v := 101) d_Mo_init_532 (by decide) ?_
  obtain ⟨h95, eh95, hq⟩ := bd hq
  refine E_wa d_Mo_init_534 eh95 ?_
  refine E_dupr d_Mo_init_535 ?_
  refine E_bi (v := 76) d_Mo_init_536 (by decide) ?_
  refine E_bi (v := 100) d_Mo_init_538 (by decide) ?_
  obtain ⟨h96, eh96, hq⟩ := bd hq
  refine E_wa d_Mo_init_540 eh96 ?_
  refine E_dupr d_Mo_init_541 ?_
  refine E_bi (v := 77) d_Mo_init_542 (by decide) ?_
  refine E_bi (v := 32) d_Mo_init_544 (by decide) ?_
  obtain ⟨h97, eh97, hq⟩ := bd hq
  refine E_wa d_Mo_init_546 eh97 ?_
  refine E_dupr d_Mo_init_547 ?_
  refine E_bi (v := 78) d_Mo_init_548 (by decide) ?_
  refine E_bi (v := 107) d_Mo_init_550 (by decide) ?_
  obtain ⟨h98, eh98, hq⟩ := bd hq
  refine E_wa d_Mo_init_552 eh98 ?_
  refine E_dupr d_Mo_init_553 ?_
  refine E_bi (v := 79) d_Mo_init_554 (by decide) ?_
  refine E_bi (v := 105) d_Mo_init_556 (by decide) ?_
  obtain ⟨h99, eh99, hq⟩ := bd hq
  refine E_wa d_Mo_init_558 eh99 ?_
  refine E_dupr d_Mo_init_559 ?_
  refine E_bi (v := 80) d_Mo_init_560 (by decide) ?_
  refine E_bi (v := 110) d_Mo_init_562 (by decide) ?_
  obtain ⟨h100, eh100, hq⟩ := bd hq
  refine E_wa d_Mo_init_564 eh100 ?_
  refine E_dupr d_Mo_init_565 ?_
  refine E_bi (v := 81) d_Mo_init_566 (by decide) ?_
  refine E_bi (v := 32) d_Mo_init_568 (by decide) ?_
  obtain ⟨h101, eh101, hq⟩ := bd hq
  refine E_wa d_Mo_init_570 eh101 ?_
  refine E_dupr d_Mo_init_571 ?_
  refine E_bi (v := 82) d_Mo_init_572 (by decide) ?_
  refine E_bi (v := 116) d_Mo_init_574 (by decide) ?_
  obtain ⟨h102, eh102, hq⟩ := bd hq
  refine E_wa d_Mo_init_576 eh102 ?_
  refine E_dupr d_Mo_init_577 ?_
  refine E_bi (v := 83) d_Mo_init_578 (by decide) ?_
  refine E_bi (v := 114) d_Mo_init_580 (by decide) ?_
  obtain ⟨h103, eh103, hq⟩ := bd hq
  refine E_wa d_Mo_init_582 eh103 ?_
  refine E_dupr d_Mo_init_583 ?_
  refine E_bi (v := 84) d_Mo_init_584 (by decide) ?_
  refine E_bi (v := 97) d_Mo_init_586 (by decide) ?_
  obtain ⟨h104, eh104, hq⟩ := bd hq
  refine E_wa d_Mo_init_588 eh104 ?_
  refine E_dupr d_Mo_init_589 ?_
  refine E_bi (v := 85) d_Mo_init_590 (by decide) ?_
  refine E_bi (v := 118) d_Mo_init_592 (by decide) ?_
  obtain ⟨h105, eh105, hq⟩ := bd hq
  refine E_wa d_Mo_init_594 eh105 ?_
  refine E_dupr d_Mo_init_595 ?_
  refine E_bi (v := 86) d_Mo_init_596 (by decide) ?_
  refine E_bi (v := 101) d_Mo_init_598 (by decide) ?_
  obtain ⟨h106, eh106, hq⟩ := bd hq
  refine E_wa d_Mo_init_600 eh106 ?_
  refine E_dupr d_Mo_init_601 ?_
  refine E_bi (v := 87) d_Mo_init_602 (by decide) ?_
  refine E_bi (v := 108) d_Mo_init_604 (by decide) ?_
  obtain ⟨h107, eh107, hq⟩ := bd hq
  refine E_wa d_Mo_init_606 eh107 ?_
  refine E_dupr d_Mo_init_607 ?_
  refine E_bi (v := 88) d_Mo_init_608 (by decide) ?_
  refine E_bi (v := 108) d_Mo_init_610 (by decide) ?_
  obtain ⟨h108, eh108, hq⟩ := bd hq
  refine E_wa d_Mo_init_612 eh108 ?_
  refine E_dupr d_Mo_init_613 ?_
  refine E_bi (v := 89) d_Mo_init_614 (by decide) ?_
  refine E_bi (v := 101) d_Mo_init_616 (by decide) ?_
  obtain ⟨h109, eh109, hq⟩ := bd hq
  refine E_wa d_Mo_init_618 eh109 ?_
  refine E_dupr d_Mo_init_619 ?_
  refine E_bi (v := 90) d_Mo_init_620 (by decide) ?_
  refine E_bi (v := 114) d_Mo_init_622 (by decide) ?_
  obtain ⟨h110, eh110, hq⟩ := bd hq
  refine E_wa d_Mo_init_624 eh110 ?_
  refine E_dupr d_Mo_init_625 ?_
  refine E_bi (v := 91) d_Mo_init_626 (by decide) ?_
  refine E_bi (v := 32) d_Mo_init_628 (by decide) ?_
  obtain ⟨h111, eh111, hq⟩ := bd hq
  refine E_wa d_Mo_init_630 eh111 ?_
  refine E_dupr d_Mo_init_631 ?_
  refine E_bi (v := 92) d_Mo_init_632 (by decide) ?_
  refine E_bi (v := 119) d_Mo_init_634 (by decide) ?_
  obtain ⟨h112, eh112, hq⟩ := bd hq
  refine E_wa d_Mo_init_636 eh112 ?_
  refine E_dupr d_Mo_init_637 ?_
  refine E_bi (v := 93) d_Mo_init_638 (by decide) ?_
  refine E_bi (v := 105) d_Mo_init_640 (by decide) ?_
  obtain ⟨h113, eh113, hq⟩ := bd hq
  refine E_wa d_Mo_init_642 eh113 ?_
  refine E_dupr d_Mo_init_643 ?_
  refine E_bi (v := 94) d_Mo_init_644 (by decide) ?_
  refine E_bi (v := 116) d_Mo_init_646 (by decide) ?_
  obtain ⟨h114, eh114, hq⟩ := bd hq
  refine E_wa d_Mo_init_648 eh114 ?_
  refine E_dupr d_Mo_init_649 ?_
  refine E_bi (v := 95) d_Mo_init_650 (by decide) ?_
  refine E_bi (v := 104) d_Mo_init_652 (by decide) ?_
  obtain ⟨h115, eh115, hq⟩ := bd hq
  refine E_wa d_Mo_init_654 eh115 ?_
  refine E_dupr d_Mo_init_655 ?_
  refine E_bi (v := 96) d_Mo_init_656 (by decide) ?_
  refine E_bi (v := 32) d_Mo_init_658 (by decide) ?_
  obtain ⟨h116, eh116, hq⟩ := bd hq
  refine E_wa d_Mo_init_660 eh116 ?_
  refine E_dupr d_Mo_init_661 ?_
  refine E_bi (v := 97) d_Mo_init_662 (by decide) ?_
  refine E_bi (v := 97) d_Mo_init_664 (by decide) ?_
  obtain ⟨h117, eh117, hq⟩ := bd hq
  refine E_wa d_Mo_init_666 eh117 ?_
  refine E_dupr d_Mo_init_667 ?_
  refine E_bi (v := 98) d_Mo_init_668 (by decide) ?_
  refine E_bi (v := 116) d_Mo_init_670 (by decide) ?_
  obtain ⟨h118, eh118, hq⟩ := bd hq
  refine E_wa d_Mo_init_672 eh118 ?_
  refine E_dupr d_Mo_init_673 ?_
  refine E_bi (v := 99) d_Mo_init_674 (by decide) ?_
  refine E_bi (v := 32) d_Mo_init_676 (by decide) ?_
  obtain ⟨h119, eh119, hq⟩ := bd hq
  refine E_wa d_Mo_init_678 eh119 ?_
  refine E_dupr d_Mo_init_679 ?_
  refine E_bi (v := 100) d_Mo_init_680 (by decide) ?_
  refine E_bi (v := 115) d_Mo_init_682 (by decide) ?_
  obtain ⟨h120, eh120, hq⟩ := bd hq
  refine E_wa d_Mo_init_684 eh120 ?_
  refine E_dupr d_Mo_init_685 ?_
  refine E_bi (v := 101) d_Mo_init_686 (by decide) ?_
  refine E_bi (v := 101) d_Mo_init_688 (by decide) ?_
  obtain ⟨h121, eh121, hq⟩ := bd hq
  refine E_wa d_Mo_init_690 eh121 ?_
  refine E_dupr d_Mo_init_691 ?_
  refine E_bi (v := 102) d_Mo_init_692 (by decide) ?_
  refine E_bi (v := 110) d_Mo_init_694 (by decide) ?_
  obtain ⟨h122, eh122, hq⟩ := bd hq
  refine E_wa d_Mo_init_696 eh122 ?_
  refine E_dupr d_Mo_init_697 ?_
  refine E_bi (v := 103) d_Mo_init_698 (by decide) ?_
  refine E_bi (v := 100) d_Mo_init_700 (by decide) ?_
  obtain ⟨h123, eh123, hq⟩ := bd hq
  refine E_wa d_Mo_init_702 eh123 ?_
  refine E_dupr d_Mo_init_703 ?_
  refine E_bi (v := 104) d_Mo_init_704 (by decide) ?_
  refine E_bi (v := 32) d_Mo_init_706 (by decide) ?_
  obtain ⟨h124, eh124, hq⟩ := bd hq
  refine E_wa d_Mo_init_708 eh124 ?_
  refine E_dupr d_Mo_init_709 ?_
  refine E_bi (v := 105) d_Mo_init_710 (by decide) ?_
  refine E_bi (v := 116) d_Mo_init_712 (by decide) ?_
  obtain ⟨h125, eh125, hq⟩ := bd hq
  refine E_wa d_Mo_init_714 eh125 ?_
  refine E_dupr d_Mo_init_715 ?_
  refine E_bi (v := 106) d_Mo_init_716 (by decide) ?_
  refine E_bi (v := 111) d_Mo_init_718 (by decide) ?_
  obtain ⟨h126, eh126, hq⟩ := bd hq
  refine E_wa d_Mo_init_720 eh126 ?_
  refine E_dupr d_Mo_init_721 ?_
  refine E_bi (v := 107) d_Mo_init_722 (by decide) ?_
  refine E_bi (v := 32) d_Mo_init_724 (by decide) ?_
  obtain ⟨h127, eh127, hq⟩ := bd hq
  refine E_wa d_Mo_init_726 eh127 ?_
  refine E_dupr d_Mo_init_727 ?_
  refine E_bi (v := 108) d_Mo_init_728 (by decide) ?_
  refine E_bi (v := 111) d_Mo_init_730 (by decide) ?_
  obtain ⟨h128, eh128, hq⟩ := bd hq
  refine E_wa d_Mo_init_732 eh128 ?_
  refine E_dupr d_Mo_init_733 ?_
  refine E_bi (v := 109) d_Mo_init_734 (by decide) ?_
  refine E_bi (v := 112) d_Mo_init_736 (by decide) ?_
  obtain ⟨h129, eh129, hq⟩ := bd hq
  refine E_wa d_Mo_init_738 eh129 ?_
  refine E_dupr d_Mo_init_739 ?_
  refine E_bi (v := 110) d_Mo_init_740 (by decide) ?_
  refine E_bi (v := 101) d_Mo_init_742 (by decide) ?_
  obtain ⟨h130, eh130, hq⟩ := bd hq
  refine E_wa d_Mo_init_744 eh130 ?_
  refine E_dupr d_Mo_init_745 ?_
  refine E_bi (v := 111) d_Mo_init_746 (by decide) ?_
  refine E_bi (v := 110) d_Mo_init_748 (by decide) ?_
  obtain ⟨h131, eh131, hq⟩ := bd hq
  refine E_wa d_Mo_init_750 eh131 ?_
  refine E_dupr d_Mo_init_751 ?_
  refine E_bi (v := 112) d_Mo_init_752 (by decide) ?_
  refine E_bi (v := 32) d_Mo_init_754 (by decide) ?_
  obtain ⟨h132, eh132, hq⟩ := bd hq
  refine E_wa d_Mo_init_756 eh132 ?_
  refine E_dupr d_Mo_init_757 ?_
  refine E_bi (v := 113) d_Mo_init_758 (by decide) ?_
  refine E_bi (v := 99) d_Mo_init_760 (by decide) ?_
  obtain ⟨h133, eh133, hq⟩ := bd hq
  refine E_wa d_Mo_init_762 eh133 ?_
  refine E_dupr d_Mo_init_763 ?_
  refine E_bi (v := 114) d_Mo_init_764 (by decide) ?_
  refine E_bi (v := 108) d_Mo_init_766 (by decide) ?_
  obtain ⟨h134, eh134, hq⟩ := bd hq
  refine E_wa d_Mo_init_768 eh134 ?_
  refine E_dupr d_Mo_init_769 ?_
  refine E_bi (v := 115) d_Mo_init_770 (by decide) ?_
  refine E_bi (v := 111) d_Mo_init_772 (by decide) ?_
  obtain ⟨h135, eh135, hq⟩ := bd hq
  refine E_wa d_Mo_init_774 eh135 ?_
  refine E_dupr d_Mo_init_775 ?_
  refine E_bi (v := 116) d_Mo_init_776 (by decide) ?_
  refine E_bi (v := 115) d_Mo_init_778 (by decide) ?_
  obtain ⟨h136, eh136, hq⟩ := bd hq
  refine E_wa d_Mo_init_780 eh136 ?_
  refine E_dupr d_Mo_init_781 ?_
  refine E_bi (v := 117) d_Mo_init_782 (by decide) ?_
  refine E_bi (v := 101) d_Mo_init_784 (by decide) ?_
  obtain ⟨h137, eh137, hq⟩ := bd hq
  refine E_wa d_Mo_init_786 eh137 ?_
  refine E_dupr d_Mo_init_787 ?_
  refine E_bi (v := 118) d_Mo_init_788 (by decide) ?_
  refine E_bi (v := 32) d_Mo_init_790 (by decide) ?_
  obtain ⟨h138, eh138, hq⟩ := bd hq
  refine E_wa d_Mo_init_792 eh138 ?_
  refine E_dupr d_Mo_init_793 ?_
  refine E_bi (v := 119) d_Mo_init_794 (by decide) ?_
  refine E_bi (v := 109) d_Mo_init_796 (by decide) ?_
  obtain ⟨h139, eh139, hq⟩ := bd hq
  refine E_wa d_Mo_init_798 eh139 ?_
  refine E_dupr d_Mo_init_799 ?_
  refine E_bi (v := 120) d_Mo_init_800 (by decide) ?_
  refine E_bi (v := 111) d_Mo_init_802 (by decide) ?_
  obtain ⟨h140, eh140, hq⟩ := bd hq
  refine E_wa d_Mo_init_804 eh140 ?_
  refine E_dupr d_Mo_init_805 ?_
  refine E_bi (v := 121) d_Mo_init_806 (by decide) ?_
  refine E_bi (v := 118) d_Mo_init_808 (by decide) ?_
  obtain ⟨h141, eh141, hq⟩ := bd hq
  refine E_wa d_Mo_init_810 eh141 ?_
  refine E_dupr d_Mo_init_811 ?_
  refine E_bi (v := 122) d_Mo_init_812 (by decide) ?_
  refine E_bi (v := 101) d_Mo_init_814 (by decide) ?_
  obtain ⟨h142, eh142, hq⟩ := bd hq
  refine E_wa d_Mo_init_816 eh142 ?_
  refine E_dupr d_Mo_init_817 ?_
  refine E_bi (v := 123) d_Mo_init_818 (by decide) ?_
  refine E_bi (v := 32) d_Mo_init_820 (by decide) ?_
  obtain ⟨h143, eh143, hq⟩ := bd hq
  refine E_wa d_Mo_init_822 eh143 ?_
  refine E_dupr d_Mo_init_823 ?_
  refine E_bi (v := 124) d_Mo_init_824 (by decide) ?_
  refine E_bi (v := 106) d_Mo_init_826 (by decide) ?_
  obtain ⟨h144, eh144, hq⟩ := bd hq
  refine E_wa d_Mo_init_828 eh144 ?_
  refine E_dupr d_Mo_init_829 ?_
  refine E_bi (v := 125) d_Mo_init_830 (by decide) ?_
  refine E_bi (v := 111) d_Mo_init_832 (by decide) ?_
  obtain ⟨h145, eh145, hq⟩ := bd hq
  refine E_wa d_Mo_init_834 eh145 ?_
  refine E_dupr d_Mo_init_835 ?_
  refine E_bi (v := 126) d_Mo_init_836 (by decide) ?_
  refine E_bi (v := 107) d_Mo_init_838 (by decide) ?_
  obtain ⟨h146, eh146, hq⟩ := bd hq
  refine E_wa d_Mo_init_840 eh146 ?_
  refine E_dupr d_Mo_init_841 ?_
  refine E_bi (v := 127) d_Mo_init_842 (by decide) ?_
  refine E_bi (v := 101) d_Mo_init_844 (by decide) ?_
  obtain ⟨h147, eh147, hq⟩ := bd hq
  refine E_wa d_Mo_init_846 eh147 ?_
  refine E_dupr d_Mo_init_847 ?_
  refine E_si (v := 128) d_Mo_init_848 (by decide) ?_
  refine E_bi (v := 32) d_Mo_init_851 (by decide) ?_
  obtain ⟨h148, eh148, hq⟩ := bd hq
  refine E_wa d_Mo_init_853 eh148 ?_
  refine E_dupr d_Mo_init_854 ?_
  refine E_si (v := 129) d_Mo_init_855 (by decide) ?_
  refine E_bi (v := 111) d_Mo_init_858 (by decide) ?_
  obtain ⟨h149, eh149, hq⟩ := bd hq
  refine E_wa d_Mo_init_860 eh149 ?_
  refine E_dupr d_Mo_init_861 ?_
  refine E_si (v := 130) d_Mo_init_862 (by decide) ?_
  refine E_bi (v := 110) d_Mo_init_865 (by decide) ?_
  obtain ⟨h150, eh150, hq⟩ := bd hq
  refine E_wa d_Mo_init_867 eh150 ?_
  refine E_dupr d_Mo_init_868 ?_
  refine E_si (v := 131) d_Mo_init_869 (by decide) ?_
  refine E_bi (v := 105) d_Mo_init_872 (by decide) ?_
  obtain ⟨h151, eh151, hq⟩ := bd hq
  refine E_wa d_Mo_init_874 eh151 ?_
  refine E_dupr d_Mo_init_875 ?_
  refine E_si (v := 132) d_Mo_init_876 (by decide) ?_
  refine E_bi (v := 111) d_Mo_init_879 (by decide) ?_
  obtain ⟨h152, eh152, hq⟩ := bd hq
  refine E_wa d_Mo_init_881 eh152 ?_
  refine E_dupr d_Mo_init_882 ?_
  refine E_si (v := 133) d_Mo_init_883 (by decide) ?_
  refine E_bi (v := 110) d_Mo_init_886 (by decide) ?_
  obtain ⟨h153, eh153, hq⟩ := bd hq
  refine E_wa d_Mo_init_888 eh153 ?_
  refine E_dupr d_Mo_init_889 ?_
  refine E_si (v := 134) d_Mo_init_890 (by decide) ?_
  refine E_bi (v := 32) d_Mo_init_893 (by decide) ?_
  obtain ⟨h154, eh154, hq⟩ := bd hq
  refine E_wa d_Mo_init_895 eh154 ?_
  refine E_dupr d_Mo_init_896 ?_
  refine E_si (v := 135) d_Mo_init_897 (by decide) ?_
  refine E_bi (v := 114) d_Mo_init_900 (by decide) ?_
  obtain ⟨h155, eh155, hq⟩ := bd hq
  refine E_wa d_Mo_init_902 eh155 ?_
  refine E_dupr d_Mo_init_903 ?_
  refine E_si (v := 136) d_Mo_init_904 (by decide) ?_
  refine E_bi (v := 111) d_Mo_init_907 (by decide) ?_
  obtain ⟨h156, eh156, hq⟩ := bd hq
  refine E_wa d_Mo_init_909 eh156 ?_
  refine E_dupr d_Mo_init_910 ?_
  refine E_si (v := 137) d_Mo_init_911 (by decide) ?_
  refine E_bi (v := 97) d_Mo_init_914 (by decide) ?_
  obtain ⟨h157, eh157, hq⟩ := bd hq
  refine E_wa d_Mo_init_916 eh157 ?_
  refine E_dupr d_Mo_init_917 ?_
  refine E_si (v := 138) d_Mo_init_918 (by decide) ?_
  refine E_bi (v := 100) d_Mo_init_921 (by decide) ?_
  obtain ⟨h158, eh158, hq⟩ := bd hq
  refine E_wa d_Mo_init_923 eh158 ?_
  refine E_dupr d_Mo_init_924 ?_
  refine E_si (v := 139) d_Mo_init_925 (by decide) ?_
  refine E_bi (v := 32) d_Mo_init_928 (by decide) ?_
  obtain ⟨h159, eh159, hq⟩ := bd hq
  refine E_wa d_Mo_init_930 eh159 ?_
  refine E_dupr d_Mo_init_931 ?_
  refine E_si (v := 140) d_Mo_init_932 (by decide) ?_
  refine E_bi (v := 100) d_Mo_init_935 (by decide) ?_
  obtain ⟨h160, eh160, hq⟩ := bd hq
  refine E_wa d_Mo_init_937 eh160 ?_
  refine E_dupr d_Mo_init_938 ?_
  refine E_si (v := 141) d_Mo_init_939 (by decide) ?_
  refine E_bi (v := 114) d_Mo_init_942 (by decide) ?_
  obtain ⟨h161, eh161, hq⟩ := bd hq
  refine E_wa d_Mo_init_944 eh161 ?_
  refine E_dupr d_Mo_init_945 ?_
  refine E_si (v := 142) d_Mo_init_946 (by decide) ?_
  refine E_bi (v := 121) d_Mo_init_949 (by decide) ?_
  obtain ⟨h162, eh162, hq⟩ := bd hq
  refine E_wa d_Mo_init_951 eh162 ?_
  refine E_dupr d_Mo_init_952 ?_
  refine E_si (v := 143) d_Mo_init_953 (by decide) ?_
  refine E_bi (v := 32) d_Mo_init_956 (by decide) ?_
  obtain ⟨h163, eh163, hq⟩ := bd hq
  refine E_wa d_Mo_init_958 eh163 ?_
  obtain ⟨h164, eh164, hq⟩ := bd hq
  refine E_pR d_Mo_init_959 lp_Mo_i_37 rfl eh164 ?_
  refine E_aln 0 d_Mo_init_962 rfl rfl ?_
  refine E_ic (v := 2) d_Mo_init_963 (by decide) ?_
  obtain ⟨h165, eh165, hq⟩ := bd hq
  refine E_na (mc' := mc - 11) (ms' := ms - 1814) d_Mo_init_964 eh165 (by omega) (by omega) ?_
  obtain ⟨h166, eh166, hq⟩ := bd hq
  refine E_pR d_Mo_init_966 lp_Mo_i_40 rfl eh166 ?_
  refine E_aln 0 d_Mo_init_969 rfl rfl ?_
  refine E_bi (v := 48) d_Mo_init_970 (by decide) ?_
  obtain ⟨h167, eh167, hq⟩ := bd hq
  refine E_na (mc' := mc - 12) (ms' := ms - 1862) d_Mo_init_972 eh167 (by omega) (by omega) ?_
  obtain ⟨h168, eh168, hq⟩ := bd hq
  refine E_pR d_Mo_init_974 lp_Mo_i_43 rfl eh168 ?_
  refine E_aln 0 d_Mo_init_977 rfl rfl ?_
  refine E_bi (v := 48) d_Mo_init_978 (by decide) ?_
  obtain ⟨h169, eh169, hq⟩ := bd hq
  refine E_na (mc' := mc - 13) (ms' := ms - 1910) d_Mo_init_980 eh169 (by omega) (by omega) ?_
  obtain ⟨h170, eh170, hq⟩ := bd hq
  refine E_pR d_Mo_init_982 lp_Mo_i_46 rfl eh170 ?_
  refine E_aln 0 d_Mo_init_985 rfl rfl ?_
  refine E_bi (v := 48) d_Mo_init_986 (by decide) ?_
  obtain ⟨h171, eh171, hq⟩ := bd hq
  refine E_na (mc' := mc - 14) (ms' := ms - 1958) d_Mo_init_988 eh171 (by omega) (by omega) ?_
  obtain ⟨h172, eh172, hq⟩ := bd hq
  refine E_pR d_Mo_init_990 lp_Mo_i_49 rfl eh172 ?_
  refine E_aln 0 d_Mo_init_993 rfl rfl ?_
  refine E_bi (v := 48) d_Mo_init_994 (by decide) ?_
  obtain ⟨h173, eh173, hq⟩ := bd hq
  refine E_na (mc' := mc - 15) (ms' := ms - 2006) d_Mo_init_996 eh173 (by omega) (by omega) ?_
  obtain ⟨h174, eh174, hq⟩ := bd hq
  refine E_pR d_Mo_init_998 lp_Mo_i_52 rfl eh174 ?_
  refine E_aln 0 d_Mo_init_1001 rfl rfl ?_
  refine E_si (v := 1200) d_Mo_init_1002 (by decide) ?_
  obtain ⟨h175, eh175, hq⟩ := bd hq
  refine E_na (mc' := mc - 16) (ms' := ms - 3206) d_Mo_init_1005 eh175 (by omega) (by omega) ?_
  obtain ⟨h176, eh176, hq⟩ := bd hq
  refine E_pR d_Mo_init_1007 lp_Mo_i_55 rfl eh176 ?_
  refine E_aln 0 d_Mo_init_1010 rfl rfl ?_
  refine E_si (v := 1200) d_Mo_init_1011 (by decide) ?_
  obtain ⟨h177, eh177, hq⟩ := bd hq
  refine E_na (mc' := mc - 17) (ms' := ms - 4406) d_Mo_init_1014 eh177 (by omega) (by omega) ?_
  obtain ⟨h178, eh178, hq⟩ := bd hq
  refine E_pR d_Mo_init_1016 lp_Mo_i_58 rfl eh178 ?_
  refine E_aln 0 d_Mo_init_1019 rfl rfl ?_
  refine E_bi (v := 40) d_Mo_init_1020 (by decide) ?_
  obtain ⟨h179, eh179, hq⟩ := bd hq
  refine E_na (mc' := mc - 18) (ms' := ms - 4446) d_Mo_init_1022 eh179 (by omega) (by omega) ?_
  obtain ⟨h180, eh180, hq⟩ := bd hq
  refine E_pR d_Mo_init_1024 lp_Mo_i_61 rfl eh180 ?_
  refine E_aln 0 d_Mo_init_1027 rfl rfl ?_
  refine E_ic (v := (-1)) d_Mo_init_1028 (by decide) ?_
  obtain ⟨h181, eh181, hq⟩ := bd hq
  refine E_pI d_Mo_init_1029 lp_Mo_i_64 rfl eh181 ?_
  refine E_aln 0 d_Mo_init_1032 rfl rfl ?_
  refine E_bi (v := 24) d_Mo_init_1033 (by decide) ?_
  obtain ⟨h182, eh182, hq⟩ := bd hq
  refine E_na (mc' := mc - 19) (ms' := ms - 4470) d_Mo_init_1035 eh182 (by omega) (by omega) ?_
  obtain ⟨h183, eh183, hq⟩ := bd hq
  refine E_pR d_Mo_init_1037 lp_Mo_i_68 rfl eh183 ?_
  refine E_aln 0 d_Mo_init_1040 rfl rfl ?_
  refine E_si (v := 128) d_Mo_init_1041 (by decide) ?_
  obtain ⟨h184, eh184, hq⟩ := bd hq
  refine E_na (mc' := mc - 20) (ms' := ms - 4598) d_Mo_init_1044 eh184 (by omega) (by omega) ?_
  obtain ⟨h185, eh185, hq⟩ := bd hq
  refine E_pR d_Mo_init_1046 lp_Mo_i_71 rfl eh185 ?_
  refine E_aln 0 d_Mo_init_1049 rfl rfl ?_
  refine E_si (v := 128) d_Mo_init_1050 (by decide) ?_
  obtain ⟨h186, eh186, hq⟩ := bd hq
  refine E_na (mc' := mc - 21) (ms' := ms - 4726) d_Mo_init_1053 eh186 (by omega) (by omega) ?_
  obtain ⟨h187, eh187, hq⟩ := bd hq
  refine E_pR d_Mo_init_1055 lp_Mo_i_74 rfl eh187 ?_
  refine E_aln 0 d_Mo_init_1058 rfl rfl ?_
  refine E_bi (v := 10) d_Mo_init_1059 (by decide) ?_
  obtain ⟨h188, eh188, hq⟩ := bd hq
  refine E_na (mc' := mc - 22) (ms' := ms - 4736) d_Mo_init_1061 eh188 (by omega) (by omega) ?_
  obtain ⟨h189, eh189, hq⟩ := bd hq
  refine E_pR d_Mo_init_1063 lp_Mo_i_77 rfl eh189 ?_
  refine E_aln 0 d_Mo_init_1066 rfl rfl ?_
  refine E_si (v := 420) d_Mo_init_1067 (by decide) ?_
  obtain ⟨h190, eh190, hq⟩ := bd hq
  refine E_na (mc' := mc - 23) (ms' := ms - 5156) d_Mo_init_1070 eh190 (by omega) (by omega) ?_
  obtain ⟨h191, eh191, hq⟩ := bd hq
  refine E_pR d_Mo_init_1072 lp_Mo_i_80 rfl eh191 ?_
  refine E_aln 0 d_Mo_init_1075 rfl rfl ?_
  refine E_bi (v := 8) d_Mo_init_1076 (by decide) ?_
  obtain ⟨h192, eh192, hq⟩ := bd hq
  refine E_na (mc' := mc - 24) (ms' := ms - 5164) d_Mo_init_1078 eh192 (by omega) (by omega) ?_
  obtain ⟨h193, eh193, hq⟩ := bd hq
  refine E_pR d_Mo_init_1080 lp_Mo_i_83 rfl eh193 ?_
  refine E_aln 0 d_Mo_init_1083 rfl rfl ?_
  refine E_bi (v := 8) d_Mo_init_1084 (by decide) ?_
  obtain ⟨h194, eh194, hq⟩ := bd hq
  refine E_na (mc' := mc - 25) (ms' := ms - 5172) d_Mo_init_1086 eh194 (by omega) (by omega) ?_
  obtain ⟨h195, eh195, hq⟩ := bd hq
  refine E_pR d_Mo_init_1088 lp_Mo_i_86 rfl eh195 ?_
  refine E_aln 0 d_Mo_init_1091 rfl rfl ?_
  refine E_bi (v := 8) d_Mo_init_1092 (by decide) ?_
  obtain ⟨h196, eh196, hq⟩ := bd hq
  refine E_na (mc' := mc - 26) (ms' := ms - 5180) d_Mo_init_1094 eh196 (by omega) (by omega) ?_
  obtain ⟨h197, eh197, hq⟩ := bd hq
  refine E_pR d_Mo_init_1096 lp_Mo_i_89 rfl eh197 ?_
  refine E_aln 0 d_Mo_init_1099 rfl rfl ?_
  refine E_bi (v := 6) d_Mo_init_1100 (by decide) ?_
  obtain ⟨h198, eh198, hq⟩ := bd hq
  refine E_na (mc' := mc - 27) (ms' := ms - 5186) d_Mo_init_1102 eh198 (by omega) (by omega) ?_
  obtain ⟨h199, eh199, hq⟩ := bd hq
  refine E_pR d_Mo_init_1104 lp_Mo_i_92 rfl eh199 ?_
  refine E_aln 0 d_Mo_init_1107 rfl rfl ?_
  refine E_bi (v := 64) d_Mo_init_1108 (by decide) ?_
  obtain ⟨h200, eh200, hq⟩ := bd hq
  refine E_na (mc' := mc - 28) (ms' := ms - 5250) d_Mo_init_1110 eh200 (by omega) (by omega) ?_
  obtain ⟨h201, eh201, hq⟩ := bd hq
  refine E_pR d_Mo_init_1112 lp_Mo_i_95 rfl eh201 ?_
  refine E_aln 0 d_Mo_init_1115 rfl rfl ?_
  refine E_bi (v := 64) d_Mo_init_1116 (by decide) ?_
  obtain ⟨h202, eh202, hq⟩ := bd hq
  refine E_na (mc' := mc - 29) (ms' := ms - 5314) d_Mo_init_1118 eh202 (by omega) (by omega) ?_
  obtain ⟨h203, eh203, hq⟩ := bd hq
  refine E_pR d_Mo_init_1120 lp_Mo_i_98 rfl eh203 ?_
  refine E_aln 0 d_Mo_init_1123 rfl rfl ?_
  refine E_bi (v := 8) d_Mo_init_1124 (by decide) ?_
  obtain ⟨h204, eh204, hq⟩ := bd hq
  refine E_na (mc' := mc - 30) (ms' := ms - 5322) d_Mo_init_1126 eh204 (by omega) (by omega) ?_
  obtain ⟨h205, eh205, hq⟩ := bd hq
  refine E_pR d_Mo_init_1128 lp_Mo_i_101 rfl eh205 ?_
  refine E_aln 0 d_Mo_init_1131 rfl rfl ?_
  refine E_si (v := 256) d_Mo_init_1132 (by decide) ?_
  obtain ⟨h206, eh206, hq⟩ := bd hq
  refine E_na (mc' := mc - 31) (ms' := ms - 5578) d_Mo_init_1135 eh206 (by omega) (by omega) ?_
  obtain ⟨h207, eh207, hq⟩ := bd hq
  refine E_pR d_Mo_init_1137 lp_Mo_i_104 rfl eh207 ?_
  refine E_aln 0 d_Mo_init_1140 rfl rfl ?_
  refine E_bi (v := 10) d_Mo_init_1141 (by decide) ?_
  obtain ⟨h208, eh208, hq⟩ := bd hq
  refine E_na (mc' := mc - 32) (ms' := ms - 5588) d_Mo_init_1143 eh208 (by omega) (by omega) ?_
  obtain ⟨h209, eh209, hq⟩ := bd hq
  refine E_pR d_Mo_init_1145 lp_Mo_i_107 rfl eh209 ?_
  refine E_aln 0 d_Mo_init_1148 rfl rfl ?_
  refine E_bi (v := 6) d_Mo_init_1149 (by decide) ?_
  obtain ⟨h210, eh210, hq⟩ := bd hq
  refine E_na (mc' := mc - 33) (ms' := ms - 5594) d_Mo_init_1151 eh210 (by omega) (by omega) ?_
  obtain ⟨h211, eh211, hq⟩ := bd hq
  refine E_pR d_Mo_init_1153 lp_Mo_i_110 rfl eh211 ?_
  refine E_aln 0 d_Mo_init_1156 rfl rfl ?_
  refine E_bi (v := 6) d_Mo_init_1157 (by decide) ?_
  obtain ⟨h212, eh212, hq⟩ := bd hq
  refine E_na (mc' := mc - 34) (ms' := ms - 5600) d_Mo_init_1159 eh212 (by omega) (by omega) ?_
  obtain ⟨h213, eh213, hq⟩ := bd hq
  refine E_pR d_Mo_init_1161 lp_Mo_i_113 rfl eh213 ?_
  refine E_aln 0 d_Mo_init_1164 rfl rfl ?_
  refine E_bi (v := 10) d_Mo_init_1165 (by decide) ?_
  obtain ⟨h214, eh214, hq⟩ := bd hq
  refine E_na (mc' := mc - 35) (ms' := ms - 5610) d_Mo_init_1167 eh214 (by omega) (by omega) ?_
  obtain ⟨h215, eh215, hq⟩ := bd hq
  refine E_pR d_Mo_init_1169 lp_Mo_i_116 rfl eh215 ?_
  refine E_aln 0 d_Mo_init_1172 rfl rfl ?_
  refine E_bi (v := 10) d_Mo_init_1173 (by decide) ?_
  obtain ⟨h216, eh216, hq⟩ := bd hq
  refine E_na (mc' := mc - 36) (ms' := ms - 5620) d_Mo_init_1175 eh216 (by omega) (by omega) ?_
  obtain ⟨h217, eh217, hq⟩ := bd hq
  refine E_pR d_Mo_init_1177 lp_Mo_i_119 rfl eh217 ?_
  refine E_aln 0 d_Mo_init_1180 rfl rfl ?_
  refine E_bi (v := 24) d_Mo_init_1181 (by decide) ?_
  obtain ⟨h218, eh218, hq⟩ := bd hq
  refine E_na (mc' := mc - 37) (ms' := ms - 5644) d_Mo_init_1183 eh218 (by omega) (by omega) ?_
  obtain ⟨h219, eh219, hq⟩ := bd hq
  refine E_pR d_Mo_init_1185 lp_Mo_i_122 rfl eh219 ?_
  refine E_aln 0 d_Mo_init_1188 rfl rfl ?_
  refine E_bi (v := 12) d_Mo_init_1189 (by decide) ?_
  obtain ⟨h220, eh220, hq⟩ := bd hq
  refine E_na (mc' := mc - 38) (ms' := ms - 5656) d_Mo_init_1191 eh220 (by omega) (by omega) ?_
  obtain ⟨h221, eh221, hq⟩ := bd hq
  refine E_pR d_Mo_init_1193 lp_Mo_i_125 rfl eh221 ?_
  refine E_aln 0 d_Mo_init_1196 rfl rfl ?_
  refine E_ic (v := 4) d_Mo_init_1197 (by decide) ?_
  obtain ⟨h222, eh222, hq⟩ := bd hq
  refine E_na (mc' := mc - 39) (ms' := ms - 5660) d_Mo_init_1198 eh222 (by omega) (by omega) ?_
  obtain ⟨h223, eh223, hq⟩ := bd hq
  refine E_pR d_Mo_init_1200 lp_Mo_i_128 rfl eh223 ?_
  refine E_aln 0 d_Mo_init_1203 rfl rfl ?_
  refine E_ic (v := 4) d_Mo_init_1204 (by decide) ?_
  obtain ⟨h224, eh224, hq⟩ := bd hq
  refine E_na (mc' := mc - 40) (ms' := ms - 5664) d_Mo_init_1205 eh224 (by omega) (by omega) ?_
  obtain ⟨h225, eh225, hq⟩ := bd hq
  refine E_pR d_Mo_init_1207 lp_Mo_i_131 rfl eh225 ?_
  refine E_aln 0 d_Mo_init_1210 rfl rfl ?_
  refine E_bi (v := 24) d_Mo_init_1211 (by decide) ?_
  obtain ⟨h226, eh226, hq⟩ := bd hq
  refine E_na (mc' := mc - 41) (ms' := ms - 5688) d_Mo_init_1213 eh226 (by omega) (by omega) ?_
  obtain ⟨h227, eh227, hq⟩ := bd hq
  refine E_pR d_Mo_init_1215 lp_Mo_i_134 rfl eh227 ?_
  refine E_aln 0 d_Mo_init_1218 rfl rfl ?_
  refine E_si (v := 2100) d_Mo_init_1219 (by decide) ?_
  obtain ⟨h228, eh228, hq⟩ := bd hq
  refine E_na (mc' := mc - 42) (ms' := ms - 7788) d_Mo_init_1222 eh228 (by omega) (by omega) ?_
  obtain ⟨h229, eh229, hq⟩ := bd hq
  refine E_pR d_Mo_init_1224 lp_Mo_i_137 rfl eh229 ?_
  exact E_rV d_Mo_init_1227 rfl hq
