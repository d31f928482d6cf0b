def f_Realm_perform (a0 : Nat) (x1 : Int32) (x2 : Int32) (x3 : Int32) (h : PH) : Option (PH) :=
  (isO h 5 a0).bind fun _ =>
  (f_Realm_canDo a0 x1 x2 x3 h).bind fun p1 =>
  if p1.1 = 0 then
    some p1.2
  else
    if x1 = 0 then
      (ldR p1.2 5 a0 6).bind fun v16 =>
      (wrA p1.2 v16 x2 x3).bind fun h17 =>
      some h17
    else
      if x1 = 1 then
        (ldR p1.2 5 a0 5).bind fun v11 =>
        (ldR p1.2 5 a0 5).bind fun v12 =>
        (rdA p1.2 v12 x2).bind fun v13 =>
        (dvI v13 2).bind fun v14 =>
        (wrA p1.2 v11 x2 v14).bind fun h15 =>
        some h15
      else
        if x1 = 2 then
          (ldR p1.2 5 a0 5).bind fun v7 =>
          (ldR p1.2 5 a0 5).bind fun v8 =>
          (rdA p1.2 v8 x2).bind fun v9 =>
          (wrA p1.2 v7 x2 (jmin 99 (v9 + 20))).bind fun h10 =>
          some h10
        else
          if x1 = 3 then
            (ldR p1.2 5 a0 10).bind fun v5 =>
            (wrA p1.2 v5 x2 x3).bind fun h6 =>
            some h6
          else
            (ldI p1.2 5 a0 14).bind fun v3 =>
            (stI p1.2 5 a0 14 (v3 ^^^ (jshl 1 x2))).bind fun h4 =>
            some h4
theorem t_Realm_perform {d : Nat} (hd : 3 ≤ d) {a0 : Nat} {x1 : Int32} {x2 : Int32} {x3 : Int32} {h : PH} {r : PH} (hq : f_Realm_perform a0 x1 x2 x3 h = some r) : E d 0 0 m_Realm_perform 0 [(0, .ref a0), (1, .int x1), (2, .int x2), (3, .int x3)] [] h (PV r) := by
  unfold f_Realm_perform at hq
  obtain ⟨d, rfl⟩ : ∃ e, d = e + 1 := ⟨d - 1, by omega⟩
  refine E_aln 0 d_Realm_perform_0 rfl rfl ?_
  refine E_iln 1 d_Realm_perform_1 rfl rfl ?_
  refine E_iln 2 d_Realm_perform_2 rfl rfl ?_
  refine E_iln 3 d_Realm_perform_3 rfl rfl ?_
  obtain ⟨q2, eq2, hq⟩ := bd hq
  obtain ⟨p1, ep1, hq⟩ := bd hq
  refine E_cV3I d_Realm_perform_4 ck_Realm_96 rfl rfl eq2 (Nat.le_of_ble_eq_true rfl) (Nat.le_of_ble_eq_true rfl) (t_Realm_canDo (by omega) ep1) ?_
  refine E_zne (tgt := 11) d_Realm_perform_7 (by decide) (fun c => ?_) (fun c => ?_)
  · rw [if_neg c] at hq
    refine E_iln 1 d_Realm_perform_11 rfl rfl ?_
    refine E_zne (tgt := 25) d_Realm_perform_12 (by decide) (fun c => ?_) (fun c => ?_)
    · rw [if_neg c] at hq
      refine E_iln 1 d_Realm_perform_25 rfl rfl ?_
      refine E_ic (v := 1) d_Realm_perform_26 (by decide) ?_
      refine E_jne (tgt := 47) d_Realm_perform_27 (by decide) (fun c => ?_) (fun c => ?_)
      · rw [if_neg c] at hq
        refine E_iln 1 d_Realm_perform_47 rfl rfl ?_
        refine E_ic (v := 2) d_Realm_perform_48 (by decide) ?_
        refine E_jne (tgt := 75) d_Realm_perform_49 (by decide) (fun c => ?_) (fun c => ?_)
        · rw [if_neg c] at hq
          refine E_iln 1 d_Realm_perform_75 rfl rfl ?_
          refine E_ic (v := 3) d_Realm_perform_76 (by decide) ?_
          refine E_jne (tgt := 90) d_Realm_perform_77 (by decide) (fun c => ?_) (fun c => ?_)
          · rw [if_neg c] at hq
            refine E_aln 0 d_Realm_perform_90 rfl rfl ?_
            refine E_dupr d_Realm_perform_91 ?_
            obtain ⟨v3, ev3, hq⟩ := bd hq
            refine E_gI d_Realm_perform_92 lk_Realm_55 rfl ev3 ?_
            refine E_ic (v := 1) d_Realm_perform_95 (by decide) ?_
            refine E_iln 2 d_Realm_perform_96 rfl rfl ?_
            refine E_ishl d_Realm_perform_97 ?_
            refine E_ixor d_Realm_perform_98 ?_
            obtain ⟨h4, eh4, hq⟩ := bd hq
            refine E_pI d_Realm_perform_99 lp_Realm_m_55 rfl eh4 ?_
            exact E_rV d_Realm_perform_102 rfl hq
          · rw [if_pos c] at hq
            refine E_aln 0 d_Realm_perform_80 rfl rfl ?_
            obtain ⟨v5, ev5, hq⟩ := bd hq
            refine E_gR d_Realm_perform_81 lk_Realm_43 rfl ev5 ?_
            refine E_iln 2 d_Realm_perform_84 rfl rfl ?_
            refine E_iln 3 d_Realm_perform_85 rfl rfl ?_
            obtain ⟨h6, eh6, hq⟩ := bd hq
            refine E_wa d_Realm_perform_86 eh6 ?_
            refine E_goto (tgt := 102) d_Realm_perform_87 (by decide) ?_
            exact E_rV d_Realm_perform_102 rfl hq
        · rw [if_pos c] at hq
          refine E_aln 0 d_Realm_perform_52 rfl rfl ?_
          obtain ⟨v7, ev7, hq⟩ := bd hq
          refine E_gR d_Realm_perform_53 lk_Realm_28 rfl ev7 ?_
          refine E_iln 2 d_Realm_perform_56 rfl rfl ?_
          refine E_bi (v := 99) d_Realm_perform_57 (by decide) ?_
          refine E_aln 0 d_Realm_perform_59 rfl rfl ?_
          obtain ⟨v8, ev8, hq⟩ := bd hq
          refine E_gR d_Realm_perform_60 lk_Realm_28 rfl ev8 ?_
          refine E_iln 2 d_Realm_perform_63 rfl rfl ?_
          obtain ⟨v9, ev9, hq⟩ := bd hq
          refine E_ra d_Realm_perform_64 ev9 ?_
          refine E_bi (v := 20) d_Realm_perform_65 (by decide) ?_
          refine E_iadd d_Realm_perform_67 ?_
          refine E_min d_Realm_perform_68 kj_Realm_100 (Nat.le_of_ble_eq_true rfl) ?_
          obtain ⟨h10, eh10, hq⟩ := bd hq
          refine E_wa d_Realm_perform_71 eh10 ?_
          refine E_goto (tgt := 102) d_Realm_perform_72 (by decide) ?_
          exact E_rV d_Realm_perform_102 rfl hq
      · rw [if_pos c] at hq
        refine E_aln 0 d_Realm_perform_30 rfl rfl ?_
        obtain ⟨v11, ev11, hq⟩ := bd hq
        refine E_gR d_Realm_perform_31 lk_Realm_28 rfl ev11 ?_
        refine E_iln 2 d_Realm_perform_34 rfl rfl ?_
        refine E_aln 0 d_Realm_perform_35 rfl rfl ?_
        obtain ⟨v12, ev12, hq⟩ := bd hq
        refine E_gR d_Realm_perform_36 lk_Realm_28 rfl ev12 ?_
        refine E_iln 2 d_Realm_perform_39 rfl rfl ?_
        obtain ⟨v13, ev13, hq⟩ := bd hq
        refine E_ra d_Realm_perform_40 ev13 ?_
        refine E_ic (v := 2) d_Realm_perform_41 (by decide) ?_
        obtain ⟨v14, ev14, hq⟩ := bd hq
        refine E_dv d_Realm_perform_42 ev14 ?_
        obtain ⟨h15, eh15, hq⟩ := bd hq
        refine E_wa d_Realm_perform_43 eh15 ?_
        refine E_goto (tgt := 102) d_Realm_perform_44 (by decide) ?_
        exact E_rV d_Realm_perform_102 rfl hq
    · rw [if_pos c] at hq
      refine E_aln 0 d_Realm_perform_15 rfl rfl ?_
      obtain ⟨v16, ev16, hq⟩ := bd hq
      refine E_gR d_Realm_perform_16 lk_Realm_31 rfl ev16 ?_
      refine E_iln 2 d_Realm_perform_19 rfl rfl ?_
      refine E_iln 3 d_Realm_perform_20 rfl rfl ?_
      obtain ⟨h17, eh17, hq⟩ := bd hq
      refine E_wa d_Realm_perform_21 eh17 ?_
      refine E_goto (tgt := 102) d_Realm_perform_22 (by decide) ?_
      exact E_rV d_Realm_perform_102 rfl hq
  · rw [if_pos c] at hq
    exact E_rV d_Realm_perform_10 rfl hq
def f_Tc_act (a0 : Nat) (x1 : Int32) (x2 : Int32) (x3 : Int32) (h : PH) : Option (Int32 × PH) :=
  (ldR h 8 a0 0).bind fun v1 =>
  (ldR h 1 v1 0).bind fun v2 =>
  (isO h 5 v2).bind fun _ =>
  (f_Realm_canDo v2 x1 x2 x3 h).bind fun p3 =>
  if p3.1 = 0 then
    rtZ 0 p3.2
  else
    (ldR p3.2 8 a0 1).bind fun v5 =>
    (ldR p3.2 8 a0 0).bind fun v6 =>
    (ldR p3.2 1 v6 0).bind fun v7 =>
    (isO p3.2 3 v5).bind fun _ =>
    (f_Log_keep v5 v7 p3.2).bind fun h8 =>
    (ldR h8 8 a0 0).bind fun v10 =>
    (ldR h8 1 v10 0).bind fun v11 =>
    (isO h8 5 v11).bind fun _ =>
    (f_Realm_perform v11 x1 x2 x3 h8).bind fun h12 =>
    rtZ 1 h12
theorem t_Tc_act {d : Nat} (hd : 4 ≤ d) {a0 : Nat} {x1 : Int32} {x2 : Int32} {x3 : Int32} {h : PH} {r : Int32 × PH} (hq : f_Tc_act a0 x1 x2 x3 h = some r) : E d 0 0 m_Tc_act 0 [(0, .ref a0), (1, .int x1), (2, .int x2), (3, .int x3)] [] h (PI r) := by
  unfold f_Tc_act at hq
  obtain ⟨d, rfl⟩ : ∃ e, d = e + 1 := ⟨d - 1, by omega⟩
  refine E_aln 0 d_Tc_act_0 rfl rfl ?_
  obtain ⟨v1, ev1, hq⟩ := bd hq
  refine E_gR d_Tc_act_1 lk_Tc_10 rfl ev1 ?_
  obtain ⟨v2, ev2, hq⟩ := bd hq
  refine E_gR d_Tc_act_4 lk_Tc_47 rfl ev2 ?_
  refine E_iln 1 d_Tc_act_7 rfl rfl ?_
  refine E_iln 2 d_Tc_act_8 rfl rfl ?_
  refine E_iln 3 d_Tc_act_9 rfl rfl ?_
  obtain ⟨q4, eq4, hq⟩ := bd hq
  obtain ⟨p3, ep3, hq⟩ := bd hq
  refine E_cV3I d_Tc_act_10 ck_Tc_75 rfl rfl eq4 (Nat.le_of_ble_eq_true rfl) (Nat.le_of_ble_eq_true rfl) (t_Realm_canDo (by omega) ep3) ?_
  refine E_zne (tgt := 18) d_Tc_act_13 (by decide) (fun c => ?_) (fun c => ?_)
  · rw [if_neg c] at hq
    refine E_aln 0 d_Tc_act_18 rfl rfl ?_
    obtain ⟨v5, ev5, hq⟩ := bd hq
    refine E_gR d_Tc_act_19 lk_Tc_19 rfl ev5 ?_
    refine E_aln 0 d_Tc_act_22 rfl rfl ?_
    obtain ⟨v6, ev6, hq⟩ := bd hq
    refine E_gR d_Tc_act_23 lk_Tc_10 rfl ev6 ?_
    obtain ⟨v7, ev7, hq⟩ := bd hq
    refine E_gR d_Tc_act_26 lk_Tc_47 rfl ev7 ?_
    obtain ⟨q9, eq9, hq⟩ := bd hq
    obtain ⟨h8, eh8, hq⟩ := bd hq
    refine E_cV1V d_Tc_act_29 ck_Tc_78 rfl rfl eq9 (Nat.le_of_ble_eq_true rfl) (Nat.le_of_ble_eq_true rfl) (t_Log_keep (by omega) eh8) ?_
    refine E_aln 0 d_Tc_act_32 rfl rfl ?_
    obtain ⟨v10, ev10, hq⟩ := bd hq
    refine E_gR d_Tc_act_33 lk_Tc_10 rfl ev10 ?_
    obtain ⟨v11, ev11, hq⟩ := bd hq
    refine E_gR d_Tc_act_36 lk_Tc_47 rfl ev11 ?_
    refine E_iln 1 d_Tc_act_39 rfl rfl ?_
    refine E_iln 2 d_Tc_act_40 rfl rfl ?_
    refine E_iln 3 d_Tc_act_41 rfl rfl ?_
    obtain ⟨q13, eq13, hq⟩ := bd hq
    obtain ⟨h12, eh12, hq⟩ := bd hq
    refine E_cV3V d_Tc_act_42 ck_Tc_82 rfl rfl eq13 (Nat.le_of_ble_eq_true rfl) (Nat.le_of_ble_eq_true rfl) (t_Realm_perform (by omega) eh12) ?_
    refine E_ic (v := 1) d_Tc_act_45 (by decide) ?_
    exact E_rZ d_Tc_act_46 rfl hq
  · rw [if_pos c] at hq
    refine E_ic (v := 0) d_Tc_act_16 (by decide) ?_
    exact E_rZ d_Tc_act_17 rfl hq
def f_Row_get (a0 : Nat) (x1 : Int32) (x2 : Int32) (h : PH) : Option (Int32 × PH) :=
  if x1 < 0 then
    some ((-1), h)
  else
    (ldI h 6 a0 2).bind fun v1 =>
    if v1 ≤ x1 then
      some ((-1), h)
    else
      if x2 < 0 then
        some ((-1), h)
      else
        (ldI h 6 a0 0).bind fun v2 =>
        if x2 < v2 then
          (ldR h 6 a0 1).bind fun v3 =>
          (ldI h 6 a0 0).bind fun v4 =>
          (rdA h v3 ((x1 * v4) + x2)).bind fun v5 =>
          some (v5, h)
        else
          some ((-1), h)
theorem t_Row_get {d : Nat} (hd : 0 ≤ d) {a0 : Nat} {x1 : Int32} {x2 : Int32} {h : PH} {r : Int32 × PH} (hq : f_Row_get a0 x1 x2 h = some r) : E d 0 0 m_Row_get 0 [(0, .ref a0), (1, .int x1), (2, .int x2)] [] h (PI r) := by
  unfold f_Row_get at hq
  refine E_iln 1 d_Row_get_0 rfl rfl ?_
  refine E_zlt (tgt := 24) d_Row_get_1 (by decide) (fun c => ?_) (fun c => ?_)
  · rw [if_pos c] at hq
    refine E_ic (v := (-1)) d_Row_get_24 (by decide) ?_
    exact E_rI d_Row_get_25 rfl hq
  · rw [if_neg c] at hq
    refine E_iln 1 d_Row_get_4 rfl rfl ?_
    refine E_aln 0 d_Row_get_5 rfl rfl ?_
    obtain ⟨v1, ev1, hq⟩ := bd hq
    refine E_gI d_Row_get_6 lk_Row_9 rfl ev1 ?_
    refine E_jge (tgt := 24) d_Row_get_9 (by decide) (fun c => ?_) (fun c => ?_)
    · rw [if_pos c] at hq
      refine E_ic (v := (-1)) d_Row_get_24 (by decide) ?_
      exact E_rI d_Row_get_25 rfl hq
    · rw [if_neg c] at hq
      refine E_iln 2 d_Row_get_12 rfl rfl ?_
      refine E_zlt (tgt := 24) d_Row_get_13 (by decide) (fun c => ?_) (fun c => ?_)
      · rw [if_pos c] at hq
        refine E_ic (v := (-1)) d_Row_get_24 (by decide) ?_
        exact E_rI d_Row_get_25 rfl hq
      · rw [if_neg c] at hq
        refine E_iln 2 d_Row_get_16 rfl rfl ?_
        refine E_aln 0 d_Row_get_17 rfl rfl ?_
        obtain ⟨v2, ev2, hq⟩ := bd hq
        refine E_gI d_Row_get_18 lk_Row_15 rfl ev2 ?_
        refine E_jlt (tgt := 26) d_Row_get_21 (by decide) (fun c => ?_) (fun c => ?_)
        · rw [if_pos c] at hq
          refine E_aln 0 d_Row_get_26 rfl rfl ?_
          obtain ⟨v3, ev3, hq⟩ := bd hq
          refine E_gR d_Row_get_27 lk_Row_18 rfl ev3 ?_
          refine E_iln 1 d_Row_get_30 rfl rfl ?_
          refine E_aln 0 d_Row_get_31 rfl rfl ?_
          obtain ⟨v4, ev4, hq⟩ := bd hq
          refine E_gI d_Row_get_32 lk_Row_15 rfl ev4 ?_
          refine E_imul d_Row_get_35 ?_
          refine E_iln 2 d_Row_get_36 rfl rfl ?_
          refine E_iadd d_Row_get_37 ?_
          obtain ⟨v5, ev5, hq⟩ := bd hq
          refine E_ra d_Row_get_38 ev5 ?_
          exact E_rI d_Row_get_39 rfl hq
        · rw [if_neg c] at hq
          refine E_ic (v := (-1)) d_Row_get_24 (by decide) ?_
          exact E_rI d_Row_get_25 rfl hq
def f_Land_kinOf_4 : Nat → Nat → Int32 → Int32 → Int32 → PH → Option (Int32 × PH)
  | 0, _, _, _, _, _ => none
  | n + 1, a0, x1, x2, x3, h =>
    (ldR h 1 a0 3).bind fun v1 =>
    (ldI h 6 v1 2).bind fun v2 =>
    if v2 ≤ x3 then
      some (x2, h)
    else
      (ldR h 1 a0 3).bind fun v3 =>
      (isO h 6 v3).bind fun _ =>
      (f_Row_get v3 x3 0 h).bind fun p4 =>
      if p4.1 = x1 then
        (ldR p4.2 1 a0 3).bind fun v12 =>
        (isO p4.2 6 v12).bind fun _ =>
        (f_Row_get v12 x3 1 p4.2).bind fun p13 =>
        f_Land_kinOf_4 n a0 x1 (x2 ||| (jshl 1 p13.1)) (x3 + 1) p13.2
      else
        (ldR p4.2 1 a0 3).bind fun v6 =>
        (isO p4.2 6 v6).bind fun _ =>
        (f_Row_get v6 x3 1 p4.2).bind fun p7 =>
        if p7.1 = x1 then
          (ldR p7.2 1 a0 3).bind fun v9 =>
          (isO p7.2 6 v9).bind fun _ =>
          (f_Row_get v9 x3 0 p7.2).bind fun p10 =>
          f_Land_kinOf_4 n a0 x1 (x2 ||| (jshl 1 p10.1)) (x3 + 1) p10.2
        else
          f_Land_kinOf_4 n a0 x1 x2 (x3 + 1) p7.2
theorem t_Land_kinOf_4 {d : Nat} (hd : 1 ≤ d) : ∀ (n : Nat) (a0 : Nat) (x1 : Int32) (x2 : Int32) (x3 : Int32) (h : PH) (r : Int32 × PH), f_Land_kinOf_4 n a0 x1 x2 x3 h = some r → E d 0 0 m_Land_kinOf 4 [(0, .ref a0), (1, .int x1), (2, .int x2), (3, .int x3)] [] h (PI r) := by
  intro n
  induction n with
  | zero => intro a0 x1 x2 x3 h r hq; rw [f_Land_kinOf_4] at hq; cases hq
  | succ n ih =>
    intro a0 x1 x2 x3 h r hq
    rw [f_Land_kinOf_4] at hq
    obtain ⟨d, rfl⟩ : ∃ e, d = e + 1 := ⟨d - 1, by omega⟩
    refine E_iln 3 d_Land_kinOf_4 rfl rfl ?_
    refine E_aln 0 d_Land_kinOf_5 rfl rfl ?_
    obtain ⟨v1, ev1, hq⟩ := bd hq
    refine E_gR d_Land_kinOf_6 lk_Land_34 rfl ev1 ?_
    obtain ⟨v2, ev2, hq⟩ := bd hq
    refine E_gI d_Land_kinOf_9 lk_Land_74 rfl ev2 ?_
    refine E_jge (tgt := 78) d_Land_kinOf_12 (by decide) (fun c => ?_) (fun c => ?_)
    · rw [if_pos c] at hq
      refine E_iln 2 d_Land_kinOf_78 rfl rfl ?_
      exact E_rI d_Land_kinOf_79 rfl hq
    · rw [if_neg c] at hq
      refine E_aln 0 d_Land_kinOf_15 rfl rfl ?_
      obtain ⟨v3, ev3, hq⟩ := bd hq
      refine E_gR d_Land_kinOf_16 lk_Land_34 rfl ev3 ?_
      refine E_iln 3 d_Land_kinOf_19 rfl rfl ?_
      refine E_ic (v := 0) d_Land_kinOf_20 (by decide) ?_
      obtain ⟨q5, eq5, hq⟩ := bd hq
      obtain ⟨p4, ep4, hq⟩ := bd hq
      refine E_cV2I d_Land_kinOf_21 ck_Land_78 rfl rfl eq5 (Nat.le_of_ble_eq_true rfl) (Nat.le_of_ble_eq_true rfl) (t_Row_get (by omega) ep4) ?_
      refine E_iln 1 d_Land_kinOf_24 rfl rfl ?_
      refine E_jne (tgt := 45) d_Land_kinOf_25 (by decide) (fun c => ?_) (fun c => ?_)
      · rw [if_neg c] at hq
        refine E_aln 0 d_Land_kinOf_45 rfl rfl ?_
        obtain ⟨v6, ev6, hq⟩ := bd hq
        refine E_gR d_Land_kinOf_46 lk_Land_34 rfl ev6 ?_
        refine E_iln 3 d_Land_kinOf_49 rfl rfl ?_
        refine E_ic (v := 1) d_Land_kinOf_50 (by decide) ?_
        obtain ⟨q8, eq8, hq⟩ := bd hq
        obtain ⟨p7, ep7, hq⟩ := bd hq
        refine E_cV2I d_Land_kinOf_51 ck_Land_78 rfl rfl eq8 (Nat.le_of_ble_eq_true rfl) (Nat.le_of_ble_eq_true rfl) (t_Row_get (by omega) ep7) ?_
        refine E_iln 1 d_Land_kinOf_54 rfl rfl ?_
        refine E_jne (tgt := 72) d_Land_kinOf_55 (by decide) (fun c => ?_) (fun c => ?_)
        · rw [if_neg c] at hq
          refine E_inc (v := 1) (ls' := [(3, .int (x3 + 1)), (0, .ref a0), (1, .int x1), (2, .int x2)]) 3 d_Land_kinOf_72 rfl (Nat.le_of_ble_eq_true rfl) (by decide) rfl ?_
          refine E_goto (tgt := 4) d_Land_kinOf_75 (by decide) ?_
          exact E_sub (ks := [1, 2, 3, 0]) rfl <| ih _ _ _ _ _ _ hq
        · rw [if_pos c] at hq
          refine E_iln 2 d_Land_kinOf_58 rfl rfl ?_
          refine E_ic (v := 1) d_Land_kinOf_59 (by decide) ?_
          refine E_aln 0 d_Land_kinOf_60 rfl rfl ?_
          obtain ⟨v9, ev9, hq⟩ := bd hq
          refine E_gR d_Land_kinOf_61 lk_Land_34 rfl ev9 ?_
          refine E_iln 3 d_Land_kinOf_64 rfl rfl ?_
          refine E_ic (v := 0) d_Land_kinOf_65 (by decide) ?_
          obtain ⟨q11, eq11, hq⟩ := bd hq
          obtain ⟨p10, ep10, hq⟩ := bd hq
          refine E_cV2I d_Land_kinOf_66 ck_Land_78 rfl rfl eq11 (Nat.le_of_ble_eq_true rfl) (Nat.le_of_ble_eq_true rfl) (t_Row_get (by omega) ep10) ?_
          refine E_ishl d_Land_kinOf_69 ?_
          refine E_ior d_Land_kinOf_70 ?_
          refine E_isn (ls' := [(2, .int (x2 ||| (jshl 1 p10.1))), (0, .ref a0), (1, .int x1), (3, .int x3)]) d_Land_kinOf_71 (Nat.le_of_ble_eq_true rfl) rfl ?_
          refine E_inc (v := 1) (ls' := [(3, .int (x3 + 1)), (2, .int (x2 ||| (jshl 1 p10.1))), (0, .ref a0), (1, .int x1)]) 3 d_Land_kinOf_72 rfl (Nat.le_of_ble_eq_true rfl) (by decide) rfl ?_
          refine E_goto (tgt := 4) d_Land_kinOf_75 (by decide) ?_
          exact E_sub (ks := [2, 3, 1, 0]) rfl <| ih _ _ _ _ _ _ hq
      · rw [if_pos c] at hq
        refine E_iln 2 d_Land_kinOf_28 rfl rfl ?_
        refine E_ic (v := 1) d_Land_kinOf_29 (by decide) ?_
        refine E_aln 0 d_Land_kinOf_30 rfl rfl ?_
        obtain ⟨v12, ev12, hq⟩ := bd hq
        refine E_gR d_Land_kinOf_31 lk_Land_34 rfl ev12 ?_
        refine E_iln 3 d_Land_kinOf_34 rfl rfl ?_
        refine E_ic (v := 1) d_Land_kinOf_35 (by decide) ?_
        obtain ⟨q14, eq14, hq⟩ := bd hq
        obtain ⟨p13, ep13, hq⟩ := bd hq
        refine E_cV2I d_Land_kinOf_36 ck_Land_78 rfl rfl eq14 (Nat.le_of_ble_eq_true rfl) (Nat.le_of_ble_eq_true rfl) (t_Row_get (by omega) ep13) ?_
        refine E_ishl d_Land_kinOf_39 ?_
        refine E_ior d_Land_kinOf_40 ?_
        refine E_isn (ls' := [(2, .int (x2 ||| (jshl 1 p13.1))), (0, .ref a0), (1, .int x1), (3, .int x3)]) d_Land_kinOf_41 (Nat.le_of_ble_eq_true rfl) rfl ?_
        refine E_goto (tgt := 72) d_Land_kinOf_42 (by decide) ?_
        refine E_inc (v := 1) (ls' := [(3, .int (x3 + 1)), (2, .int (x2 ||| (jshl 1 p13.1))), (0, .ref a0), (1, .int x1)]) 3 d_Land_kinOf_72 rfl (Nat.le_of_ble_eq_true rfl) (by decide) rfl ?_
        refine E_goto (tgt := 4) d_Land_kinOf_75 (by decide) ?_
        exact E_sub (ks := [2, 3, 1, 0]) rfl <| ih _ _ _ _ _ _ hq
def f_Land_kinOf (a0 : Nat) (x1 : Int32) (h : PH) : Option (Int32 × PH) :=
  f_Land_kinOf_4 FU a0 x1 0 0 h
theorem t_Land_kinOf {d : Nat} (hd : 1 ≤ d) {a0 : Nat} {x1 : Int32} {h : PH} {r : Int32 × PH} (hq : f_Land_kinOf a0 x1 h = some r) : E d 0 0 m_Land_kinOf 0 [(0, .ref a0), (1, .int x1)] [] h (PI r) := by
  unfold f_Land_kinOf at hq
  obtain ⟨d, rfl⟩ : ∃ e, d = e + 1 := ⟨d - 1, by omega⟩
  refine E_ic (v := 0) d_Land_kinOf_0 (by decide) ?_
  refine E_isn (ls' := [(2, .int 0), (0, .ref a0), (1, .int x1)]) d_Land_kinOf_1 (Nat.le_of_ble_eq_true rfl) rfl ?_
  refine E_ic (v := 0) d_Land_kinOf_2 (by decide) ?_
  refine E_isn (ls' := [(3, .int 0), (2, .int 0), (0, .ref a0), (1, .int x1)]) d_Land_kinOf_3 (Nat.le_of_ble_eq_true rfl) rfl ?_
  exact E_sub (ks := [2, 3, 1, 0]) rfl <| t_Land_kinOf_4 (by omega) _ _ _ _ _ _ _ hq
def f_Int_bitCount (x0 : Int32) (h : PH) : Option (Int32 × PH) :=
  some (((((((((x0 - ((jush x0 1) &&& 1431655765)) &&& 858993459) + ((jush (x0 - ((jush x0 1) &&& 1431655765)) 2) &&& 858993459)) + (jush (((x0 - ((jush x0 1) &&& 1431655765)) &&& 858993459) + ((jush (x0 - ((jush x0 1) &&& 1431655765)) 2) &&& 858993459)) 4)) &&& 252645135) + (jush (((((x0 - ((jush x0 1) &&& 1431655765)) &&& 858993459) + ((jush (x0 - ((jush x0 1) &&& 1431655765)) 2) &&& 858993459)) + (jush (((x0 - ((jush x0 1) &&& 1431655765)) &&& 858993459) + ((jush (x0 - ((jush x0 1) &&& 1431655765)) 2) &&& 858993459)) 4)) &&& 252645135) 8)) + (jush ((((((x0 - ((jush x0 1) &&& 1431655765)) &&& 858993459) + ((jush (x0 - ((jush x0 1) &&& 1431655765)) 2) &&& 858993459)) + (jush (((x0 - ((jush x0 1) &&& 1431655765)) &&& 858993459) + ((jush (x0 - ((jush x0 1) &&& 1431655765)) 2) &&& 858993459)) 4)) &&& 252645135) + (jush (((((x0 - ((jush x0 1) &&& 1431655765)) &&& 858993459) + ((jush (x0 - ((jush x0 1) &&& 1431655765)) 2) &&& 858993459)) + (jush (((x0 - ((jush x0 1) &&& 1431655765)) &&& 858993459) + ((jush (x0 - ((jush x0 1) &&& 1431655765)) 2) &&& 858993459)) 4)) &&& 252645135) 8)) 16)) &&& 63), h)
theorem t_Int_bitCount {d : Nat} (hd : 0 ≤ d) {x0 : Int32} {h : PH} {r : Int32 × PH} (hq : f_Int_bitCount x0 h = some r) : E d 0 0 m_Int_bitCount 0 [(0, .int x0)] [] h (PI r) := by
  unfold f_Int_bitCount at hq
  refine E_iln 0 d_Int_bitCount_0 rfl rfl ?_
  refine E_iln 0 d_Int_bitCount_1 rfl rfl ?_
  refine E_ic (v := 1) d_Int_bitCount_2 (by decide) ?_
  refine E_iushr d_Int_bitCount_3 ?_
  refine E_ldcw d_Int_bitCount_4 kc_Int_265 ?_
  refine E_iand d_Int_bitCount_7 ?_
  refine E_isub d_Int_bitCount_8 ?_
  refine E_isn (ls' := [(0, .int (x0 - ((jush x0 1) &&& 1431655765)))]) d_Int_bitCount_9 (Nat.le_of_ble_eq_true rfl) rfl ?_
  refine E_iln 0 d_Int_bitCount_10 rfl rfl ?_
  refine E_ldcw d_Int_bitCount_11 kc_Int_266 ?_
  refine E_iand d_Int_bitCount_14 ?_
  refine E_iln 0 d_Int_bitCount_15 rfl rfl ?_
  refine E_ic (v := 2) d_Int_bitCount_16 (by decide) ?_
  refine E_iushr d_Int_bitCount_17 ?_
  refine E_ldcw d_Int_bitCount_18 kc_Int_266 ?_
  refine E_iand d_Int_bitCount_21 ?_
  refine E_iadd d_Int_bitCount_22 ?_
  refine E_isn (ls' := [(0, .int (((x0 - ((jush x0 1) &&& 1431655765)) &&& 858993459) + ((jush (x0 - ((jush x0 1) &&& 1431655765)) 2) &&& 858993459)))]) d_Int_bitCount_23 (Nat.le_of_ble_eq_true rfl) rfl ?_
  refine E_iln 0 d_Int_bitCount_24 rfl rfl ?_
  refine E_iln 0 d_Int_bitCount_25 rfl rfl ?_
  refine E_ic (v := 4) d_Int_bitCount_26 (by decide) ?_
  refine E_iushr d_Int_bitCount_27 ?_
  refine E_iadd d_Int_bitCount_28 ?_
  refine E_ldcw d_Int_bitCount_29 kc_Int_267 ?_
  refine E_iand d_Int_bitCount_32 ?_
  refine E_isn (ls' := [(0, .int (((((x0 - ((jush x0 1) &&& 1431655765)) &&& 858993459) + ((jush (x0 - ((jush x0 1) &&& 1431655765)) 2) &&& 858993459)) + (jush (((x0 - ((jush x0 1) &&& 1431655765)) &&& 858993459) + ((jush (x0 - ((jush x0 1) &&& 1431655765)) 2) &&& 858993459)) 4)) &&& 252645135))]) d_Int_bitCount_33 (Nat.le_of_ble_eq_true rfl) rfl ?_
  refine E_iln 0 d_Int_bitCount_34 rfl rfl ?_
  refine E_iln 0 d_Int_bitCount_35 rfl rfl ?_
  refine E_bi (v := 8) d_Int_bitCount_36 (by decide) ?_
  refine E_iushr d_Int_bitCount_38 ?_
  refine E_iadd d_Int_bitCount_39 ?_
  refine E_isn (ls' := [(0, .int ((((((x0 - ((jush x0 1) &&& 1431655765)) &&& 858993459) + ((jush (x0 - ((jush x0 1) &&& 1431655765)) 2) &&& 858993459)) + (jush (((x0 - ((jush x0 1) &&& 1431655765)) &&& 858993459) + ((jush (x0 - ((jush x0 1) &&& 1431655765)) 2) &&& 858993459)) 4)) &&& 252645135) + (jush (((((x0 - ((jush x0 1) &&& 1431655765)) &&& 858993459) + ((jush (x0 - ((jush x0 1) &&& 1431655765)) 2) &&& 858993459)) + (jush (((x0 - ((jush x0 1) &&& 1431655765)) &&& 858993459) + ((jush (x0 - ((jush x0 1) &&& 1431655765)) 2) &&& 858993459)) 4)) &&& 252645135) 8)))]) d_Int_bitCount_40 (Nat.le_of_ble_eq_true rfl) rfl ?_
  refine E_iln 0 d_Int_bitCount_41 rfl rfl ?_
  refine E_iln 0 d_Int_bitCount_42 rfl rfl ?_
  refine E_bi (v := 16) d_Int_bitCount_43 (by decide) ?_
  refine E_iushr d_Int_bitCount_45 ?_
  refine E_iadd d_Int_bitCount_46 ?_
  refine E_isn (ls' := [(0, .int (((((((x0 - ((jush x0 1) &&& 1431655765)) &&& 858993459) + ((jush (x0 - ((jush x0 1) &&& 1431655765)) 2) &&& 858993459)) + (jush (((x0 - ((jush x0 1) &&& 1431655765)) &&& 858993459) + ((jush (x0 - ((jush x0 1) &&& 1431655765)) 2) &&& 858993459)) 4)) &&& 252645135) + (jush (((((x0 - ((jush x0 1) &&& 1431655765)) &&& 858993459) + ((jush (x0 - ((jush x0 1) &&& 1431655765)) 2) &&& 858993459)) + (jush (((x0 - ((jush x0 1) &&& 1431655765)) &&& 858993459) + ((jush (x0 - ((jush x0 1) &&& 1431655765)) 2) &&& 858993459)) 4)) &&& 252645135) 8)) + (jush ((((((x0 - ((jush x0 1) &&& 1431655765)) &&& 858993459) + ((jush (x0 - ((jush x0 1) &&& 1431655765)) 2) &&& 858993459)) + (jush (((x0 - ((jush x0 1) &&& 1431655765)) &&& 858993459) + ((jush (x0 - ((jush x0 1) &&& 1431655765)) 2) &&& 858993459)) 4)) &&& 252645135) + (jush (((((x0 - ((jush x0 1) &&& 1431655765)) &&& 858993459) + ((jush (x0 - ((jush x0 1) &&& 1431655765)) 2) &&& 858993459)) + (jush (((x0 - ((jush x0 1) &&& 1431655765)) &&& 858993459) + ((jush (x0 - ((jush x0 1) &&& 1431655765)) 2) &&& 858993459)) 4)) &&& 252645135) 8)) 16)))]) d_Int_bitCount_47 (Nat.le_of_ble_eq_true rfl) rfl ?_
  refine E_iln 0 d_Int_bitCount_48 rfl rfl ?_
  refine E_bi (v := 63) d_Int_bitCount_49 (by decide) ?_
  refine E_iand d_Int_bitCount_51 ?_
  exact E_rI d_Int_bitCount_52 rfl hq
def f_Law_ask_158 (a0 : Nat) (x4 : Int32) (s0 : Int32) (s1 : Int32) (s2 : Nat) (h : PH) : Option (PH) :=
  (wrA h s2 s1 s0).bind fun h1 =>
  (ldR h1 2 a0 3).bind fun v2 =>
  (wrA h1 v2 9 x4).bind fun h3 =>
  some h3
theorem t_Law_ask_158 {d : Nat} (hd : 1 ≤ d) {a0 : Nat} {x4 : Int32} {s0 : Int32} {s1 : Int32} {s2 : Nat} {h : PH} {r : PH} (hq : f_Law_ask_158 a0 x4 s0 s1 s2 h = some r) : E d 0 0 m_Law_ask 158 [(0, .ref a0), (4, .int x4)] [.int s0, .int s1, .ref s2] h (PV r) := by
  unfold f_Law_ask_158 at hq
  obtain ⟨d, rfl⟩ : ∃ e, d = e + 1 := ⟨d - 1, by omega⟩
  obtain ⟨h1, eh1, hq⟩ := bd hq
  refine E_wa d_Law_ask_158 eh1 ?_
  refine E_aln 0 d_Law_ask_159 rfl rfl ?_
  obtain ⟨v2, ev2, hq⟩ := bd hq
  refine E_gR d_Law_ask_160 lk_Law_28 rfl ev2 ?_
  refine E_bi (v := 9) d_Law_ask_163 (by decide) ?_
  refine E_il 1 d_Law_ask_165 rfl ?_
  obtain ⟨h3, eh3, hq⟩ := bd hq
  refine E_wa d_Law_ask_167 eh3 ?_
  exact E_rV d_Law_ask_168 rfl hq
def f_Law_ask_136 (a0 : Nat) (a1 : Nat) (x3 : Int32) (x4 : Int32) (x5 : Int32) (s0 : Int32) (s1 : Int32) (s2 : Nat) (h : PH) : Option (PH) :=
  (wrA h s2 s1 s0).bind fun h1 =>
  (ldR h1 2 a0 3).bind fun v2 =>
  if x5 = 0 then
    f_Law_ask_158 a0 x4 0 8 v2 h1
  else
    (ldR h1 5 a1 13).bind fun v3 =>
    (rdA h1 v3 x3).bind fun v4 =>
    f_Law_ask_158 a0 x4 v4 8 v2 h1
theorem t_Law_ask_136 {d : Nat} (hd : 1 ≤ d) {a0 : Nat} {a1 : Nat} {x3 : Int32} {x4 : Int32} {x5 : Int32} {s0 : Int32} {s1 : Int32} {s2 : Nat} {h : PH} {r : PH} (hq : f_Law_ask_136 a0 a1 x3 x4 x5 s0 s1 s2 h = some r) : E d 0 0 m_Law_ask 136 [(0, .ref a0), (1, .ref a1), (3, .int x3), (4, .int x4), (5, .int x5)] [.int s0, .int s1, .ref s2] h (PV r) := by
  unfold f_Law_ask_136 at hq
  obtain ⟨d, rfl⟩ : ∃ e, d = e + 1 := ⟨d - 1, by omega⟩
  obtain ⟨h1, eh1, hq⟩ := bd hq
  refine E_wa d_Law_ask_136 eh1 ?_
  refine E_aln 0 d_Law_ask_137 rfl rfl ?_
  obtain ⟨v2, ev2, hq⟩ := bd hq
  refine E_gR d_Law_ask_138 lk_Law_28 rfl ev2 ?_
  refine E_bi (v := 8) d_Law_ask_141 (by decide) ?_
  refine E_il 4 d_Law_ask_143 rfl ?_
  refine E_zeq (tgt := 157) d_Law_ask_145 (by decide) (fun c => ?_) (fun c => ?_)
  · rw [if_pos c] at hq
    refine E_ic (v := 0) d_Law_ask_157 (by decide) ?_
    exact E_sub (ks := [0, 3]) rfl <| t_Law_ask_158 (by omega) hq
  · rw [if_neg c] at hq
    refine E_aln 1 d_Law_ask_148 rfl rfl ?_
    obtain ⟨v3, ev3, hq⟩ := bd hq
    refine E_gR d_Law_ask_149 lk_Law_87 rfl ev3 ?_
    refine E_iln 2 d_Law_ask_152 rfl rfl ?_
    obtain ⟨v4, ev4, hq⟩ := bd hq
    refine E_ra d_Law_ask_153 ev4 ?_
    refine E_goto (tgt := 158) d_Law_ask_154 (by decide) ?_
    exact E_sub (ks := [0, 3]) rfl <| t_Law_ask_158 (by omega) hq
def f_Law_ask_114 (a0 : Nat) (a1 : Nat) (x3 : Int32) (x4 : Int32) (x5 : Int32) (s0 : Int32) (s1 : Int32) (s2 : Nat) (h : PH) : Option (PH) :=
  (wrA h s2 s1 s0).bind fun h1 =>
  (ldR h1 2 a0 3).bind fun v2 =>
  if x5 = 0 then
    f_Law_ask_136 a0 a1 x3 x4 x5 0 7 v2 h1
  else
    (ldR h1 5 a1 12).bind fun v3 =>
    (rdA h1 v3 x3).bind fun v4 =>
    f_Law_ask_136 a0 a1 x3 x4 x5 v4 7 v2 h1
theorem t_Law_ask_114 {d : Nat} (hd : 1 ≤ d) {a0 : Nat} {a1 : Nat} {x3 : Int32} {x4 : Int32} {x5 : Int32} {s0 : Int32} {s1 : Int32} {s2 : Nat} {h : PH} {r : PH} (hq : f_Law_ask_114 a0 a1 x3 x4 x5 s0 s1 s2 h = some r) : E d 0 0 m_Law_ask 114 [(0, .ref a0), (1, .ref a1), (3, .int x3), (4, .int x4), (5, .int x5)] [.int s0, .int s1, .ref s2] h (PV r) := by
  unfold f_Law_ask_114 at hq
  obtain ⟨d, rfl⟩ : ∃ e, d = e + 1 := ⟨d - 1, by omega⟩
  obtain ⟨h1, eh1, hq⟩ := bd hq
  refine E_wa d_Law_ask_114 eh1 ?_
  refine E_aln 0 d_Law_ask_115 rfl rfl ?_
  obtain ⟨v2, ev2, hq⟩ := bd hq
  refine E_gR d_Law_ask_116 lk_Law_28 rfl ev2 ?_
  refine E_bi (v := 7) d_Law_ask_119 (by decide) ?_
  refine E_il 4 d_Law_ask_121 rfl ?_
  refine E_zeq (tgt := 135) d_Law_ask_123 (by decide) (fun c => ?_) (fun c => ?_)
  · rw [if_pos c] at hq
    refine E_ic (v := 0) d_Law_ask_135 (by decide) ?_
    exact t_Law_ask_136 (by omega) hq
  · rw [if_neg c] at hq
    refine E_aln 1 d_Law_ask_126 rfl rfl ?_
    obtain ⟨v3, ev3, hq⟩ := bd hq
    refine E_gR d_Law_ask_127 lk_Law_84 rfl ev3 ?_
    refine E_iln 2 d_Law_ask_130 rfl rfl ?_
    obtain ⟨v4, ev4, hq⟩ := bd hq
    refine E_ra d_Law_ask_131 ev4 ?_
    refine E_goto (tgt := 136) d_Law_ask_132 (by decide) ?_
    exact t_Law_ask_136 (by omega) hq
def f_Law_ask (a0 : Nat) (a1 : Nat) (x2 : Int32) (x3 : Int32) (x4 : Int32) (h : PH) : Option (PH) :=
  (isO h 5 a1).bind fun _ =>
  (f_Realm_isTraveller a1 x2 h).bind fun p1 =>
  if p1.1 = 0 then
    some p1.2
  else
    (isO p1.2 5 a1).bind fun _ =>
    (f_Realm_isOfficer a1 x3 p1.2).bind fun p3 =>
    (ldR p3.2 2 a0 3).bind fun v5 =>
    (ldR p3.2 5 a1 2).bind fun v6 =>
    (rdA p3.2 v6 x2).bind fun v7 =>
    (wrA p3.2 v5 0 v7).bind fun h8 =>
    (ldR h8 2 a0 3).bind fun v9 =>
    (ldR h8 5 a1 3).bind fun v10 =>
    (rdA h8 v10 x2).bind fun v11 =>
    (wrA h8 v9 1 v11).bind fun h12 =>
    (ldR h12 2 a0 3).bind fun v13 =>
    (ldR h12 5 a1 5).bind fun v14 =>
    (rdA h12 v14 x2).bind fun v15 =>
    (wrA h12 v13 2 v15).bind fun h16 =>
    (ldR h16 2 a0 3).bind fun v17 =>
    (ldR h16 5 a1 4).bind fun v18 =>
    (rdA h16 v18 x2).bind fun v19 =>
    (wrA h16 v17 3 v19).bind fun h20 =>
    (ldR h20 2 a0 3).bind fun v21 =>
    (ldI h20 5 a1 18).bind fun v22 =>
    (rmI v22 24).bind fun v23 =>
    (wrA h20 v21 4 v23).bind fun h24 =>
    (ldR h24 2 a0 3).bind fun v25 =>
    (ldR h24 5 a1 6).bind fun v26 =>
    (rdA h24 v26 x2).bind fun v27 =>
    (wrA h24 v25 5 (jmax 0 v27)).bind fun h28 =>
    (ldR h28 2 a0 3).bind fun v29 =>
    if p3.1 = 0 then
      f_Law_ask_114 a0 a1 x3 x4 p3.1 0 6 v29 h28
    else
      (ldR h28 5 a1 11).bind fun v30 =>
      (rdA h28 v30 x3).bind fun v31 =>
      f_Law_ask_114 a0 a1 x3 x4 p3.1 v31 6 v29 h28
theorem t_Law_ask {d : Nat} (hd : 1 ≤ d) {a0 : Nat} {a1 : Nat} {x2 : Int32} {x3 : Int32} {x4 : Int32} {h : PH} {r : PH} (hq : f_Law_ask a0 a1 x2 x3 x4 h = some r) : E d 0 0 m_Law_ask 0 [(0, .ref a0), (1, .ref a1), (2, .int x2), (3, .int x3), (4, .int x4)] [] h (PV r) := by
  unfold f_Law_ask at hq
  obtain ⟨d, rfl⟩ : ∃ e, d = e + 1 := ⟨d - 1, by omega⟩
  refine E_aln 1 d_Law_ask_0 rfl rfl ?_
  refine E_iln 2 d_Law_ask_1 rfl rfl ?_
  obtain ⟨q2, eq2, hq⟩ := bd hq
  obtain ⟨p1, ep1, hq⟩ := bd hq
  refine E_cV1I d_Law_ask_2 ck_Law_48 rfl rfl eq2 (Nat.le_of_ble_eq_true rfl) (Nat.le_of_ble_eq_true rfl) (t_Realm_isTraveller (by omega) ep1) ?_
  refine E_zne (tgt := 9) d_Law_ask_5 (by decide) (fun c => ?_) (fun c => ?_)
  · rw [if_neg c] at hq
    refine E_aln 1 d_Law_ask_9 rfl rfl ?_
    refine E_iln 3 d_Law_ask_10 rfl rfl ?_
    obtain ⟨q4, eq4, hq⟩ := bd hq
    obtain ⟨p3, ep3, hq⟩ := bd hq
    refine E_cV1I d_Law_ask_11 ck_Law_54 rfl rfl eq4 (Nat.le_of_ble_eq_true rfl) (Nat.le_of_ble_eq_true rfl) (t_Realm_isOfficer (by omega) ep3) ?_
    refine E_is (ls' := [(5, .int p3.1), (0, .ref a0), (1, .ref a1), (2, .int x2), (3, .int x3), (4, .int x4)]) d_Law_ask_14 (Nat.le_of_ble_eq_true rfl) rfl ?_
    refine E_aln 1 d_Law_ask_16 rfl rfl ?_
    obtain ⟨v5, ev5, hq⟩ := bd hq
    refine E_gR d_Law_ask_17 lk_Law_28 rfl ev5 ?_
    refine E_ic (v := 0) d_Law_ask_20 (by decide) ?_
    refine E_aln 2 d_Law_ask_21 rfl rfl ?_
    obtain ⟨v6, ev6, hq⟩ := bd hq
    refine E_gR d_Law_ask_22 lk_Law_57 rfl ev6 ?_
    refine E_iln 3 d_Law_ask_25 rfl rfl ?_
    obtain ⟨v7, ev7, hq⟩ := bd hq
    refine E_ra d_Law_ask_26 ev7 ?_
    obtain ⟨h8, eh8, hq⟩ := bd hq
    refine E_wa d_Law_ask_27 eh8 ?_
    refine E_aln 1 d_Law_ask_28 rfl rfl ?_
    obtain ⟨v9, ev9, hq⟩ := bd hq
    refine E_gR d_Law_ask_29 lk_Law_28 rfl ev9 ?_
    refine E_ic (v := 1) d_Law_ask_32 (by decide) ?_
    refine E_aln 2 d_Law_ask_33 rfl rfl ?_
    obtain ⟨v10, ev10, hq⟩ := bd hq
    refine E_gR d_Law_ask_34 lk_Law_60 rfl ev10 ?_
    refine E_iln 3 d_Law_ask_37 rfl rfl ?_
    obtain ⟨v11, ev11, hq⟩ := bd hq
    refine E_ra d_Law_ask_38 ev11 ?_
    obtain ⟨h12, eh12, hq⟩ := bd hq
    refine E_wa d_Law_ask_39 eh12 ?_
    refine E_aln 1 d_Law_ask_40 rfl rfl ?_
    obtain ⟨v13, ev13, hq⟩ := bd hq
    refine E_gR d_Law_ask_41 lk_Law_28 rfl ev13 ?_
    refine E_ic (v := 2) d_Law_ask_44 (by decide) ?_
    refine E_aln 2 d_Law_ask_45 rfl rfl ?_
    obtain ⟨v14, ev14, hq⟩ := bd hq
    refine E_gR d_Law_ask_46 lk_Law_63 rfl ev14 ?_
    refine E_iln 3 d_Law_ask_49 rfl rfl ?_
    obtain ⟨v15, ev15, hq⟩ := bd hq
    refine E_ra d_Law_ask_50 ev15 ?_
    obtain ⟨h16, eh16, hq⟩ := bd hq
    refine E_wa d_Law_ask_51 eh16 ?_
    refine E_aln 1 d_Law_ask_52 rfl rfl ?_
    obtain ⟨v17, ev17, hq⟩ := bd hq
    refine E_gR d_Law_ask_53 lk_Law_28 rfl ev17 ?_
    refine E_ic (v := 3) d_Law_ask_56 (by decide) ?_
    refine E_aln 2 d_Law_ask_57 rfl rfl ?_
    obtain ⟨v18, ev18, hq⟩ := bd hq
    refine E_gR d_Law_ask_58 lk_Law_66 rfl ev18 ?_
    refine E_iln 3 d_Law_ask_61 rfl rfl ?_
    obtain ⟨v19, ev19, hq⟩ := bd hq
    refine E_ra d_Law_ask_62 ev19 ?_
    obtain ⟨h20, eh20, hq⟩ := bd hq
    refine E_wa d_Law_ask_63 eh20 ?_
    refine E_aln 1 d_Law_ask_64 rfl rfl ?_
    obtain ⟨v21, ev21, hq⟩ := bd hq
    refine E_gR d_Law_ask_65 lk_Law_28 rfl ev21 ?_
    refine E_ic (v := 4) d_Law_ask_68 (by decide) ?_
    refine E_aln 2 d_Law_ask_69 rfl rfl ?_
    obtain ⟨v22, ev22, hq⟩ := bd hq
    refine E_gI d_Law_ask_70 lk_Law_69 rfl ev22 ?_
    refine E_bi (v := 24) d_Law_ask_73 (by decide) ?_
    obtain ⟨v23, ev23, hq⟩ := bd hq
    refine E_rm d_Law_ask_75 ev23 ?_
    obtain ⟨h24, eh24, hq⟩ := bd hq
    refine E_wa d_Law_ask_76 eh24 ?_
    refine E_aln 1 d_Law_ask_77 rfl rfl ?_
    obtain ⟨v25, ev25, hq⟩ := bd hq
    refine E_gR d_Law_ask_78 lk_Law_28 rfl ev25 ?_
    refine E_ic (v := 5) d_Law_ask_81 (by decide) ?_
    refine E_ic (v := 0) d_Law_ask_82 (by decide) ?_
    refine E_aln 2 d_Law_ask_83 rfl rfl ?_
    obtain ⟨v26, ev26, hq⟩ := bd hq
    refine E_gR d_Law_ask_84 lk_Law_72 rfl ev26 ?_
    refine E_iln 3 d_Law_ask_87 rfl rfl ?_
    obtain ⟨v27, ev27, hq⟩ := bd hq
    refine E_ra d_Law_ask_88 ev27 ?_
    refine E_max d_Law_ask_89 kj_Law_75 (Nat.le_of_ble_eq_true rfl) ?_
    obtain ⟨h28, eh28, hq⟩ := bd hq
    refine E_wa d_Law_ask_92 eh28 ?_
    refine E_aln 1 d_Law_ask_93 rfl rfl ?_
    obtain ⟨v29, ev29, hq⟩ := bd hq
    refine E_gR d_Law_ask_94 lk_Law_28 rfl ev29 ?_
    refine E_bi (v := 6) d_Law_ask_97 (by decide) ?_
    refine E_il 0 d_Law_ask_99 rfl ?_
    refine E_zeq (tgt := 113) d_Law_ask_101 (by decide) (fun c => ?_) (fun c => ?_)
    · rw [if_pos c] at hq
      refine E_ic (v := 0) d_Law_ask_113 (by decide) ?_
      exact E_sub (ks := [1, 2, 4, 5, 0]) rfl <| t_Law_ask_114 (by omega) hq
    · rw [if_neg c] at hq
      refine E_aln 2 d_Law_ask_104 rfl rfl ?_
      obtain ⟨v30, ev30, hq⟩ := bd hq
      refine E_gR d_Law_ask_105 lk_Law_81 rfl ev30 ?_
      refine E_iln 4 d_Law_ask_108 rfl rfl ?_
      obtain ⟨v31, ev31, hq⟩ := bd hq
      refine E_ra d_Law_ask_109 ev31 ?_
      refine E_goto (tgt := 114) d_Law_ask_110 (by decide) ?_
      exact E_sub (ks := [1, 2, 4, 5, 0]) rfl <| t_Law_ask_114 (by omega) hq
  · rw [if_pos c] at hq
    exact E_rV d_Law_ask_8 rfl hq
def f_Law_joined (x0 : Int32) (x1 : Int32) (x2 : Int32) (h : PH) : Option (Int32 × PH) :=
  if x0 = (-19) then
    some ((x1 ||| x2), h)
  else
    if x0 = (-18) then
      some ((x1 &&& x2), h)
    else
      if x0 = (-17) then
        if x1 ≤ x2 then
          some (0, h)
        else
          some (1, h)
      else
        if x0 = (-16) then
          if x1 = x2 then
            some (1, h)
          else
            some (0, h)
        else
          if x0 = (-15) then
            if x2 ≤ x1 then
              some (0, h)
            else
              some (1, h)
          else
            if x0 = (-14) then
              if x2 = 0 then
                some (0, h)
              else
                (dvI x1 x2).bind fun v1 =>
                some (v1, h)
            else
              if x0 = (-13) then
                some ((x1 * x2), h)
              else
                if x0 = (-12) then
                  some ((x1 - x2), h)
                else
                  if x0 = (-11) then
                    some ((x1 + x2), h)
                  else
                    some (0, h)
theorem t_Law_joined {d : Nat} (hd : 0 ≤ d) {x0 : Int32} {x1 : Int32} {x2 : Int32} {h : PH} {r : Int32 × PH} (hq : f_Law_joined x0 x1 x2 h = some r) : E d 0 0 m_Law_joined 0 [(0, .int x0), (1, .int x1), (2, .int x2)] [] h (PI r) := by
  unfold f_Law_joined at hq
  refine E_iln 0 d_Law_joined_0 rfl rfl ?_
  by_cases c0 : x0 = (-19)
  · rw [if_pos c0] at hq
    refine E_table (tgt := 113) d_Law_joined_1 (by rw [c0]; decide) (fun _ _ => ⟨112, by rw [c0]; decide, by decide⟩) ?_
    refine E_iln 1 d_Law_joined_113 rfl rfl ?_
    refine E_iln 2 d_Law_joined_114 rfl rfl ?_
    refine E_ior d_Law_joined_115 ?_
    exact E_rI d_Law_joined_116 rfl hq
  · rw [if_neg c0] at hq
    by_cases c1 : x0 = (-18)
    · rw [if_pos c1] at hq
      refine E_table (tgt := 109) d_Law_joined_1 (by rw [c1]; decide) (fun _ _ => ⟨108, by rw [c1]; decide, by decide⟩) ?_
      refine E_iln 1 d_Law_joined_109 rfl rfl ?_
      refine E_iln 2 d_Law_joined_110 rfl rfl ?_
      refine E_iand d_Law_joined_111 ?_
      exact E_rI d_Law_joined_112 rfl hq
    · rw [if_neg c1] at hq
      by_cases c2 : x0 = (-17)
      · rw [if_pos c2] at hq
        refine E_table (tgt := 98) d_Law_joined_1 (by rw [c2]; decide) (fun _ _ => ⟨97, by rw [c2]; decide, by decide⟩) ?_
        refine E_iln 1 d_Law_joined_98 rfl rfl ?_
        refine E_iln 2 d_Law_joined_99 rfl rfl ?_
        refine E_jle (tgt := 107) d_Law_joined_100 (by decide) (fun c => ?_) (fun c => ?_)
        · rw [if_pos c] at hq
          refine E_ic (v := 0) d_Law_joined_107 (by decide) ?_
          exact E_rI d_Law_joined_108 rfl hq
        · rw [if_neg c] at hq
          refine E_ic (v := 1) d_Law_joined_103 (by decide) ?_
          refine E_goto (tgt := 108) d_Law_joined_104 (by decide) ?_
          exact E_rI d_Law_joined_108 rfl hq
      · rw [if_neg c2] at hq
        by_cases c3 : x0 = (-16)
        · rw [if_pos c3] at hq
          refine E_table (tgt := 87) d_Law_joined_1 (by rw [c3]; decide) (fun _ _ => ⟨86, by rw [c3]; decide, by decide⟩) ?_
          refine E_iln 1 d_Law_joined_87 rfl rfl ?_
          refine E_iln 2 d_Law_joined_88 rfl rfl ?_
          refine E_jne (tgt := 96) d_Law_joined_89 (by decide) (fun c => ?_) (fun c => ?_)
          · rw [if_neg c] at hq
            refine E_ic (v := 0) d_Law_joined_96 (by decide) ?_
            exact E_rI d_Law_joined_97 rfl hq
          · rw [if_pos c] at hq
            refine E_ic (v := 1) d_Law_joined_92 (by decide) ?_
            refine E_goto (tgt := 97) d_Law_joined_93 (by decide) ?_
            exact E_rI d_Law_joined_97 rfl hq
        · rw [if_neg c3] at hq
          by_cases c4 : x0 = (-15)
          · rw [if_pos c4] at hq
            refine E_table (tgt := 76) d_Law_joined_1 (by rw [c4]; decide) (fun _ _ => ⟨75, by rw [c4]; decide, by decide⟩) ?_
            refine E_iln 1 d_Law_joined_76 rfl rfl ?_
            refine E_iln 2 d_Law_joined_77 rfl rfl ?_
            refine E_jge (tgt := 85) d_Law_joined_78 (by decide) (fun c => ?_) (fun c => ?_)
            · rw [if_pos c] at hq
              refine E_ic (v := 0) d_Law_joined_85 (by decide) ?_
              exact E_rI d_Law_joined_86 rfl hq
            · rw [if_neg c] at hq
              refine E_ic (v := 1) d_Law_joined_81 (by decide) ?_
              refine E_goto (tgt := 86) d_Law_joined_82 (by decide) ?_
              exact E_rI d_Law_joined_86 rfl hq
          · rw [if_neg c4] at hq
            by_cases c5 : x0 = (-14)
            · rw [if_pos c5] at hq
              refine E_table (tgt := 64) d_Law_joined_1 (by rw [c5]; decide) (fun _ _ => ⟨63, by rw [c5]; decide, by decide⟩) ?_
              refine E_iln 2 d_Law_joined_64 rfl rfl ?_
              refine E_zne (tgt := 72) d_Law_joined_65 (by decide) (fun c => ?_) (fun c => ?_)
              · rw [if_neg c] at hq
                refine E_iln 1 d_Law_joined_72 rfl rfl ?_
                refine E_iln 2 d_Law_joined_73 rfl rfl ?_
                obtain ⟨v1, ev1, hq⟩ := bd hq
                refine E_dv d_Law_joined_74 ev1 ?_
                exact E_rI d_Law_joined_75 rfl hq
              · rw [if_pos c] at hq
                refine E_ic (v := 0) d_Law_joined_68 (by decide) ?_
                refine E_goto (tgt := 75) d_Law_joined_69 (by decide) ?_
                exact E_rI d_Law_joined_75 rfl hq
            · rw [if_neg c5] at hq
              by_cases c6 : x0 = (-13)
              · rw [if_pos c6] at hq
                refine E_table (tgt := 60) d_Law_joined_1 (by rw [c6]; decide) (fun _ _ => ⟨59, by rw [c6]; decide, by decide⟩) ?_
                refine E_iln 1 d_Law_joined_60 rfl rfl ?_
                refine E_iln 2 d_Law_joined_61 rfl rfl ?_
                refine E_imul d_Law_joined_62 ?_
                exact E_rI d_Law_joined_63 rfl hq
              · rw [if_neg c6] at hq
                by_cases c7 : x0 = (-12)
                · rw [if_pos c7] at hq
                  refine E_table (tgt := 56) d_Law_joined_1 (by rw [c7]; decide) (fun _ _ => ⟨55, by rw [c7]; decide, by decide⟩) ?_
                  refine E_iln 1 d_Law_joined_56 rfl rfl ?_
                  refine E_iln 2 d_Law_joined_57 rfl rfl ?_
                  refine E_isub d_Law_joined_58 ?_
                  exact E_rI d_Law_joined_59 rfl hq
                · rw [if_neg c7] at hq
                  by_cases c8 : x0 = (-11)
                  · rw [if_pos c8] at hq
                    refine E_table (tgt := 52) d_Law_joined_1 (by rw [c8]; decide) (fun _ _ => ⟨51, by rw [c8]; decide, by decide⟩) ?_
                    refine E_iln 1 d_Law_joined_52 rfl rfl ?_
                    refine E_iln 2 d_Law_joined_53 rfl rfl ?_
                    refine E_iadd d_Law_joined_54 ?_
                    exact E_rI d_Law_joined_55 rfl hq
                  · rw [if_neg c8] at hq
                    refine E_table (tgt := 117) d_Law_joined_1 (fun _ => by decide) (fun z1 z2 => (tab_out (l := [(-19), (-18), (-17), (-16), (-15), (-14), (-13), (-12), (-11)]) ⟨(fun z => c0 (z.trans (by decide))), (fun z => c1 (z.trans (by decide))), (fun z => c2 (z.trans (by decide))), (fun z => c3 (z.trans (by decide))), (fun z => c4 (z.trans (by decide))), (fun z => c5 (z.trans (by decide))), (fun z => c6 (z.trans (by decide))), (fun z => c7 (z.trans (by decide))), (fun z => c8 (z.trans (by decide))), trivial⟩ (by decide) z1 z2).elim) ?_
                    refine E_ic (v := 0) d_Law_joined_117 (by decide) ?_
                    exact E_rI d_Law_joined_118 rfl hq
def f_Law_reckon_153 (a0 : Nat) (x3 : Int32) (h : PH) : Option (Int32 × PH) :=
  if x3 ≤ 0 then
    some (0, h)
  else
    (ldR h 2 a0 4).bind fun v1 =>
    (rdA h v1 (x3 - 1)).bind fun v2 =>
    some (v2, h)
theorem t_Law_reckon_153 {d : Nat} (hd : 1 ≤ d) {a0 : Nat} {x3 : Int32} {h : PH} {r : Int32 × PH} (hq : f_Law_reckon_153 a0 x3 h = some r) : E d 0 0 m_Law_reckon 153 [(0, .ref a0), (3, .int x3)] [] h (PI r) := by
  unfold f_Law_reckon_153 at hq
  obtain ⟨d, rfl⟩ : ∃ e, d = e + 1 := ⟨d - 1, by omega⟩
  refine E_iln 1 d_Law_reckon_153 rfl rfl ?_
  refine E_zle (tgt := 168) d_Law_reckon_154 (by decide) (fun c => ?_) (fun c => ?_)
  · rw [if_pos c] at hq
    refine E_ic (v := 0) d_Law_reckon_168 (by decide) ?_
    exact E_rI d_Law_reckon_169 rfl hq
  · rw [if_neg c] at hq
    refine E_aln 0 d_Law_reckon_157 rfl rfl ?_
    obtain ⟨v1, ev1, hq⟩ := bd hq
    refine E_gR d_Law_reckon_158 lk_Law_31 rfl ev1 ?_
    refine E_iln 1 d_Law_reckon_161 rfl rfl ?_
    refine E_ic (v := 1) d_Law_reckon_162 (by decide) ?_
    refine E_isub d_Law_reckon_163 ?_
    obtain ⟨v2, ev2, hq⟩ := bd hq
    refine E_ra d_Law_reckon_164 ev2 ?_
    refine E_goto (tgt := 169) d_Law_reckon_165 (by decide) ?_
    exact E_rI d_Law_reckon_169 rfl hq
def f_Law_reckon_73 (k9 : Nat → Int32 → Int32 → Int32 → PH → Option (Int32 × PH)) (a0 : Nat) (x2 : Int32) (x3 : Int32) (x4 : Int32) (s0 : Int32) (s1 : Int32) (s2 : Nat) (h : PH) : Option (Int32 × PH) :=
  (wrA h s2 s1 s0).bind fun h1 =>
  k9 a0 x2 (x3 + 1) (x4 + 1) h1
theorem t_Law_reckon_73 {d : Nat} (hd : 1 ≤ d) {k9 : Nat → Int32 → Int32 → Int32 → PH → Option (Int32 × PH)} (hk9 : ∀ (a0 : Nat) (x2 : Int32) (x3 : Int32) (x4 : Int32) (h : PH) (r : Int32 × PH), k9 a0 x2 x3 x4 h = some r → E d 0 0 m_Law_reckon 9 [(0, .ref a0), (2, .int x2), (3, .int x3), (4, .int x4)] [] h (PI r)) {a0 : Nat} {x2 : Int32} {x3 : Int32} {x4 : Int32} {s0 : Int32} {s1 : Int32} {s2 : Nat} {h : PH} {r : Int32 × PH} (hq : f_Law_reckon_73 k9 a0 x2 x3 x4 s0 s1 s2 h = some r) : E d 0 0 m_Law_reckon 73 [(0, .ref a0), (2, .int x2), (3, .int x3), (4, .int x4)] [.int s0, .int s1, .ref s2] h (PI r) := by
  unfold f_Law_reckon_73 at hq
  obtain ⟨d, rfl⟩ : ∃ e, d = e + 1 := ⟨d - 1, by omega⟩
  obtain ⟨h1, eh1, hq⟩ := bd hq
  refine E_wa d_Law_reckon_73 eh1 ?_
  refine E_inc (v := 1) (ls' := [(3, .int (x3 + 1)), (0, .ref a0), (2, .int x2), (4, .int x4)]) 2 d_Law_reckon_74 rfl (Nat.le_of_ble_eq_true rfl) (by decide) rfl ?_
  refine E_goto (tgt := 147) d_Law_reckon_77 (by decide) ?_
  refine E_inc (v := 1) (ls' := [(4, .int (x4 + 1)), (3, .int (x3 + 1)), (0, .ref a0), (2, .int x2)]) 3 d_Law_reckon_147 rfl (Nat.le_of_ble_eq_true rfl) (by decide) rfl ?_
  refine E_goto (tgt := 9) d_Law_reckon_150 (by decide) ?_
  exact E_sub (ks := [2, 3, 1, 0]) rfl <| hk9 _ _ _ _ _ _ hq
def f_Law_reckon_9 : Nat → Nat → Int32 → Int32 → Int32 → PH → Option (Int32 × PH)
  | 0, _, _, _, _, _ => none
  | n + 1, a0, x2, x3, x4, h =>
    if x2 ≤ x4 then
      f_Law_reckon_153 a0 x3 h
    else
      (ldI h 2 a0 2).bind fun v1 =>
      if v1 ≤ x4 then
        f_Law_reckon_153 a0 x3 h
      else
        (ldR h 2 a0 1).bind fun v2 =>
        (rdA h v2 x4).bind fun v3 =>
        if v3 < (-10) then
          if v3 = (-20) then
            if x3 ≤ 0 then
              f_Law_reckon_9 n a0 x2 x3 (x4 + 1) h
            else
              (ldR h 2 a0 4).bind fun v11 =>
              (ldR h 2 a0 4).bind fun v12 =>
              (rdA h v12 (x3 - 1)).bind fun v13 =>
              (wrA h v11 (x3 - 1) (1 - v13)).bind fun h14 =>
              f_Law_reckon_9 n a0 x2 x3 (x4 + 1) h14
          else
            if x3 ≤ 1 then
              f_Law_reckon_9 n a0 x2 x3 (x4 + 1) h
            else
              (ldR h 2 a0 4).bind fun v4 =>
              (ldR h 2 a0 4).bind fun v5 =>
              (rdA h v5 ((x3 + (-1)) - 1)).bind fun v6 =>
              (ldR h 2 a0 4).bind fun v7 =>
              (rdA h v7 (x3 + (-1))).bind fun v8 =>
              (f_Law_joined v3 v6 v8 h).bind fun p9 =>
              (wrA p9.2 v4 ((x3 + (-1)) - 1) p9.1).bind fun h10 =>
              f_Law_reckon_9 n a0 x2 (x3 + (-1)) (x4 + 1) h10
        else
          (ldR h 2 a0 4).bind fun v15 =>
          (lnA h v15).bind fun v16 =>
          if v16 ≤ x3 then
            f_Law_reckon_9 n a0 x2 x3 (x4 + 1) h
          else
            (ldR h 2 a0 4).bind fun v17 =>
            if v3 < 0 then
              (ldR h 2 a0 3).bind fun v18 =>
              (rdA h v18 ((-1) - v3)).bind fun v19 =>
              f_Law_reckon_73 (fun a0 x2 x3 x4 h => f_Law_reckon_9 n a0 x2 x3 x4 h) a0 x2 x3 x4 v19 x3 v17 h
            else
              f_Law_reckon_73 (fun a0 x2 x3 x4 h => f_Law_reckon_9 n a0 x2 x3 x4 h) a0 x2 x3 x4 v3 x3 v17 h
theorem t_Law_reckon_9 {d : Nat} (hd : 1 ≤ d) : ∀ (n : Nat) (a0 : Nat) (x2 : Int32) (x3 : Int32) (x4 : Int32) (h : PH) (r : Int32 × PH), f_Law_reckon_9 n a0 x2 x3 x4 h = some r → E d 0 0 m_Law_reckon 9 [(0, .ref a0), (2, .int x2), (3, .int x3), (4, .int x4)] [] h (PI r) := by
  intro n
  induction n with
  | zero => intro a0 x2 x3 x4 h r hq; rw [f_Law_reckon_9] at hq; cases hq
  | succ n ih =>
    intro a0 x2 x3 x4 h r hq
    rw [f_Law_reckon_9] at hq
    obtain ⟨d, rfl⟩ : ∃ e, d = e + 1 := ⟨d - 1, by omega⟩
    refine E_il 3 d_Law_reckon_9 rfl ?_
    refine E_iln 1 d_Law_reckon_11 rfl rfl ?_
    refine E_jge (tgt := 153) d_Law_reckon_12 (by decide) (fun c => ?_) (fun c => ?_)
    · rw [if_pos c] at hq
      exact E_sub (ks := [0, 2]) rfl <| t_Law_reckon_153 (by omega) hq
    · rw [if_neg c] at hq
      refine E_il 3 d_Law_reckon_15 rfl ?_
      refine E_aln 0 d_Law_reckon_17 rfl rfl ?_
      obtain ⟨v1, ev1, hq⟩ := bd hq
      refine E_gI d_Law_reckon_18 lk_Law_24 rfl ev1 ?_
      refine E_jge (tgt := 153) d_Law_reckon_21 (by decide) (fun c => ?_) (fun c => ?_)
      · rw [if_pos c] at hq
        exact E_sub (ks := [0, 2]) rfl <| t_Law_reckon_153 (by omega) hq
      · rw [if_neg c] at hq
        refine E_aln 0 d_Law_reckon_24 rfl rfl ?_
        obtain ⟨v2, ev2, hq⟩ := bd hq
        refine E_gR d_Law_reckon_25 lk_Law_20 rfl ev2 ?_
        refine E_il 3 d_Law_reckon_28 rfl ?_
        obtain ⟨v3, ev3, hq⟩ := bd hq
        refine E_ra d_Law_reckon_30 ev3 ?_
        refine E_is (ls' := [(5, .int v3), (0, .ref a0), (2, .int x2), (3, .int x3), (4, .int x4)]) d_Law_reckon_31 (Nat.le_of_ble_eq_true rfl) rfl ?_
        refine E_il 0 d_Law_reckon_33 rfl ?_
        refine E_bi (v := (-10)) d_Law_reckon_35 (by decide) ?_
        refine E_jlt (tgt := 80) d_Law_reckon_37 (by decide) (fun c => ?_) (fun c => ?_)
        · rw [if_pos c] at hq
          refine E_il 0 d_Law_reckon_80 rfl ?_
          refine E_bi (v := (-20)) d_Law_reckon_82 (by decide) ?_
          refine E_jne (tgt := 112) d_Law_reckon_84 (by decide) (fun c => ?_) (fun c => ?_)
          · rw [if_neg c] at hq
            refine E_iln 3 d_Law_reckon_112 rfl rfl ?_
            refine E_ic (v := 1) d_Law_reckon_113 (by decide) ?_
            refine E_jle (tgt := 147) d_Law_reckon_114 (by decide) (fun c => ?_) (fun c => ?_)
            · rw [if_pos c] at hq
              refine E_inc (v := 1) (ls' := [(4, .int (x4 + 1)), (5, .int v3), (0, .ref a0), (2, .int x2), (3, .int x3)]) 4 d_Law_reckon_147 rfl (Nat.le_of_ble_eq_true rfl) (by decide) rfl ?_
              refine E_goto (tgt := 9) d_Law_reckon_150 (by decide) ?_
              exact E_sub (ks := [2, 3, 4, 0]) rfl <| ih _ _ _ _ _ _ hq
            · rw [if_neg c] at hq
              refine E_inc (v := (-1)) (ls' := [(3, .int (x3 + (-1))), (5, .int v3), (0, .ref a0), (2, .int x2), (4, .int x4)]) 3 d_Law_reckon_117 rfl (Nat.le_of_ble_eq_true rfl) (by decide) rfl ?_
              refine E_aln 2 d_Law_reckon_120 rfl rfl ?_
              obtain ⟨v4, ev4, hq⟩ := bd hq
              refine E_gR d_Law_reckon_121 lk_Law_31 rfl ev4 ?_
              refine E_iln 0 d_Law_reckon_124 rfl rfl ?_
              refine E_ic (v := 1) d_Law_reckon_125 (by decide) ?_
              refine E_isub d_Law_reckon_126 ?_
              refine E_il 1 d_Law_reckon_127 rfl ?_
              refine E_aln 2 d_Law_reckon_129 rfl rfl ?_
              obtain ⟨v5, ev5, hq⟩ := bd hq
              refine E_gR d_Law_reckon_130 lk_Law_31 rfl ev5 ?_
              refine E_iln 0 d_Law_reckon_133 rfl rfl ?_
              refine E_ic (v := 1) d_Law_reckon_134 (by decide) ?_
              refine E_isub d_Law_reckon_135 ?_
              obtain ⟨v6, ev6, hq⟩ := bd hq
              refine E_ra d_Law_reckon_136 ev6 ?_
              refine E_aln 2 d_Law_reckon_137 rfl rfl ?_
              obtain ⟨v7, ev7, hq⟩ := bd hq
              refine E_gR d_Law_reckon_138 lk_Law_31 rfl ev7 ?_
              refine E_iln 0 d_Law_reckon_141 rfl rfl ?_
              obtain ⟨v8, ev8, hq⟩ := bd hq
              refine E_ra d_Law_reckon_142 ev8 ?_
              obtain ⟨p9, ep9, hq⟩ := bd hq
              refine E_cS3I d_Law_reckon_143 ck_Law_102 (Nat.le_of_ble_eq_true rfl) (Nat.le_of_ble_eq_true rfl) (t_Law_joined (by omega) ep9) ?_
              obtain ⟨h10, eh10, hq⟩ := bd hq
              refine E_wa d_Law_reckon_146 eh10 ?_
              refine E_inc (v := 1) (ls' := [(4, .int (x4 + 1)), (3, .int (x3 + (-1))), (5, .int v3), (0, .ref a0), (2, .int x2)]) 4 d_Law_reckon_147 rfl (Nat.le_of_ble_eq_true rfl) (by decide) rfl ?_
              refine E_goto (tgt := 9) d_Law_reckon_150 (by decide) ?_
              exact E_sub (ks := [3, 4, 1, 0]) rfl <| ih _ _ _ _ _ _ hq
          · rw [if_pos c] at hq
            refine E_iln 3 d_Law_reckon_87 rfl rfl ?_
            refine E_zle (tgt := 147) d_Law_reckon_88 (by decide) (fun c => ?_) (fun c => ?_)
            · rw [if_pos c] at hq
              refine E_inc (v := 1) (ls' := [(4, .int (x4 + 1)), (5, .int v3), (0, .ref a0), (2, .int x2), (3, .int x3)]) 4 d_Law_reckon_147 rfl (Nat.le_of_ble_eq_true rfl) (by decide) rfl ?_
              refine E_goto (tgt := 9) d_Law_reckon_150 (by decide) ?_
              exact E_sub (ks := [2, 3, 4, 0]) rfl <| ih _ _ _ _ _ _ hq
            · rw [if_neg c] at hq
              refine E_aln 1 d_Law_reckon_91 rfl rfl ?_
              obtain ⟨v11, ev11, hq⟩ := bd hq
              refine E_gR d_Law_reckon_92 lk_Law_31 rfl ev11 ?_
              refine E_iln 3 d_Law_reckon_95 rfl rfl ?_
              refine E_ic (v := 1) d_Law_reckon_96 (by decide) ?_
              refine E_isub d_Law_reckon_97 ?_
              refine E_ic (v := 1) d_Law_reckon_98 (by decide) ?_
              refine E_aln 1 d_Law_reckon_99 rfl rfl ?_
              obtain ⟨v12, ev12, hq⟩ := bd hq
              refine E_gR d_Law_reckon_100 lk_Law_31 rfl ev12 ?_
              refine E_iln 3 d_Law_reckon_103 rfl rfl ?_
              refine E_ic (v := 1) d_Law_reckon_104 (by decide) ?_
              refine E_isub d_Law_reckon_105 ?_
              obtain ⟨v13, ev13, hq⟩ := bd hq
              refine E_ra d_Law_reckon_106 ev13 ?_
              refine E_isub d_Law_reckon_107 ?_
              obtain ⟨h14, eh14, hq⟩ := bd hq
              refine E_wa d_Law_reckon_108 eh14 ?_
              refine E_goto (tgt := 147) d_Law_reckon_109 (by decide) ?_
              refine E_inc (v := 1) (ls' := [(4, .int (x4 + 1)), (5, .int v3), (0, .ref a0), (2, .int x2), (3, .int x3)]) 4 d_Law_reckon_147 rfl (Nat.le_of_ble_eq_true rfl) (by decide) rfl ?_
              refine E_goto (tgt := 9) d_Law_reckon_150 (by decide) ?_
              exact E_sub (ks := [2, 3, 4, 0]) rfl <| ih _ _ _ _ _ _ hq
        · rw [if_neg c] at hq
          refine E_iln 3 d_Law_reckon_40 rfl rfl ?_
          refine E_aln 1 d_Law_reckon_41 rfl rfl ?_
          obtain ⟨v15, ev15, hq⟩ := bd hq
          refine E_gR d_Law_reckon_42 lk_Law_31 rfl ev15 ?_
          obtain ⟨v16, ev16, hq⟩ := bd hq
          refine E_ln d_Law_reckon_45 ev16 ?_
          refine E_jge (tgt := 147) d_Law_reckon_46 (by decide) (fun c => ?_) (fun c => ?_)
          · rw [if_pos c] at hq
            refine E_inc (v := 1) (ls' := [(4, .int (x4 + 1)), (5, .int v3), (0, .ref a0), (2, .int x2), (3, .int x3)]) 4 d_Law_reckon_147 rfl (Nat.le_of_ble_eq_true rfl) (by decide) rfl ?_
            refine E_goto (tgt := 9) d_Law_reckon_150 (by decide) ?_
            exact E_sub (ks := [2, 3, 4, 0]) rfl <| ih _ _ _ _ _ _ hq
          · rw [if_neg c] at hq
            refine E_aln 1 d_Law_reckon_49 rfl rfl ?_
            obtain ⟨v17, ev17, hq⟩ := bd hq
            refine E_gR d_Law_reckon_50 lk_Law_31 rfl ev17 ?_
            refine E_iln 3 d_Law_reckon_53 rfl rfl ?_
            refine E_il 0 d_Law_reckon_54 rfl ?_
            refine E_zlt (tgt := 64) d_Law_reckon_56 (by decide) (fun c => ?_) (fun c => ?_)
            · rw [if_pos c] at hq
              refine E_aln 1 d_Law_reckon_64 rfl rfl ?_
              obtain ⟨v18, ev18, hq⟩ := bd hq
              refine E_gR d_Law_reckon_65 lk_Law_28 rfl ev18 ?_
              refine E_ic (v := (-1)) d_Law_reckon_68 (by decide) ?_
              refine E_il 0 d_Law_reckon_69 rfl ?_
              refine E_isub d_Law_reckon_71 ?_
              obtain ⟨v19, ev19, hq⟩ := bd hq
              refine E_ra d_Law_reckon_72 ev19 ?_
              exact E_sub (ks := [1, 2, 3, 4]) rfl <| t_Law_reckon_73 (by omega) ih hq
            · rw [if_neg c] at hq
              refine E_il 0 d_Law_reckon_59 rfl ?_
              refine E_goto (tgt := 73) d_Law_reckon_61 (by decide) ?_
              exact E_sub (ks := [1, 2, 3, 4]) rfl <| t_Law_reckon_73 (by omega) ih hq
def f_Law_reckon (a0 : Nat) (x1 : Int32) (x2 : Int32) (h : PH) : Option (Int32 × PH) :=
  f_Law_reckon_9 FU a0 x2 0 (jmax 0 x1) h
theorem t_Law_reckon {d : Nat} (hd : 1 ≤ d) {a0 : Nat} {x1 : Int32} {x2 : Int32} {h : PH} {r : Int32 × PH} (hq : f_Law_reckon a0 x1 x2 h = some r) : E d 0 0 m_Law_reckon 0 [(0, .ref a0), (1, .int x1), (2, .int x2)] [] h (PI r) := by
  unfold f_Law_reckon at hq
  obtain ⟨d, rfl⟩ : ∃ e, d = e + 1 := ⟨d - 1, by omega⟩
  refine E_ic (v := 0) d_Law_reckon_0 (by decide) ?_
  refine E_isn (ls' := [(3, .int 0), (0, .ref a0), (1, .int x1), (2, .int x2)]) d_Law_reckon_1 (Nat.le_of_ble_eq_true rfl) rfl ?_
  refine E_ic (v := 0) d_Law_reckon_2 (by decide) ?_
  refine E_iln 2 d_Law_reckon_3 rfl rfl ?_
  refine E_max d_Law_reckon_4 kj_Law_75 (Nat.le_of_ble_eq_true rfl) ?_
  refine E_is (ls' := [(4, .int (jmax 0 x1)), (3, .int 0), (0, .ref a0), (1, .int x1), (2, .int x2)]) d_Law_reckon_7 (Nat.le_of_ble_eq_true rfl) rfl ?_
  exact E_sub (ks := [2, 4, 1, 0]) rfl <| t_Law_reckon_9 (by omega) _ _ _ _ _ _ _ hq
def f_Tc_held (x0 : Int32) (x1 : Int32) (h : PH) : Option (Int32 × PH) :=
  if 0 ≤ x0 then
    some ((jmin x0 x1), h)
  else
    some (0, h)
theorem t_Tc_held {d : Nat} (hd : 1 ≤ d) {x0 : Int32} {x1 : Int32} {h : PH} {r : Int32 × PH} (hq : f_Tc_held x0 x1 h = some r) : E d 0 0 m_Tc_held 0 [(0, .int x0), (1, .int x1)] [] h (PI r) := by
  unfold f_Tc_held at hq
  obtain ⟨d, rfl⟩ : ∃ e, d = e + 1 := ⟨d - 1, by omega⟩
  refine E_iln 0 d_Tc_held_0 rfl rfl ?_
  refine E_zge (tgt := 8) d_Tc_held_1 (by decide) (fun c => ?_) (fun c => ?_)
  · rw [if_pos c] at hq
    refine E_iln 0 d_Tc_held_8 rfl rfl ?_
    refine E_iln 1 d_Tc_held_9 rfl rfl ?_
    refine E_min d_Tc_held_10 kj_Tc_354 (Nat.le_of_ble_eq_true rfl) ?_
    exact E_rI d_Tc_held_13 rfl hq
  · rw [if_neg c] at hq
    refine E_ic (v := 0) d_Tc_held_4 (by decide) ?_
    refine E_goto (tgt := 13) d_Tc_held_5 (by decide) ?_
    exact E_rI d_Tc_held_13 rfl hq
def f_Law_tells_90 (s0 : Int32) (s1 : Int32) (h : PH) : Option (Int32 × PH) :=
  (f_Tc_held s1 s0 h).bind fun p1 =>
  some (p1.1, p1.2)
theorem t_Law_tells_90 {d : Nat} (hd : 2 ≤ d) {s0 : Int32} {s1 : Int32} {h : PH} {r : Int32 × PH} (hq : f_Law_tells_90 s0 s1 h = some r) : E d 0 0 m_Law_tells 90 [] [.int s0, .int s1] h (PI r) := by
  unfold f_Law_tells_90 at hq
  obtain ⟨d, rfl⟩ : ∃ e, d = e + 1 := ⟨d - 1, by omega⟩
  obtain ⟨p1, ep1, hq⟩ := bd hq
  refine E_cS2I d_Law_tells_90 ck_Law_99 (Nat.le_of_ble_eq_true rfl) (Nat.le_of_ble_eq_true rfl) (t_Tc_held (by omega) ep1) ?_
  exact E_rI d_Law_tells_93 rfl hq
def f_Law_tells_63 (a0 : Nat) (x1 : Int32) (x2 : Int32) (x3 : Int32) (h : PH) : Option (Int32 × PH) :=
  (ldR h 2 a0 0).bind fun v1 =>
  (isO h 6 v1).bind fun _ =>
  (f_Row_get v1 x2 1 h).bind fun p2 =>
  (isO p2.2 2 a0).bind fun _ =>
  (f_Law_reckon a0 p2.1 x3 p2.2).bind fun p4 =>
  if x1 = 2 then
    f_Law_tells_90 1000 p4.1 p4.2
  else
    f_Law_tells_90 99 p4.1 p4.2
theorem t_Law_tells_63 {d : Nat} (hd : 2 ≤ d) {a0 : Nat} {x1 : Int32} {x2 : Int32} {x3 : Int32} {h : PH} {r : Int32 × PH} (hq : f_Law_tells_63 a0 x1 x2 x3 h = some r) : E d 0 0 m_Law_tells 63 [(0, .ref a0), (1, .int x1), (2, .int x2), (3, .int x3)] [] h (PI r) := by
  unfold f_Law_tells_63 at hq
  obtain ⟨d, rfl⟩ : ∃ e, d = e + 1 := ⟨d - 1, by omega⟩
  refine E_aln 0 d_Law_tells_63 rfl rfl ?_
  refine E_aln 0 d_Law_tells_64 rfl rfl ?_
  obtain ⟨v1, ev1, hq⟩ := bd hq
  refine E_gR d_Law_tells_65 lk_Law_14 rfl ev1 ?_
  refine E_iln 2 d_Law_tells_68 rfl rfl ?_
  refine E_ic (v := 1) d_Law_tells_69 (by decide) ?_
  obtain ⟨q3, eq3, hq⟩ := bd hq
  obtain ⟨p2, ep2, hq⟩ := bd hq
  refine E_cV2I d_Law_tells_70 ck_Law_93 rfl rfl eq3 (Nat.le_of_ble_eq_true rfl) (Nat.le_of_ble_eq_true rfl) (t_Row_get (by omega) ep2) ?_
  refine E_iln 3 d_Law_tells_73 rfl rfl ?_
  obtain ⟨q5, eq5, hq⟩ := bd hq
  obtain ⟨p4, ep4, hq⟩ := bd hq
  refine E_cV2I d_Law_tells_74 ck_Law_96 rfl rfl eq5 (Nat.le_of_ble_eq_true rfl) (Nat.le_of_ble_eq_true rfl) (t_Law_reckon (by omega) ep4) ?_
  refine E_iln 1 d_Law_tells_77 rfl rfl ?_
  refine E_ic (v := 2) d_Law_tells_78 (by decide) ?_
  refine E_jne (tgt := 88) d_Law_tells_79 (by decide) (fun c => ?_) (fun c => ?_)
  · rw [if_neg c] at hq
    refine E_bi (v := 99) d_Law_tells_88 (by decide) ?_
    exact E_sub (ks := []) rfl <| t_Law_tells_90 (by omega) hq
  · rw [if_pos c] at hq
    refine E_si (v := 1000) d_Law_tells_82 (by decide) ?_
    refine E_goto (tgt := 90) d_Law_tells_85 (by decide) ?_
    exact E_sub (ks := []) rfl <| t_Law_tells_90 (by omega) hq
def f_Law_tells_2 : Nat → Nat → Int32 → Int32 → PH → Option (Int32 × PH)
  | 0, _, _, _, _ => none
  | n + 1, a0, x1, x2, h =>
    (ldR h 2 a0 0).bind fun v1 =>
    (ldI h 6 v1 2).bind fun v2 =>
    if v2 ≤ x2 then
      if x1 = 0 then
        (ldR h 2 a0 3).bind fun v7 =>
        (rdA h v7 1).bind fun v8 =>
        some ((9 - v8), h)
      else
        if x1 = 1 then
          (ldR h 2 a0 3).bind fun v5 =>
          (rdA h v5 0).bind fun v6 =>
          some ((v6 + 1), h)
        else
          (ldR h 2 a0 3).bind fun v3 =>
          (rdA h v3 6).bind fun v4 =>
          some ((500 + (50 * v4)), h)
    else
      (ldR h 2 a0 0).bind fun v9 =>
      (isO h 6 v9).bind fun _ =>
      (f_Row_get v9 x2 2 h).bind fun p10 =>
      (ldR p10.2 2 a0 0).bind fun v12 =>
      (isO p10.2 6 v12).bind fun _ =>
      (f_Row_get v12 x2 3 p10.2).bind fun p13 =>
      (ldR p13.2 2 a0 0).bind fun v15 =>
      (isO p13.2 6 v15).bind fun _ =>
      (f_Row_get v15 x2 0 p13.2).bind fun p16 =>
      if p16.1 = x1 then
        if p10.1 = p13.1 then
          f_Law_tells_63 a0 x1 x2 p10.1 p16.2
        else
          (isO p16.2 2 a0).bind fun _ =>
          (f_Law_reckon a0 p10.1 p13.1 p16.2).bind fun p18 =>
          if p18.1 = 0 then
            f_Law_tells_2 n a0 x1 (x2 + 1) p18.2
          else
            f_Law_tells_63 a0 x1 x2 p10.1 p18.2
      else
        f_Law_tells_2 n a0 x1 (x2 + 1) p16.2
theorem t_Law_tells_2 {d : Nat} (hd : 2 ≤ d) : ∀ (n : Nat) (a0 : Nat) (x1 : Int32) (x2 : Int32) (h : PH) (r : Int32 × PH), f_Law_tells_2 n a0 x1 x2 h = some r → E d 0 0 m_Law_tells 2 [(0, .ref a0), (1, .int x1), (2, .int x2)] [] h (PI r) := by
  intro n
  induction n with
  | zero => intro a0 x1 x2 h r hq; rw [f_Law_tells_2] at hq; cases hq
  | succ n ih =>
    intro a0 x1 x2 h r hq
    rw [f_Law_tells_2] at hq
    obtain ⟨d, rfl⟩ : ∃ e, d = e + 1 := ⟨d - 1, by omega⟩
    refine E_iln 2 d_Law_tells_2 rfl rfl ?_
    refine E_aln 0 d_Law_tells_3 rfl rfl ?_
    obtain ⟨v1, ev1, hq⟩ := bd hq
    refine E_gR d_Law_tells_4 lk_Law_14 rfl ev1 ?_
    obtain ⟨v2, ev2, hq⟩ := bd hq
    refine E_gI d_Law_tells_7 lk_Law_90 rfl ev2 ?_
    refine E_jge (tgt := 100) d_Law_tells_10 (by decide) (fun c => ?_) (fun c => ?_)
    · rw [if_pos c] at hq
      refine E_iln 1 d_Law_tells_100 rfl rfl ?_
      refine E_zne (tgt := 114) d_Law_tells_101 (by decide) (fun c => ?_) (fun c => ?_)
      · rw [if_neg c] at hq
        refine E_iln 1 d_Law_tells_114 rfl rfl ?_
        refine E_ic (v := 1) d_Law_tells_115 (by decide) ?_
        refine E_jne (tgt := 130) d_Law_tells_116 (by decide) (fun c => ?_) (fun c => ?_)
        · rw [if_neg c] at hq
          refine E_si (v := 500) d_Law_tells_130 (by decide) ?_
          refine E_bi (v := 50) d_Law_tells_133 (by decide) ?_
          refine E_aln 0 d_Law_tells_135 rfl rfl ?_
          obtain ⟨v3, ev3, hq⟩ := bd hq
          refine E_gR d_Law_tells_136 lk_Law_28 rfl ev3 ?_
          refine E_bi (v := 6) d_Law_tells_139 (by decide) ?_
          obtain ⟨v4, ev4, hq⟩ := bd hq
          refine E_ra d_Law_tells_141 ev4 ?_
          refine E_imul d_Law_tells_142 ?_
          refine E_iadd d_Law_tells_143 ?_
          exact E_rI d_Law_tells_144 rfl hq
        · rw [if_pos c] at hq
          refine E_aln 0 d_Law_tells_119 rfl rfl ?_
          obtain ⟨v5, ev5, hq⟩ := bd hq
          refine E_gR d_Law_tells_120 lk_Law_28 rfl ev5 ?_
          refine E_ic (v := 0) d_Law_tells_123 (by decide) ?_
          obtain ⟨v6, ev6, hq⟩ := bd hq
          refine E_ra d_Law_tells_124 ev6 ?_
          refine E_ic (v := 1) d_Law_tells_125 (by decide) ?_
          refine E_iadd d_Law_tells_126 ?_
          refine E_goto (tgt := 144) d_Law_tells_127 (by decide) ?_
          exact E_rI d_Law_tells_144 rfl hq
      · rw [if_pos c] at hq
        refine E_bi (v := 9) d_Law_tells_104 (by decide) ?_
        refine E_aln 0 d_Law_tells_106 rfl rfl ?_
        obtain ⟨v7, ev7, hq⟩ := bd hq
        refine E_gR d_Law_tells_107 lk_Law_28 rfl ev7 ?_
        refine E_ic (v := 1) d_Law_tells_110 (by decide) ?_
        obtain ⟨v8, ev8, hq⟩ := bd hq
        refine E_ra d_Law_tells_111 ev8 ?_
        refine E_isub d_Law_tells_112 ?_
        exact E_rI d_Law_tells_113 rfl hq
    · rw [if_neg c] at hq
      refine E_aln 0 d_Law_tells_13 rfl rfl ?_
      obtain ⟨v9, ev9, hq⟩ := bd hq
      refine E_gR d_Law_tells_14 lk_Law_14 rfl ev9 ?_
      refine E_iln 2 d_Law_tells_17 rfl rfl ?_
      refine E_ic (v := 2) d_Law_tells_18 (by decide) ?_
      obtain ⟨q11, eq11, hq⟩ := bd hq
      obtain ⟨p10, ep10, hq⟩ := bd hq
      refine E_cV2I d_Law_tells_19 ck_Law_93 rfl rfl eq11 (Nat.le_of_ble_eq_true rfl) (Nat.le_of_ble_eq_true rfl) (t_Row_get (by omega) ep10) ?_
      refine E_isn (ls' := [(3, .int p10.1), (0, .ref a0), (1, .int x1), (2, .int x2)]) d_Law_tells_22 (Nat.le_of_ble_eq_true rfl) rfl ?_
      refine E_aln 1 d_Law_tells_23 rfl rfl ?_
      obtain ⟨v12, ev12, hq⟩ := bd hq
      refine E_gR d_Law_tells_24 lk_Law_14 rfl ev12 ?_
      refine E_iln 3 d_Law_tells_27 rfl rfl ?_
      refine E_ic (v := 3) d_Law_tells_28 (by decide) ?_
      obtain ⟨q14, eq14, hq⟩ := bd hq
      obtain ⟨p13, ep13, hq⟩ := bd hq
      refine E_cV2I d_Law_tells_29 ck_Law_93 rfl rfl eq14 (Nat.le_of_ble_eq_true rfl) (Nat.le_of_ble_eq_true rfl) (t_Row_get (by omega) ep13) ?_
      refine E_is (ls' := [(4, .int p13.1), (3, .int p10.1), (0, .ref a0), (1, .int x1), (2, .int x2)]) d_Law_tells_32 (Nat.le_of_ble_eq_true rfl) rfl ?_
      refine E_aln 2 d_Law_tells_34 rfl rfl ?_
      obtain ⟨v15, ev15, hq⟩ := bd hq
      refine E_gR d_Law_tells_35 lk_Law_14 rfl ev15 ?_
      refine E_iln 4 d_Law_tells_38 rfl rfl ?_
      refine E_ic (v := 0) d_Law_tells_39 (by decide) ?_
      obtain ⟨q17, eq17, hq⟩ := bd hq
      obtain ⟨p16, ep16, hq⟩ := bd hq
      refine E_cV2I d_Law_tells_40 ck_Law_93 rfl rfl eq17 (Nat.le_of_ble_eq_true rfl) (Nat.le_of_ble_eq_true rfl) (t_Row_get (by omega) ep16) ?_
      refine E_iln 3 d_Law_tells_43 rfl rfl ?_
      refine E_jne (tgt := 94) d_Law_tells_44 (by decide) (fun c => ?_) (fun c => ?_)
      · rw [if_neg c] at hq
        refine E_inc (v := 1) (ls' := [(2, .int (x2 + 1)), (4, .int p13.1), (3, .int p10.1), (0, .ref a0), (1, .int x1)]) 4 d_Law_tells_94 rfl (Nat.le_of_ble_eq_true rfl) (by decide) rfl ?_
        refine E_goto (tgt := 2) d_Law_tells_97 (by decide) ?_
        exact E_sub (ks := [3, 4, 0]) rfl <| ih _ _ _ _ _ hq
      · rw [if_pos c] at hq
        refine E_iln 1 d_Law_tells_47 rfl rfl ?_
        refine E_il 0 d_Law_tells_48 rfl ?_
        refine E_jeq (tgt := 63) d_Law_tells_50 (by decide) (fun c => ?_) (fun c => ?_)
        · rw [if_pos c] at hq
          exact E_sub (ks := [2, 3, 4, 1]) rfl <| t_Law_tells_63 (by omega) hq
        · rw [if_neg c] at hq
          refine E_aln 2 d_Law_tells_53 rfl rfl ?_
          refine E_iln 1 d_Law_tells_54 rfl rfl ?_
          refine E_il 0 d_Law_tells_55 rfl ?_
          obtain ⟨q19, eq19, hq⟩ := bd hq
          obtain ⟨p18, ep18, hq⟩ := bd hq
          refine E_cV2I d_Law_tells_57 ck_Law_96 rfl rfl eq19 (Nat.le_of_ble_eq_true rfl) (Nat.le_of_ble_eq_true rfl) (t_Law_reckon (by omega) ep18) ?_
          refine E_zeq (tgt := 94) d_Law_tells_60 (by decide) (fun c => ?_) (fun c => ?_)
          · rw [if_pos c] at hq
            refine E_inc (v := 1) (ls' := [(2, .int (x2 + 1)), (4, .int p13.1), (3, .int p10.1), (0, .ref a0), (1, .int x1)]) 4 d_Law_tells_94 rfl (Nat.le_of_ble_eq_true rfl) (by decide) rfl ?_
            refine E_goto (tgt := 2) d_Law_tells_97 (by decide) ?_
            exact E_sub (ks := [3, 4, 0]) rfl <| ih _ _ _ _ _ hq
          · rw [if_neg c] at hq
            exact E_sub (ks := [2, 3, 4, 1]) rfl <| t_Law_tells_63 (by omega) hq
def f_Law_tells (a0 : Nat) (x1 : Int32) (h : PH) : Option (Int32 × PH) :=
  f_Law_tells_2 FU a0 x1 0 h
theorem t_Law_tells {d : Nat} (hd : 2 ≤ d) {a0 : Nat} {x1 : Int32} {h : PH} {r : Int32 × PH} (hq : f_Law_tells a0 x1 h = some r) : E d 0 0 m_Law_tells 0 [(0, .ref a0), (1, .int x1)] [] h (PI r) := by
  unfold f_Law_tells at hq
  obtain ⟨d, rfl⟩ : ∃ e, d = e + 1 := ⟨d - 1, by omega⟩
  refine E_ic (v := 0) d_Law_tells_0 (by decide) ?_
  refine E_isn (ls' := [(2, .int 0), (0, .ref a0), (1, .int x1)]) d_Law_tells_1 (Nat.le_of_ble_eq_true rfl) rfl ?_
  exact E_sub (ks := [1, 2, 0]) rfl <| t_Law_tells_2 (by omega) _ _ _ _ _ _ hq
def f_Land_tells (a0 : Nat) (a1 : Nat) (x2 : Int32) (x3 : Int32) (x4 : Int32) (h : PH) : Option (Int32 × PH) :=
  (ldR h 1 a0 2).bind fun v1 =>
  (isO h 1 a0).bind fun _ =>
  (f_Land_kinOf a0 x3 h).bind fun p2 =>
  (ldI p2.2 5 a1 7).bind fun v4 =>
  (f_Int_bitCount (p2.1 &&& v4) p2.2).bind fun p5 =>
  (isO p5.2 2 v1).bind fun _ =>
  (f_Law_ask v1 a1 x3 x4 p5.1 p5.2).bind fun h6 =>
  (ldR h6 1 a0 2).bind fun v8 =>
  (isO h6 2 v8).bind fun _ =>
  (f_Law_tells v8 x2 h6).bind fun p9 =>
  some (p9.1, p9.2)
theorem t_Land_tells {d : Nat} (hd : 3 ≤ d) {a0 : Nat} {a1 : Nat} {x2 : Int32} {x3 : Int32} {x4 : Int32} {h : PH} {r : Int32 × PH} (hq : f_Land_tells a0 a1 x2 x3 x4 h = some r) : E d 0 0 m_Land_tells 0 [(0, .ref a0), (1, .ref a1), (2, .int x2), (3, .int x3), (4, .int x4)] [] h (PI r) := by
  unfold f_Land_tells at hq
  obtain ⟨d, rfl⟩ : ∃ e, d = e + 1 := ⟨d - 1, by omega⟩
  refine E_aln 0 d_Land_tells_0 rfl rfl ?_
  obtain ⟨v1, ev1, hq⟩ := bd hq
  refine E_gR d_Land_tells_1 lk_Land_25 rfl ev1 ?_
  refine E_aln 1 d_Land_tells_4 rfl rfl ?_
  refine E_iln 3 d_Land_tells_5 rfl rfl ?_
  refine E_il 4 d_Land_tells_6 rfl ?_
  refine E_aln 0 d_Land_tells_8 rfl rfl ?_
  refine E_iln 3 d_Land_tells_9 rfl rfl ?_
  obtain ⟨q3, eq3, hq⟩ := bd hq
  obtain ⟨p2, ep2, hq⟩ := bd hq
  refine E_cV1I d_Land_tells_10 ck_Land_82 rfl rfl eq3 (Nat.le_of_ble_eq_true rfl) (Nat.le_of_ble_eq_true rfl) (t_Land_kinOf (by omega) ep2) ?_
  refine E_aln 1 d_Land_tells_13 rfl rfl ?_
  obtain ⟨v4, ev4, hq⟩ := bd hq
  refine E_gI d_Land_tells_14 lk_Land_86 rfl ev4 ?_
  refine E_iand d_Land_tells_17 ?_
  obtain ⟨p5, ep5, hq⟩ := bd hq
  refine E_cS1I d_Land_tells_18 ck_Land_89 (Nat.le_of_ble_eq_true rfl) (Nat.le_of_ble_eq_true rfl) (t_Int_bitCount (by omega) ep5) ?_
  obtain ⟨q7, eq7, hq⟩ := bd hq
  obtain ⟨h6, eh6, hq⟩ := bd hq
  refine E_cV4V d_Land_tells_21 ck_Land_94 rfl rfl eq7 (Nat.le_of_ble_eq_true rfl) (Nat.le_of_ble_eq_true rfl) (t_Law_ask (by omega) eh6) ?_
  refine E_aln 0 d_Land_tells_24 rfl rfl ?_
  obtain ⟨v8, ev8, hq⟩ := bd hq
  refine E_gR d_Land_tells_25 lk_Land_25 rfl ev8 ?_
  refine E_iln 2 d_Land_tells_28 rfl rfl ?_
  obtain ⟨q10, eq10, hq⟩ := bd hq
  obtain ⟨p9, ep9, hq⟩ := bd hq
  refine E_cV1I d_Land_tells_29 ck_Land_98 rfl rfl eq10 (Nat.le_of_ble_eq_true rfl) (Nat.le_of_ble_eq_true rfl) (t_Law_tells (by omega) ep9) ?_
  exact E_rI d_Land_tells_32 rfl hq
def f_Realm_draw (a0 : Nat) (x1 : Int32) (h : PH) : Option (Int32 × PH) :=
  (ldI h 5 a0 0).bind fun v1 =>
  (stI h 5 a0 0 ((v1 * 1664525) + 1013904223)).bind fun h2 =>
  if x1 ≤ 0 then
    some (0, h2)
  else
    (ldI h2 5 a0 0).bind fun v3 =>
    (rmI (jush v3 8) x1).bind fun v4 =>
    some (v4, h2)
theorem t_Realm_draw {d : Nat} (hd : 0 ≤ d) {a0 : Nat} {x1 : Int32} {h : PH} {r : Int32 × PH} (hq : f_Realm_draw a0 x1 h = some r) : E d 0 0 m_Realm_draw 0 [(0, .ref a0), (1, .int x1)] [] h (PI r) := by
  unfold f_Realm_draw at hq
  refine E_aln 0 d_Realm_draw_0 rfl rfl ?_
  refine E_aln 0 d_Realm_draw_1 rfl rfl ?_
  obtain ⟨v1, ev1, hq⟩ := bd hq
  refine E_gI d_Realm_draw_2 lk_Realm_9 rfl ev1 ?_
  refine E_ldc1 d_Realm_draw_5 kc_Realm_106 ?_
  refine E_imul d_Realm_draw_7 ?_
  refine E_ldc1 d_Realm_draw_8 kc_Realm_107 ?_
  refine E_iadd d_Realm_draw_10 ?_
  obtain ⟨h2, eh2, hq⟩ := bd hq
  refine E_pI d_Realm_draw_11 lp_Realm_m_9 rfl eh2 ?_
  refine E_iln 1 d_Realm_draw_14 rfl rfl ?_
  refine E_zle (tgt := 30) d_Realm_draw_15 (by decide) (fun c => ?_) (fun c => ?_)
  · rw [if_pos c] at hq
    refine E_ic (v := 0) d_Realm_draw_30 (by decide) ?_
    exact E_rI d_Realm_draw_31 rfl hq
  · rw [if_neg c] at hq
    refine E_aln 0 d_Realm_draw_18 rfl rfl ?_
    obtain ⟨v3, ev3, hq⟩ := bd hq
    refine E_gI d_Realm_draw_19 lk_Realm_9 rfl ev3 ?_
    refine E_bi (v := 8) d_Realm_draw_22 (by decide) ?_
    refine E_iushr d_Realm_draw_24 ?_
    refine E_iln 1 d_Realm_draw_25 rfl rfl ?_
    obtain ⟨v4, ev4, hq⟩ := bd hq
    refine E_rm d_Realm_draw_26 ev4 ?_
    refine E_goto (tgt := 31) d_Realm_draw_27 (by decide) ?_
    exact E_rI d_Realm_draw_31 rfl hq
def f_Land_writeBook (a0 : Nat) (a1 : Nat) (x2 : Int32) (x3 : Int32) (x4 : Int32) (h : PH) : Option (PH) :=
  (ldI h 5 a1 19).bind fun v1 =>
  if (v1 * 4) < 0 then
    some h
  else
    (ldR h 1 a0 1).bind fun v2 =>
    (lnA h v2).bind fun v3 =>
    if ((v1 * 4) + 4) ≤ v3 then
      (ldR h 1 a0 1).bind fun v4 =>
      (ldI h 5 a1 18).bind fun v5 =>
      (wrA h v4 (v1 * 4) v5).bind fun h6 =>
      (ldR h6 1 a0 1).bind fun v7 =>
      (wrA h6 v7 ((v1 * 4) + 1) x2).bind fun h8 =>
      (ldR h8 1 a0 1).bind fun v9 =>
      (wrA h8 v9 ((v1 * 4) + 2) x3).bind fun h10 =>
      (ldR h10 1 a0 1).bind fun v11 =>
      (wrA h10 v11 ((v1 * 4) + 3) x4).bind fun h12 =>
      (ldI h12 5 a1 19).bind fun v13 =>
      (stI h12 5 a1 19 (v13 + 1)).bind fun h14 =>
      some h14
    else
      some h
theorem t_Land_writeBook {d : Nat} (hd : 0 ≤ d) {a0 : Nat} {a1 : Nat} {x2 : Int32} {x3 : Int32} {x4 : Int32} {h : PH} {r : PH} (hq : f_Land_writeBook a0 a1 x2 x3 x4 h = some r) : E d 0 0 m_Land_writeBook 0 [(0, .ref a0), (1, .ref a1), (2, .int x2), (3, .int x3), (4, .int x4)] [] h (PV r) := by
  unfold f_Land_writeBook at hq
  refine E_aln 1 d_Land_writeBook_0 rfl rfl ?_
  obtain ⟨v1, ev1, hq⟩ := bd hq
  refine E_gI d_Land_writeBook_1 lk_Land_146 rfl ev1 ?_
  refine E_ic (v := 4) d_Land_writeBook_4 (by decide) ?_
  refine E_imul d_Land_writeBook_5 ?_
  refine E_is (ls' := [(5, .int (v1 * 4)), (0, .ref a0), (1, .ref a1), (2, .int x2), (3, .int x3), (4, .int x4)]) d_Land_writeBook_6 (Nat.le_of_ble_eq_true rfl) rfl ?_
  refine E_il 0 d_Land_writeBook_8 rfl ?_
  refine E_zlt (tgt := 25) d_Land_writeBook_10 (by decide) (fun c => ?_) (fun c => ?_)
  · rw [if_pos c] at hq
    exact E_rV d_Land_writeBook_25 rfl hq
  · rw [if_neg c] at hq
    refine E_il 0 d_Land_writeBook_13 rfl ?_
    refine E_ic (v := 4) d_Land_writeBook_15 (by decide) ?_
    refine E_iadd d_Land_writeBook_16 ?_
    refine E_aln 1 d_Land_writeBook_17 rfl rfl ?_
    obtain ⟨v2, ev2, hq⟩ := bd hq
    refine E_gR d_Land_writeBook_18 lk_Land_18 rfl ev2 ?_
    obtain ⟨v3, ev3, hq⟩ := bd hq
    refine E_ln d_Land_writeBook_21 ev3 ?_
    refine E_jle (tgt := 26) d_Land_writeBook_22 (by decide) (fun c => ?_) (fun c => ?_)
    · rw [if_pos c] at hq
      refine E_aln 1 d_Land_writeBook_26 rfl rfl ?_
      obtain ⟨v4, ev4, hq⟩ := bd hq
      refine E_gR d_Land_writeBook_27 lk_Land_18 rfl ev4 ?_
      refine E_il 0 d_Land_writeBook_30 rfl ?_
      refine E_aln 2 d_Land_writeBook_32 rfl rfl ?_
      obtain ⟨v5, ev5, hq⟩ := bd hq
      refine E_gI d_Land_writeBook_33 lk_Land_149 rfl ev5 ?_
      obtain ⟨h6, eh6, hq⟩ := bd hq
      refine E_wa d_Land_writeBook_36 eh6 ?_
      refine E_aln 1 d_Land_writeBook_37 rfl rfl ?_
      obtain ⟨v7, ev7, hq⟩ := bd hq
      refine E_gR d_Land_writeBook_38 lk_Land_18 rfl ev7 ?_
      refine E_il 0 d_Land_writeBook_41 rfl ?_
      refine E_ic (v := 1) d_Land_writeBook_43 (by decide) ?_
      refine E_iadd d_Land_writeBook_44 ?_
      refine E_iln 3 d_Land_writeBook_45 rfl rfl ?_
      obtain ⟨h8, eh8, hq⟩ := bd hq
      refine E_wa d_Land_writeBook_46 eh8 ?_
      refine E_aln 1 d_Land_writeBook_47 rfl rfl ?_
      obtain ⟨v9, ev9, hq⟩ := bd hq
      refine E_gR d_Land_writeBook_48 lk_Land_18 rfl ev9 ?_
      refine E_il 0 d_Land_writeBook_51 rfl ?_
      refine E_ic (v := 2) d_Land_writeBook_53 (by decide) ?_
      refine E_iadd d_Land_writeBook_54 ?_
      refine E_iln 4 d_Land_writeBook_55 rfl rfl ?_
      obtain ⟨h10, eh10, hq⟩ := bd hq
      refine E_wa d_Land_writeBook_56 eh10 ?_
      refine E_aln 1 d_Land_writeBook_57 rfl rfl ?_
      obtain ⟨v11, ev11, hq⟩ := bd hq
      refine E_gR d_Land_writeBook_58 lk_Land_18 rfl ev11 ?_
      refine E_il 0 d_Land_writeBook_61 rfl ?_
      refine E_ic (v := 3) d_Land_writeBook_63 (by decide) ?_
      refine E_iadd d_Land_writeBook_64 ?_
      refine E_il 5 d_Land_writeBook_65 rfl ?_
      obtain ⟨h12, eh12, hq⟩ := bd hq
      refine E_wa d_Land_writeBook_67 eh12 ?_
      refine E_aln 2 d_Land_writeBook_68 rfl rfl ?_
      refine E_dupr d_Land_writeBook_69 ?_
      obtain ⟨v13, ev13, hq⟩ := bd hq
      refine E_gI d_Land_writeBook_70 lk_Land_146 rfl ev13 ?_
      refine E_ic (v := 1) d_Land_writeBook_73 (by decide) ?_
      refine E_iadd d_Land_writeBook_74 ?_
      obtain ⟨h14, eh14, hq⟩ := bd hq
      refine E_pI d_Land_writeBook_75 lp_Land_m_146 rfl eh14 ?_
      exact E_rV d_Land_writeBook_78 rfl hq
    · rw [if_neg c] at hq
      exact E_rV d_Land_writeBook_25 rfl hq
def f_Land_weighOne_330 (x11 : Int32) (s0 : Int32) (s1 : Int32) (s2 : Int32) (s3 : Nat) (s4 : Nat) (h : PH) : Option (Int32 × PH) :=
  (isO h 1 s4).bind fun _ =>
  (f_Land_writeBook s4 s3 s2 s1 s0 h).bind fun h1 =>
  some (x11, h1)
theorem t_Land_weighOne_330 {d : Nat} (hd : 4 ≤ d) {x11 : Int32} {s0 : Int32} {s1 : Int32} {s2 : Int32} {s3 : Nat} {s4 : Nat} {h : PH} {r : Int32 × PH} (hq : f_Land_weighOne_330 x11 s0 s1 s2 s3 s4 h = some r) : E d 0 0 m_Land_weighOne 330 [(11, .int x11)] [.int s0, .int s1, .int s2, .ref s3, .ref s4] h (PI r) := by
  unfold f_Land_weighOne_330 at hq
  obtain ⟨d, rfl⟩ : ∃ e, d = e + 1 := ⟨d - 1, by omega⟩
  obtain ⟨q2, eq2, hq⟩ := bd hq
  obtain ⟨h1, eh1, hq⟩ := bd hq
  refine E_cV4V d_Land_weighOne_330 ck_Land_143 rfl rfl eq2 (Nat.le_of_ble_eq_true rfl) (Nat.le_of_ble_eq_true rfl) (t_Land_writeBook (by omega) eh1) ?_
  refine E_il 0 d_Land_weighOne_333 rfl ?_
  exact E_rI d_Land_weighOne_335 rfl hq
def f_Land_weighOne_317 (x2 : Int32) (x7 : Int32) (x11 : Int32) (x12 : Int32) (s0 : Int32) (s1 : Nat) (s2 : Nat) (h : PH) : Option (Int32 × PH) :=
  if x12 = 0 then
    f_Land_weighOne_330 x11 x11 x2 s0 s1 s2 h
  else
    f_Land_weighOne_330 x11 x7 x2 s0 s1 s2 h
theorem t_Land_weighOne_317 {d : Nat} (hd : 4 ≤ d) {x2 : Int32} {x7 : Int32} {x11 : Int32} {x12 : Int32} {s0 : Int32} {s1 : Nat} {s2 : Nat} {h : PH} {r : Int32 × PH} (hq : f_Land_weighOne_317 x2 x7 x11 x12 s0 s1 s2 h = some r) : E d 0 0 m_Land_weighOne 317 [(2, .int x2), (7, .int x7), (11, .int x11), (12, .int x12)] [.int s0, .ref s1, .ref s2] h (PI r) := by
  unfold f_Land_weighOne_317 at hq
  obtain ⟨d, rfl⟩ : ∃ e, d = e + 1 := ⟨d - 1, by omega⟩
  refine E_iln 0 d_Land_weighOne_317 rfl rfl ?_
  refine E_il 3 d_Land_weighOne_318 rfl ?_
  refine E_zeq (tgt := 328) d_Land_weighOne_320 (by decide) (fun c => ?_) (fun c => ?_)
  · rw [if_pos c] at hq
    refine E_il 2 d_Land_weighOne_328 rfl ?_
    exact E_sub (ks := [2]) rfl <| t_Land_weighOne_330 (by omega) hq
  · rw [if_neg c] at hq
    refine E_il 1 d_Land_weighOne_323 rfl ?_
    refine E_goto (tgt := 330) d_Land_weighOne_325 (by decide) ?_
    exact E_sub (ks := [2]) rfl <| t_Land_weighOne_330 (by omega) hq
def f_Land_weighOne_294 (a0 : Nat) (a1 : Nat) (x2 : Int32) (x7 : Int32) (x10 : Int32) (x11 : Int32) (s0 : Int32) (h : PH) : Option (Int32 × PH) :=
  if x10 = 0 then
    if s0 = 0 then
      f_Land_weighOne_317 x2 x7 x11 s0 0 a1 a0 h
    else
      f_Land_weighOne_317 x2 x7 x11 s0 2 a1 a0 h
  else
    f_Land_weighOne_317 x2 x7 x11 s0 1 a1 a0 h
theorem t_Land_weighOne_294 {d : Nat} (hd : 4 ≤ d) {a0 : Nat} {a1 : Nat} {x2 : Int32} {x7 : Int32} {x10 : Int32} {x11 : Int32} {s0 : Int32} {h : PH} {r : Int32 × PH} (hq : f_Land_weighOne_294 a0 a1 x2 x7 x10 x11 s0 h = some r) : E d 0 0 m_Land_weighOne 294 [(0, .ref a0), (1, .ref a1), (2, .int x2), (7, .int x7), (10, .int x10), (11, .int x11)] [.int s0] h (PI r) := by
  unfold f_Land_weighOne_294 at hq
  obtain ⟨d, rfl⟩ : ∃ e, d = e + 1 := ⟨d - 1, by omega⟩
  refine E_is (ls' := [(12, .int s0), (0, .ref a0), (1, .ref a1), (2, .int x2), (7, .int x7), (10, .int x10), (11, .int x11)]) d_Land_weighOne_294 (Nat.le_of_ble_eq_true rfl) rfl ?_
  refine E_aln 1 d_Land_weighOne_296 rfl rfl ?_
  refine E_aln 2 d_Land_weighOne_297 rfl rfl ?_
  refine E_il 5 d_Land_weighOne_298 rfl ?_
  refine E_zeq (tgt := 307) d_Land_weighOne_300 (by decide) (fun c => ?_) (fun c => ?_)
  · rw [if_pos c] at hq
    refine E_il 0 d_Land_weighOne_307 rfl ?_
    refine E_zeq (tgt := 316) d_Land_weighOne_309 (by decide) (fun c => ?_) (fun c => ?_)
    · rw [if_pos c] at hq
      refine E_ic (v := 0) d_Land_weighOne_316 (by decide) ?_
      exact E_sub (ks := [3, 4, 6, 0]) rfl <| t_Land_weighOne_317 (by omega) hq
    · rw [if_neg c] at hq
      refine E_ic (v := 2) d_Land_weighOne_312 (by decide) ?_
      refine E_goto (tgt := 317) d_Land_weighOne_313 (by decide) ?_
      exact E_sub (ks := [3, 4, 6, 0]) rfl <| t_Land_weighOne_317 (by omega) hq
  · rw [if_neg c] at hq
    refine E_ic (v := 1) d_Land_weighOne_303 (by decide) ?_
    refine E_goto (tgt := 317) d_Land_weighOne_304 (by decide) ?_
    exact E_sub (ks := [3, 4, 6, 0]) rfl <| t_Land_weighOne_317 (by omega) hq
def f_Land_weighOne_293 (a0 : Nat) (a1 : Nat) (x2 : Int32) (x7 : Int32) (x10 : Int32) (x11 : Int32) (h : PH) : Option (Int32 × PH) :=
  f_Land_weighOne_294 a0 a1 x2 x7 x10 x11 0 h
theorem t_Land_weighOne_293 {d : Nat} (hd : 4 ≤ d) {a0 : Nat} {a1 : Nat} {x2 : Int32} {x7 : Int32} {x10 : Int32} {x11 : Int32} {h : PH} {r : Int32 × PH} (hq : f_Land_weighOne_293 a0 a1 x2 x7 x10 x11 h = some r) : E d 0 0 m_Land_weighOne 293 [(0, .ref a0), (1, .ref a1), (2, .int x2), (7, .int x7), (10, .int x10), (11, .int x11)] [] h (PI r) := by
  unfold f_Land_weighOne_293 at hq
  obtain ⟨d, rfl⟩ : ∃ e, d = e + 1 := ⟨d - 1, by omega⟩
  refine E_ic (v := 0) d_Land_weighOne_293 (by decide) ?_
  exact t_Land_weighOne_294 (by omega) hq
def f_Land_weighOne_243 (a0 : Nat) (a1 : Nat) (x2 : Int32) (x3 : Int32) (x4 : Int32) (x7 : Int32) (x9 : Int32) (x10 : Int32) (x11 : Int32) (h : PH) : Option (Int32 × PH) :=
  (ldR h 5 a1 5).bind fun v1 =>
  (wrA h v1 x2 0).bind fun h2 =>
  (ldR h2 5 a1 13).bind fun v3 =>
  (ldR h2 5 a1 13).bind fun v4 =>
  (rdA h2 v4 x3).bind fun v5 =>
  (wrA h2 v3 x3 (jmin 9 (v5 + 1))).bind fun h6 =>
  if x4 = 0 then
    if x10 = 0 then
      if x9 = 0 then
        if x7 ≤ 0 then
          f_Land_weighOne_293 a0 a1 x2 x7 x10 x11 h6
        else
          f_Land_weighOne_294 a0 a1 x2 x7 x10 x11 1 h6
      else
        f_Land_weighOne_293 a0 a1 x2 x7 x10 x11 h6
    else
      f_Land_weighOne_293 a0 a1 x2 x7 x10 x11 h6
  else
    some (x11, h6)
theorem t_Land_weighOne_243 {d : Nat} (hd : 4 ≤ d) {a0 : Nat} {a1 : Nat} {x2 : Int32} {x3 : Int32} {x4 : Int32} {x7 : Int32} {x9 : Int32} {x10 : Int32} {x11 : Int32} {h : PH} {r : Int32 × PH} (hq : f_Land_weighOne_243 a0 a1 x2 x3 x4 x7 x9 x10 x11 h = some r) : E d 0 0 m_Land_weighOne 243 [(0, .ref a0), (1, .ref a1), (2, .int x2), (3, .int x3), (4, .int x4), (7, .int x7), (9, .int x9), (10, .int x10), (11, .int x11)] [] h (PI r) := by
  unfold f_Land_weighOne_243 at hq
  obtain ⟨d, rfl⟩ : ∃ e, d = e + 1 := ⟨d - 1, by omega⟩
  refine E_aln 1 d_Land_weighOne_243 rfl rfl ?_
  obtain ⟨v1, ev1, hq⟩ := bd hq
  refine E_gR d_Land_weighOne_244 lk_Land_111 rfl ev1 ?_
  refine E_iln 2 d_Land_weighOne_247 rfl rfl ?_
  refine E_ic (v := 0) d_Land_weighOne_248 (by decide) ?_
  obtain ⟨h2, eh2, hq⟩ := bd hq
  refine E_wa d_Land_weighOne_249 eh2 ?_
  refine E_aln 1 d_Land_weighOne_250 rfl rfl ?_
  obtain ⟨v3, ev3, hq⟩ := bd hq
  refine E_gR d_Land_weighOne_251 lk_Land_135 rfl ev3 ?_
  refine E_iln 3 d_Land_weighOne_254 rfl rfl ?_
  refine E_bi (v := 9) d_Land_weighOne_255 (by decide) ?_
  refine E_aln 1 d_Land_weighOne_257 rfl rfl ?_
  obtain ⟨v4, ev4, hq⟩ := bd hq
  refine E_gR d_Land_weighOne_258 lk_Land_135 rfl ev4 ?_
  refine E_iln 3 d_Land_weighOne_261 rfl rfl ?_
  obtain ⟨v5, ev5, hq⟩ := bd hq
  refine E_ra d_Land_weighOne_262 ev5 ?_
  refine E_ic (v := 1) d_Land_weighOne_263 (by decide) ?_
  refine E_iadd d_Land_weighOne_264 ?_
  refine E_min d_Land_weighOne_265 kj_Land_138 (Nat.le_of_ble_eq_true rfl) ?_
  obtain ⟨h6, eh6, hq⟩ := bd hq
  refine E_wa d_Land_weighOne_268 eh6 ?_
  refine E_il 4 d_Land_weighOne_269 rfl ?_
  refine E_zne (tgt := 333) d_Land_weighOne_271 (by decide) (fun c => ?_) (fun c => ?_)
  · rw [if_neg c] at hq
    refine E_il 8 d_Land_weighOne_333 rfl ?_
    exact E_rI d_Land_weighOne_335 rfl hq
  · rw [if_pos c] at hq
    refine E_il 7 d_Land_weighOne_274 rfl ?_
    refine E_zne (tgt := 293) d_Land_weighOne_276 (by decide) (fun c => ?_) (fun c => ?_)
    · rw [if_neg c] at hq
      exact E_sub (ks := [0, 1, 2, 5, 7, 8]) rfl <| t_Land_weighOne_293 (by omega) hq
    · rw [if_pos c] at hq
      refine E_il 6 d_Land_weighOne_279 rfl ?_
      refine E_zne (tgt := 293) d_Land_weighOne_281 (by decide) (fun c => ?_) (fun c => ?_)
      · rw [if_neg c] at hq
        exact E_sub (ks := [0, 1, 2, 5, 7, 8]) rfl <| t_Land_weighOne_293 (by omega) hq
      · rw [if_pos c] at hq
        refine E_il 5 d_Land_weighOne_284 rfl ?_
        refine E_zle (tgt := 293) d_Land_weighOne_286 (by decide) (fun c => ?_) (fun c => ?_)
        · rw [if_pos c] at hq
          exact E_sub (ks := [0, 1, 2, 5, 7, 8]) rfl <| t_Land_weighOne_293 (by omega) hq
        · rw [if_neg c] at hq
          refine E_ic (v := 1) d_Land_weighOne_289 (by decide) ?_
          refine E_goto (tgt := 294) d_Land_weighOne_290 (by decide) ?_
          exact E_sub (ks := [0, 1, 2, 5, 7, 8]) rfl <| t_Land_weighOne_294 (by omega) hq
def f_Land_weighOne_166 (a0 : Nat) (a1 : Nat) (x2 : Int32) (x3 : Int32) (x4 : Int32) (x7 : Int32) (x9 : Int32) (x10 : Int32) (s0 : Int32) (h : PH) : Option (Int32 × PH) :=
  (ldR h 5 a1 4).bind fun v1 =>
  (rdA h v1 x2).bind fun v2 =>
  (wrA h v1 x2 (v2 - s0)).bind fun h3 =>
  (ldI h3 5 a1 15).bind fun v4 =>
  (stI h3 5 a1 15 (v4 + s0)).bind fun h5 =>
  if x10 = 0 then
    (ldI h5 5 a1 8).bind fun v6 =>
    (stI h5 5 a1 8 (v6 &&& ((jshl 1 x2) ^^^ (-1)))).bind fun h7 =>
    (ldI h7 5 a1 7).bind fun v8 =>
    (stI h7 5 a1 7 (v8 ||| (jshl 1 x2))).bind fun h9 =>
    (ldR h9 5 a1 6).bind fun v10 =>
    (wrA h9 v10 x2 (-1)).bind fun h11 =>
    f_Land_weighOne_243 a0 a1 x2 x3 x4 x7 x9 x10 s0 h11
  else
    (ldI h5 5 a1 8).bind fun v12 =>
    (stI h5 5 a1 8 (v12 ||| (jshl 1 x2))).bind fun h13 =>
    f_Land_weighOne_243 a0 a1 x2 x3 x4 x7 x9 x10 s0 h13
theorem t_Land_weighOne_166 {d : Nat} (hd : 4 ≤ d) {a0 : Nat} {a1 : Nat} {x2 : Int32} {x3 : Int32} {x4 : Int32} {x7 : Int32} {x9 : Int32} {x10 : Int32} {s0 : Int32} {h : PH} {r : Int32 × PH} (hq : f_Land_weighOne_166 a0 a1 x2 x3 x4 x7 x9 x10 s0 h = some r) : E d 0 0 m_Land_weighOne 166 [(0, .ref a0), (1, .ref a1), (2, .int x2), (3, .int x3), (4, .int x4), (7, .int x7), (9, .int x9), (10, .int x10)] [.int s0] h (PI r) := by
  unfold f_Land_weighOne_166 at hq
  obtain ⟨d, rfl⟩ : ∃ e, d = e + 1 := ⟨d - 1, by omega⟩
  refine E_is (ls' := [(11, .int s0), (0, .ref a0), (1, .ref a1), (2, .int x2), (3, .int x3), (4, .int x4), (7, .int x7), (9, .int x9), (10, .int x10)]) d_Land_weighOne_166 (Nat.le_of_ble_eq_true rfl) rfl ?_
  refine E_aln 2 d_Land_weighOne_168 rfl rfl ?_
  obtain ⟨v1, ev1, hq⟩ := bd hq
  refine E_gR d_Land_weighOne_169 lk_Land_123 rfl ev1 ?_
  refine E_iln 3 d_Land_weighOne_172 rfl rfl ?_
  refine E_dup2 d_Land_weighOne_173 ?_
  obtain ⟨v2, ev2, hq⟩ := bd hq
  refine E_ra d_Land_weighOne_174 ev2 ?_
  refine E_il 0 d_Land_weighOne_175 rfl ?_
  refine E_isub d_Land_weighOne_177 ?_
  obtain ⟨h3, eh3, hq⟩ := bd hq
  refine E_wa d_Land_weighOne_178 eh3 ?_
  refine E_aln 2 d_Land_weighOne_179 rfl rfl ?_
  refine E_dupr d_Land_weighOne_180 ?_
  obtain ⟨v4, ev4, hq⟩ := bd hq
  refine E_gI d_Land_weighOne_181 lk_Land_126 rfl ev4 ?_
  refine E_il 0 d_Land_weighOne_184 rfl ?_
  refine E_iadd d_Land_weighOne_186 ?_
  obtain ⟨h5, eh5, hq⟩ := bd hq
  refine E_pI d_Land_weighOne_187 lp_Land_m_126 rfl eh5 ?_
  refine E_il 8 d_Land_weighOne_190 rfl ?_
  refine E_zeq (tgt := 210) d_Land_weighOne_192 (by decide) (fun c => ?_) (fun c => ?_)
  · rw [if_pos c] at hq
    refine E_aln 2 d_Land_weighOne_210 rfl rfl ?_
    refine E_dupr d_Land_weighOne_211 ?_
    obtain ⟨v6, ev6, hq⟩ := bd hq
    refine E_gI d_Land_weighOne_212 lk_Land_129 rfl ev6 ?_
    refine E_ic (v := 1) d_Land_weighOne_215 (by decide) ?_
    refine E_iln 3 d_Land_weighOne_216 rfl rfl ?_
    refine E_ishl d_Land_weighOne_217 ?_
    refine E_ic (v := (-1)) d_Land_weighOne_218 (by decide) ?_
    refine E_ixor d_Land_weighOne_219 ?_
    refine E_iand d_Land_weighOne_220 ?_
    obtain ⟨h7, eh7, hq⟩ := bd hq
    refine E_pI d_Land_weighOne_221 lp_Land_m_129 rfl eh7 ?_
    refine E_aln 2 d_Land_weighOne_224 rfl rfl ?_
    refine E_dupr d_Land_weighOne_225 ?_
    obtain ⟨v8, ev8, hq⟩ := bd hq
    refine E_gI d_Land_weighOne_226 lk_Land_86 rfl ev8 ?_
    refine E_ic (v := 1) d_Land_weighOne_229 (by decide) ?_
    refine E_iln 3 d_Land_weighOne_230 rfl rfl ?_
    refine E_ishl d_Land_weighOne_231 ?_
    refine E_ior d_Land_weighOne_232 ?_
    obtain ⟨h9, eh9, hq⟩ := bd hq
    refine E_pI d_Land_weighOne_233 lp_Land_m_86 rfl eh9 ?_
    refine E_aln 2 d_Land_weighOne_236 rfl rfl ?_
    obtain ⟨v10, ev10, hq⟩ := bd hq
    refine E_gR d_Land_weighOne_237 lk_Land_132 rfl ev10 ?_
    refine E_iln 3 d_Land_weighOne_240 rfl rfl ?_
    refine E_ic (v := (-1)) d_Land_weighOne_241 (by decide) ?_
    obtain ⟨h11, eh11, hq⟩ := bd hq
    refine E_wa d_Land_weighOne_242 eh11 ?_
    exact E_sub (ks := [1, 2, 3, 4, 5, 6, 7, 8, 0]) rfl <| t_Land_weighOne_243 (by omega) hq
  · rw [if_neg c] at hq
    refine E_aln 2 d_Land_weighOne_195 rfl rfl ?_
    refine E_dupr d_Land_weighOne_196 ?_
    obtain ⟨v12, ev12, hq⟩ := bd hq
    refine E_gI d_Land_weighOne_197 lk_Land_129 rfl ev12 ?_
    refine E_ic (v := 1) d_Land_weighOne_200 (by decide) ?_
    refine E_iln 3 d_Land_weighOne_201 rfl rfl ?_
    refine E_ishl d_Land_weighOne_202 ?_
    refine E_ior d_Land_weighOne_203 ?_
    obtain ⟨h13, eh13, hq⟩ := bd hq
    refine E_pI d_Land_weighOne_204 lp_Land_m_129 rfl eh13 ?_
    refine E_goto (tgt := 243) d_Land_weighOne_207 (by decide) ?_
    exact E_sub (ks := [1, 2, 3, 4, 5, 6, 7, 8, 0]) rfl <| t_Land_weighOne_243 (by omega) hq
def f_Land_weighOne_148 (a0 : Nat) (a1 : Nat) (x2 : Int32) (x3 : Int32) (x4 : Int32) (x7 : Int32) (x9 : Int32) (s0 : Int32) (h : PH) : Option (Int32 × PH) :=
  if s0 = 0 then
    f_Land_weighOne_166 a0 a1 x2 x3 x4 x7 x9 s0 x9 h
  else
    (ldR h 5 a1 4).bind fun v1 =>
    (rdA h v1 x2).bind fun v2 =>
    f_Land_weighOne_166 a0 a1 x2 x3 x4 x7 x9 s0 v2 h
theorem t_Land_weighOne_148 {d : Nat} (hd : 4 ≤ d) {a0 : Nat} {a1 : Nat} {x2 : Int32} {x3 : Int32} {x4 : Int32} {x7 : Int32} {x9 : Int32} {s0 : Int32} {h : PH} {r : Int32 × PH} (hq : f_Land_weighOne_148 a0 a1 x2 x3 x4 x7 x9 s0 h = some r) : E d 0 0 m_Land_weighOne 148 [(0, .ref a0), (1, .ref a1), (2, .int x2), (3, .int x3), (4, .int x4), (7, .int x7), (9, .int x9)] [.int s0] h (PI r) := by
  unfold f_Land_weighOne_148 at hq
  obtain ⟨d, rfl⟩ : ∃ e, d = e + 1 := ⟨d - 1, by omega⟩
  refine E_is (ls' := [(10, .int s0), (0, .ref a0), (1, .ref a1), (2, .int x2), (3, .int x3), (4, .int x4), (7, .int x7), (9, .int x9)]) d_Land_weighOne_148 (Nat.le_of_ble_eq_true rfl) rfl ?_
  refine E_il 0 d_Land_weighOne_150 rfl ?_
  refine E_zeq (tgt := 164) d_Land_weighOne_152 (by decide) (fun c => ?_) (fun c => ?_)
  · rw [if_pos c] at hq
    refine E_il 7 d_Land_weighOne_164 rfl ?_
    exact E_sub (ks := [1, 2, 3, 4, 5, 6, 7, 0]) rfl <| t_Land_weighOne_166 (by omega) hq
  · rw [if_neg c] at hq
    refine E_aln 2 d_Land_weighOne_155 rfl rfl ?_
    obtain ⟨v1, ev1, hq⟩ := bd hq
    refine E_gR d_Land_weighOne_156 lk_Land_123 rfl ev1 ?_
    refine E_iln 3 d_Land_weighOne_159 rfl rfl ?_
    obtain ⟨v2, ev2, hq⟩ := bd hq
    refine E_ra d_Land_weighOne_160 ev2 ?_
    refine E_goto (tgt := 166) d_Land_weighOne_161 (by decide) ?_
    exact E_sub (ks := [1, 2, 3, 4, 5, 6, 7, 0]) rfl <| t_Land_weighOne_166 (by omega) hq
def f_Land_weighOne_132 (a0 : Nat) (a1 : Nat) (x2 : Int32) (x3 : Int32) (x4 : Int32) (x7 : Int32) (x9 : Int32) (h : PH) : Option (Int32 × PH) :=
  (ldR h 5 a1 4).bind fun v1 =>
  (rdA h v1 x2).bind fun v2 =>
  if x9 ≤ v2 then
    f_Land_weighOne_148 a0 a1 x2 x3 x4 x7 x9 0 h
  else
    f_Land_weighOne_148 a0 a1 x2 x3 x4 x7 x9 1 h
theorem t_Land_weighOne_132 {d : Nat} (hd : 4 ≤ d) {a0 : Nat} {a1 : Nat} {x2 : Int32} {x3 : Int32} {x4 : Int32} {x7 : Int32} {x9 : Int32} {h : PH} {r : Int32 × PH} (hq : f_Land_weighOne_132 a0 a1 x2 x3 x4 x7 x9 h = some r) : E d 0 0 m_Land_weighOne 132 [(0, .ref a0), (1, .ref a1), (2, .int x2), (3, .int x3), (4, .int x4), (7, .int x7), (9, .int x9)] [] h (PI r) := by
  unfold f_Land_weighOne_132 at hq
  obtain ⟨d, rfl⟩ : ∃ e, d = e + 1 := ⟨d - 1, by omega⟩
  refine E_il 6 d_Land_weighOne_132 rfl ?_
  refine E_aln 1 d_Land_weighOne_134 rfl rfl ?_
  obtain ⟨v1, ev1, hq⟩ := bd hq
  refine E_gR d_Land_weighOne_135 lk_Land_123 rfl ev1 ?_
  refine E_iln 2 d_Land_weighOne_138 rfl rfl ?_
  obtain ⟨v2, ev2, hq⟩ := bd hq
  refine E_ra d_Land_weighOne_139 ev2 ?_
  refine E_jle (tgt := 147) d_Land_weighOne_140 (by decide) (fun c => ?_) (fun c => ?_)
  · rw [if_pos c] at hq
    refine E_ic (v := 0) d_Land_weighOne_147 (by decide) ?_
    exact t_Land_weighOne_148 (by omega) hq
  · rw [if_neg c] at hq
    refine E_ic (v := 1) d_Land_weighOne_143 (by decide) ?_
    refine E_goto (tgt := 148) d_Land_weighOne_144 (by decide) ?_
    exact t_Land_weighOne_148 (by omega) hq
def f_Land_weighOne_100 (a0 : Nat) (a1 : Nat) (x2 : Int32) (x3 : Int32) (x4 : Int32) (x7 : Int32) (x8 : Int32) (s0 : Int32) (h : PH) : Option (Int32 × PH) :=
  if x8 = 0 then
    (ldI h 5 a1 17).bind fun v1 =>
    (stI h 5 a1 17 (v1 + x7)).bind fun h2 =>
    f_Land_weighOne_132 a0 a1 x2 x3 x4 x7 s0 h2
  else
    (ldI h 5 a1 16).bind fun v3 =>
    (stI h 5 a1 16 (v3 + x7)).bind fun h4 =>
    f_Land_weighOne_132 a0 a1 x2 x3 x4 x7 s0 h4
theorem t_Land_weighOne_100 {d : Nat} (hd : 4 ≤ d) {a0 : Nat} {a1 : Nat} {x2 : Int32} {x3 : Int32} {x4 : Int32} {x7 : Int32} {x8 : Int32} {s0 : Int32} {h : PH} {r : Int32 × PH} (hq : f_Land_weighOne_100 a0 a1 x2 x3 x4 x7 x8 s0 h = some r) : E d 0 0 m_Land_weighOne 100 [(0, .ref a0), (1, .ref a1), (2, .int x2), (3, .int x3), (4, .int x4), (7, .int x7), (8, .int x8)] [.int s0] h (PI r) := by
  unfold f_Land_weighOne_100 at hq
  obtain ⟨d, rfl⟩ : ∃ e, d = e + 1 := ⟨d - 1, by omega⟩
  refine E_is (ls' := [(9, .int s0), (0, .ref a0), (1, .ref a1), (2, .int x2), (3, .int x3), (4, .int x4), (7, .int x7), (8, .int x8)]) d_Land_weighOne_100 (Nat.le_of_ble_eq_true rfl) rfl ?_
  refine E_il 7 d_Land_weighOne_102 rfl ?_
  refine E_zeq (tgt := 121) d_Land_weighOne_104 (by decide) (fun c => ?_) (fun c => ?_)
  · rw [if_pos c] at hq
    refine E_aln 2 d_Land_weighOne_121 rfl rfl ?_
    refine E_dupr d_Land_weighOne_122 ?_
    obtain ⟨v1, ev1, hq⟩ := bd hq
    refine E_gI d_Land_weighOne_123 lk_Land_120 rfl ev1 ?_
    refine E_il 6 d_Land_weighOne_126 rfl ?_
    refine E_iadd d_Land_weighOne_128 ?_
    obtain ⟨h2, eh2, hq⟩ := bd hq
    refine E_pI d_Land_weighOne_129 lp_Land_m_120 rfl eh2 ?_
    exact E_sub (ks := [1, 2, 3, 4, 5, 6, 0]) rfl <| t_Land_weighOne_132 (by omega) hq
  · rw [if_neg c] at hq
    refine E_aln 2 d_Land_weighOne_107 rfl rfl ?_
    refine E_dupr d_Land_weighOne_108 ?_
    obtain ⟨v3, ev3, hq⟩ := bd hq
    refine E_gI d_Land_weighOne_109 lk_Land_117 rfl ev3 ?_
    refine E_il 6 d_Land_weighOne_112 rfl ?_
    refine E_iadd d_Land_weighOne_114 ?_
    obtain ⟨h4, eh4, hq⟩ := bd hq
    refine E_pI d_Land_weighOne_115 lp_Land_m_117 rfl eh4 ?_
    refine E_goto (tgt := 132) d_Land_weighOne_118 (by decide) ?_
    exact E_sub (ks := [1, 2, 3, 4, 5, 6, 0]) rfl <| t_Land_weighOne_132 (by omega) hq
def f_Land_weighOne_84 (a0 : Nat) (a1 : Nat) (x2 : Int32) (x3 : Int32) (x4 : Int32) (x6 : Int32) (x7 : Int32) (s0 : Int32) (h : PH) : Option (Int32 × PH) :=
  if s0 = 0 then
    f_Land_weighOne_100 a0 a1 x2 x3 x4 x7 s0 0 h
  else
    f_Land_weighOne_100 a0 a1 x2 x3 x4 x7 s0 (x6 * x7) h
theorem t_Land_weighOne_84 {d : Nat} (hd : 4 ≤ d) {a0 : Nat} {a1 : Nat} {x2 : Int32} {x3 : Int32} {x4 : Int32} {x6 : Int32} {x7 : Int32} {s0 : Int32} {h : PH} {r : Int32 × PH} (hq : f_Land_weighOne_84 a0 a1 x2 x3 x4 x6 x7 s0 h = some r) : E d 0 0 m_Land_weighOne 84 [(0, .ref a0), (1, .ref a1), (2, .int x2), (3, .int x3), (4, .int x4), (6, .int x6), (7, .int x7)] [.int s0] h (PI r) := by
  unfold f_Land_weighOne_84 at hq
  obtain ⟨d, rfl⟩ : ∃ e, d = e + 1 := ⟨d - 1, by omega⟩
  refine E_is (ls' := [(8, .int s0), (0, .ref a0), (1, .ref a1), (2, .int x2), (3, .int x3), (4, .int x4), (6, .int x6), (7, .int x7)]) d_Land_weighOne_84 (Nat.le_of_ble_eq_true rfl) rfl ?_
  refine E_il 0 d_Land_weighOne_86 rfl ?_
  refine E_zeq (tgt := 99) d_Land_weighOne_88 (by decide) (fun c => ?_) (fun c => ?_)
  · rw [if_pos c] at hq
    refine E_ic (v := 0) d_Land_weighOne_99 (by decide) ?_
    exact E_sub (ks := [1, 2, 3, 4, 5, 7, 0]) rfl <| t_Land_weighOne_100 (by omega) hq
  · rw [if_neg c] at hq
    refine E_il 6 d_Land_weighOne_91 rfl ?_
    refine E_il 7 d_Land_weighOne_93 rfl ?_
    refine E_imul d_Land_weighOne_95 ?_
    refine E_goto (tgt := 100) d_Land_weighOne_96 (by decide) ?_
    exact E_sub (ks := [1, 2, 3, 4, 5, 7, 0]) rfl <| t_Land_weighOne_100 (by omega) hq
def f_Land_weighOne (a0 : Nat) (a1 : Nat) (x2 : Int32) (x3 : Int32) (x4 : Int32) (h : PH) : Option (Int32 × PH) :=
  (isO h 5 a1).bind fun _ =>
  (f_Realm_isInside a1 x2 h).bind fun p1 =>
  if p1.1 = 0 then
    some ((-1), p1.2)
  else
    (isO p1.2 5 a1).bind fun _ =>
    (f_Realm_isOfficer a1 x3 p1.2).bind fun p3 =>
    if p3.1 = 0 then
      some ((-1), p3.2)
    else
      (isO p3.2 1 a0).bind fun _ =>
      (f_Land_tells a0 a1 2 x2 x3 p3.2).bind fun p5 =>
      (isO p5.2 1 a0).bind fun _ =>
      (f_Land_tells a0 a1 1 x2 x3 p5.2).bind fun p7 =>
      (ldR p7.2 5 a1 5).bind fun v9 =>
      (rdA p7.2 v9 x2).bind fun v10 =>
      if x4 = 0 then
        (isO p7.2 5 a1).bind fun _ =>
        (f_Realm_draw a1 1000 p7.2).bind fun p11 =>
        if p5.1 ≤ p11.1 then
          f_Land_weighOne_84 a0 a1 x2 x3 x4 p7.1 v10 0 p11.2
        else
          f_Land_weighOne_84 a0 a1 x2 x3 x4 p7.1 v10 1 p11.2
      else
        if p5.1 < 500 then
          f_Land_weighOne_84 a0 a1 x2 x3 x4 p7.1 v10 0 p7.2
        else
          f_Land_weighOne_84 a0 a1 x2 x3 x4 p7.1 v10 1 p7.2
theorem t_Land_weighOne {d : Nat} (hd : 4 ≤ d) {a0 : Nat} {a1 : Nat} {x2 : Int32} {x3 : Int32} {x4 : Int32} {h : PH} {r : Int32 × PH} (hq : f_Land_weighOne a0 a1 x2 x3 x4 h = some r) : E d 0 0 m_Land_weighOne 0 [(0, .ref a0), (1, .ref a1), (2, .int x2), (3, .int x3), (4, .int x4)] [] h (PI r) := by
  unfold f_Land_weighOne at hq
  obtain ⟨d, rfl⟩ : ∃ e, d = e + 1 := ⟨d - 1, by omega⟩
  refine E_aln 1 d_Land_weighOne_0 rfl rfl ?_
  refine E_iln 2 d_Land_weighOne_1 rfl rfl ?_
  obtain ⟨q2, eq2, hq⟩ := bd hq
  obtain ⟨p1, ep1, hq⟩ := bd hq
  refine E_cV1I d_Land_weighOne_2 ck_Land_101 rfl rfl eq2 (Nat.le_of_ble_eq_true rfl) (Nat.le_of_ble_eq_true rfl) (t_Realm_isInside (by omega) ep1) ?_
  refine E_zeq (tgt := 16) d_Land_weighOne_5 (by decide) (fun c => ?_) (fun c => ?_)
  · rw [if_pos c] at hq
    refine E_ic (v := (-1)) d_Land_weighOne_16 (by decide) ?_
    exact E_rI d_Land_weighOne_17 rfl hq
  · rw [if_neg c] at hq
    refine E_aln 1 d_Land_weighOne_8 rfl rfl ?_
    refine E_iln 3 d_Land_weighOne_9 rfl rfl ?_
    obtain ⟨q4, eq4, hq⟩ := bd hq
    obtain ⟨p3, ep3, hq⟩ := bd hq
    refine E_cV1I d_Land_weighOne_10 ck_Land_105 rfl rfl eq4 (Nat.le_of_ble_eq_true rfl) (Nat.le_of_ble_eq_true rfl) (t_Realm_isOfficer (by omega) ep3) ?_
    refine E_zne (tgt := 18) d_Land_weighOne_13 (by decide) (fun c => ?_) (fun c => ?_)
    · rw [if_neg c] at hq
      refine E_aln 0 d_Land_weighOne_18 rfl rfl ?_
      refine E_aln 1 d_Land_weighOne_19 rfl rfl ?_
      refine E_ic (v := 2) d_Land_weighOne_20 (by decide) ?_
      refine E_iln 2 d_Land_weighOne_21 rfl rfl ?_
      refine E_iln 3 d_Land_weighOne_22 rfl rfl ?_
      obtain ⟨q6, eq6, hq⟩ := bd hq
      obtain ⟨p5, ep5, hq⟩ := bd hq
      refine E_cV4I d_Land_weighOne_23 ck_Land_108 rfl rfl eq6 (Nat.le_of_ble_eq_true rfl) (Nat.le_of_ble_eq_true rfl) (t_Land_tells (by omega) ep5) ?_
      refine E_is (ls' := [(5, .int p5.1), (0, .ref a0), (1, .ref a1), (2, .int x2), (3, .int x3), (4, .int x4)]) d_Land_weighOne_26 (Nat.le_of_ble_eq_true rfl) rfl ?_
      refine E_aln 1 d_Land_weighOne_28 rfl rfl ?_
      refine E_aln 2 d_Land_weighOne_29 rfl rfl ?_
      refine E_ic (v := 1) d_Land_weighOne_30 (by decide) ?_
      refine E_iln 3 d_Land_weighOne_31 rfl rfl ?_
      refine E_iln 4 d_Land_weighOne_32 rfl rfl ?_
      obtain ⟨q8, eq8, hq⟩ := bd hq
      obtain ⟨p7, ep7, hq⟩ := bd hq
      refine E_cV4I d_Land_weighOne_33 ck_Land_108 rfl rfl eq8 (Nat.le_of_ble_eq_true rfl) (Nat.le_of_ble_eq_true rfl) (t_Land_tells (by omega) ep7) ?_
      refine E_is (ls' := [(6, .int p7.1), (5, .int p5.1), (0, .ref a0), (1, .ref a1), (2, .int x2), (3, .int x3), (4, .int x4)]) d_Land_weighOne_36 (Nat.le_of_ble_eq_true rfl) rfl ?_
      refine E_aln 3 d_Land_weighOne_38 rfl rfl ?_
      obtain ⟨v9, ev9, hq⟩ := bd hq
      refine E_gR d_Land_weighOne_39 lk_Land_111 rfl ev9 ?_
      refine E_iln 4 d_Land_weighOne_42 rfl rfl ?_
      obtain ⟨v10, ev10, hq⟩ := bd hq
      refine E_ra d_Land_weighOne_43 ev10 ?_
      refine E_is (ls' := [(7, .int v10), (6, .int p7.1), (5, .int p5.1), (0, .ref a0), (1, .ref a1), (2, .int x2), (3, .int x3), (4, .int x4)]) d_Land_weighOne_44 (Nat.le_of_ble_eq_true rfl) rfl ?_
      refine E_il 7 d_Land_weighOne_46 rfl ?_
      refine E_zeq (tgt := 67) d_Land_weighOne_48 (by decide) (fun c => ?_) (fun c => ?_)
      · rw [if_pos c] at hq
        refine E_aln 4 d_Land_weighOne_67 rfl rfl ?_
        refine E_si (v := 1000) d_Land_weighOne_68 (by decide) ?_
        obtain ⟨q12, eq12, hq⟩ := bd hq
        obtain ⟨p11, ep11, hq⟩ := bd hq
        refine E_cV1I d_Land_weighOne_71 ck_Land_114 rfl rfl eq12 (Nat.le_of_ble_eq_true rfl) (Nat.le_of_ble_eq_true rfl) (t_Realm_draw (by omega) ep11) ?_
        refine E_il 2 d_Land_weighOne_74 rfl ?_
        refine E_jge (tgt := 83) d_Land_weighOne_76 (by decide) (fun c => ?_) (fun c => ?_)
        · rw [if_pos c] at hq
          refine E_ic (v := 0) d_Land_weighOne_83 (by decide) ?_
          exact E_sub (ks := [3, 4, 5, 6, 7, 1, 0]) rfl <| t_Land_weighOne_84 (by omega) hq
        · rw [if_neg c] at hq
          refine E_ic (v := 1) d_Land_weighOne_79 (by decide) ?_
          refine E_goto (tgt := 84) d_Land_weighOne_80 (by decide) ?_
          exact E_sub (ks := [3, 4, 5, 6, 7, 1, 0]) rfl <| t_Land_weighOne_84 (by omega) hq
      · rw [if_neg c] at hq
        refine E_il 2 d_Land_weighOne_51 rfl ?_
        refine E_si (v := 500) d_Land_weighOne_53 (by decide) ?_
        refine E_jlt (tgt := 63) d_Land_weighOne_56 (by decide) (fun c => ?_) (fun c => ?_)
        · rw [if_pos c] at hq
          refine E_ic (v := 0) d_Land_weighOne_63 (by decide) ?_
          refine E_goto (tgt := 84) d_Land_weighOne_64 (by decide) ?_
          exact E_sub (ks := [3, 4, 5, 6, 7, 1, 0]) rfl <| t_Land_weighOne_84 (by omega) hq
        · rw [if_neg c] at hq
          refine E_ic (v := 1) d_Land_weighOne_59 (by decide) ?_
          refine E_goto (tgt := 84) d_Land_weighOne_60 (by decide) ?_
          exact E_sub (ks := [3, 4, 5, 6, 7, 1, 0]) rfl <| t_Land_weighOne_84 (by omega) hq
    · rw [if_pos c] at hq
      refine E_ic (v := (-1)) d_Land_weighOne_16 (by decide) ?_
      exact E_rI d_Land_weighOne_17 rfl hq
def f_Tc_weigh (a0 : Nat) (x1 : Int32) (x2 : Int32) (h : PH) : Option (Int32 × PH) :=
  (ldR h 8 a0 0).bind fun v1 =>
  (ldR h 1 v1 0).bind fun v2 =>
  (isO h 5 v2).bind fun _ =>
  (f_Realm_isInside v2 x1 h).bind fun p3 =>
  if p3.1 = 0 then
    some ((-1), p3.2)
  else
    (ldR p3.2 8 a0 0).bind fun v5 =>
    (ldR p3.2 1 v5 0).bind fun v6 =>
    (isO p3.2 5 v6).bind fun _ =>
    (f_Realm_isOfficer v6 x2 p3.2).bind fun p7 =>
    if p7.1 = 0 then
      some ((-1), p7.2)
    else
      (ldR p7.2 8 a0 1).bind fun v9 =>
      (ldR p7.2 8 a0 0).bind fun v10 =>
      (ldR p7.2 1 v10 0).bind fun v11 =>
      (isO p7.2 3 v9).bind fun _ =>
      (f_Log_keep v9 v11 p7.2).bind fun h12 =>
      (ldR h12 8 a0 0).bind fun v14 =>
      (ldR h12 8 a0 0).bind fun v15 =>
      (ldR h12 1 v15 0).bind fun v16 =>
      (isO h12 1 v14).bind fun _ =>
      (f_Land_weighOne v14 v16 x1 x2 0 h12).bind fun p17 =>
      some (p17.1, p17.2)
theorem t_Tc_weigh {d : Nat} (hd : 5 ≤ d) {a0 : Nat} {x1 : Int32} {x2 : Int32} {h : PH} {r : Int32 × PH} (hq : f_Tc_weigh a0 x1 x2 h = some r) : E d 0 0 m_Tc_weigh 0 [(0, .ref a0), (1, .int x1), (2, .int x2)] [] h (PI r) := by
  unfold f_Tc_weigh at hq
  obtain ⟨d, rfl⟩ : ∃ e, d = e + 1 := ⟨d - 1, by omega⟩
  refine E_aln 0 d_Tc_weigh_0 rfl rfl ?_
  obtain ⟨v1, ev1, hq⟩ := bd hq
  refine E_gR d_Tc_weigh_1 lk_Tc_10 rfl ev1 ?_
  obtain ⟨v2, ev2, hq⟩ := bd hq
  refine E_gR d_Tc_weigh_4 lk_Tc_47 rfl ev2 ?_
  refine E_iln 1 d_Tc_weigh_7 rfl rfl ?_
  obtain ⟨q4, eq4, hq⟩ := bd hq
  obtain ⟨p3, ep3, hq⟩ := bd hq
  refine E_cV1I d_Tc_weigh_8 ck_Tc_86 rfl rfl eq4 (Nat.le_of_ble_eq_true rfl) (Nat.le_of_ble_eq_true rfl) (t_Realm_isInside (by omega) ep3) ?_
  refine E_zeq (tgt := 28) d_Tc_weigh_11 (by decide) (fun c => ?_) (fun c => ?_)
  · rw [if_pos c] at hq
    refine E_ic (v := (-1)) d_Tc_weigh_28 (by decide) ?_
    exact E_rI d_Tc_weigh_29 rfl hq
  · rw [if_neg c] at hq
    refine E_aln 0 d_Tc_weigh_14 rfl rfl ?_
    obtain ⟨v5, ev5, hq⟩ := bd hq
    refine E_gR d_Tc_weigh_15 lk_Tc_10 rfl ev5 ?_
    obtain ⟨v6, ev6, hq⟩ := bd hq
    refine E_gR d_Tc_weigh_18 lk_Tc_47 rfl ev6 ?_
    refine E_iln 2 d_Tc_weigh_21 rfl rfl ?_
    obtain ⟨q8, eq8, hq⟩ := bd hq
    obtain ⟨p7, ep7, hq⟩ := bd hq
    refine E_cV1I d_Tc_weigh_22 ck_Tc_90 rfl rfl eq8 (Nat.le_of_ble_eq_true rfl) (Nat.le_of_ble_eq_true rfl) (t_Realm_isOfficer (by omega) ep7) ?_
    refine E_zne (tgt := 30) d_Tc_weigh_25 (by decide) (fun c => ?_) (fun c => ?_)
    · rw [if_neg c] at hq
      refine E_aln 0 d_Tc_weigh_30 rfl rfl ?_
      obtain ⟨v9, ev9, hq⟩ := bd hq
      refine E_gR d_Tc_weigh_31 lk_Tc_19 rfl ev9 ?_
      refine E_aln 0 d_Tc_weigh_34 rfl rfl ?_
      obtain ⟨v10, ev10, hq⟩ := bd hq
      refine E_gR d_Tc_weigh_35 lk_Tc_10 rfl ev10 ?_
      obtain ⟨v11, ev11, hq⟩ := bd hq
      refine E_gR d_Tc_weigh_38 lk_Tc_47 rfl ev11 ?_
      obtain ⟨q13, eq13, hq⟩ := bd hq
      obtain ⟨h12, eh12, hq⟩ := bd hq
      refine E_cV1V d_Tc_weigh_41 ck_Tc_78 rfl rfl eq13 (Nat.le_of_ble_eq_true rfl) (Nat.le_of_ble_eq_true rfl) (t_Log_keep (by omega) eh12) ?_
      refine E_aln 0 d_Tc_weigh_44 rfl rfl ?_
      obtain ⟨v14, ev14, hq⟩ := bd hq
      refine E_gR d_Tc_weigh_45 lk_Tc_10 rfl ev14 ?_
      refine E_aln 0 d_Tc_weigh_48 rfl rfl ?_
      obtain ⟨v15, ev15, hq⟩ := bd hq
      refine E_gR d_Tc_weigh_49 lk_Tc_10 rfl ev15 ?_
      obtain ⟨v16, ev16, hq⟩ := bd hq
      refine E_gR d_Tc_weigh_52 lk_Tc_47 rfl ev16 ?_
      refine E_iln 1 d_Tc_weigh_55 rfl rfl ?_
      refine E_iln 2 d_Tc_weigh_56 rfl rfl ?_
      refine E_ic (v := 0) d_Tc_weigh_57 (by decide) ?_
      obtain ⟨q18, eq18, hq⟩ := bd hq
      obtain ⟨p17, ep17, hq⟩ := bd hq
      refine E_cV4I d_Tc_weigh_58 ck_Tc_93 rfl rfl eq18 (Nat.le_of_ble_eq_true rfl) (Nat.le_of_ble_eq_true rfl) (t_Land_weighOne (by omega) ep17) ?_
      exact E_rI d_Tc_weigh_61 rfl hq
    · rw [if_pos c] at hq
      refine E_ic (v := (-1)) d_Tc_weigh_28 (by decide) ?_
      exact E_rI d_Tc_weigh_29 rfl hq
def f_Realm_firstAt_2 : Nat → Nat → Int32 → Int32 → Int32 → PH → Option (Int32 × PH)
  | 0, _, _, _, _, _ => none
  | n + 1, a0, x1, x2, x3, h =>
    (ldI h 5 a0 1).bind fun v1 =>
    if v1 ≤ x3 then
      some ((-1), h)
    else
      (ldR h 5 a0 6).bind fun v2 =>
      (rdA h v2 x3).bind fun v3 =>
      if v3 = x1 then
        (ldI h 5 a0 7).bind fun v4 =>
        if ((jshr (v4 ||| x2) x3) &&& 1) = 0 then
          some (x3, h)
        else
          f_Realm_firstAt_2 n a0 x1 x2 (x3 + 1) h
      else
        f_Realm_firstAt_2 n a0 x1 x2 (x3 + 1) h
theorem t_Realm_firstAt_2 {d : Nat} (hd : 0 ≤ d) : ∀ (n : Nat) (a0 : Nat) (x1 : Int32) (x2 : Int32) (x3 : Int32) (h : PH) (r : Int32 × PH), f_Realm_firstAt_2 n a0 x1 x2 x3 h = some r → E d 0 0 m_Realm_firstAt 2 [(0, .ref a0), (1, .int x1), (2, .int x2), (3, .int x3)] [] h (PI r) := by
  intro n
  induction n with
  | zero => intro a0 x1 x2 x3 h r hq; rw [f_Realm_firstAt_2] at hq; cases hq
  | succ n ih =>
    intro a0 x1 x2 x3 h r hq
    rw [f_Realm_firstAt_2] at hq
    refine E_iln 3 d_Realm_firstAt_2 rfl rfl ?_
    refine E_aln 0 d_Realm_firstAt_3 rfl rfl ?_
    obtain ⟨v1, ev1, hq⟩ := bd hq
    refine E_gI d_Realm_firstAt_4 lk_Realm_15 rfl ev1 ?_
    refine E_jge (tgt := 41) d_Realm_firstAt_7 (by decide) (fun c => ?_) (fun c => ?_)
    · rw [if_pos c] at hq
      refine E_ic (v := (-1)) d_Realm_firstAt_41 (by decide) ?_
      exact E_rI d_Realm_firstAt_42 rfl hq
    · rw [if_neg c] at hq
      refine E_aln 0 d_Realm_firstAt_10 rfl rfl ?_
      obtain ⟨v2, ev2, hq⟩ := bd hq
      refine E_gR d_Realm_firstAt_11 lk_Realm_31 rfl ev2 ?_
      refine E_iln 3 d_Realm_firstAt_14 rfl rfl ?_
      obtain ⟨v3, ev3, hq⟩ := bd hq
      refine E_ra d_Realm_firstAt_15 ev3 ?_
      refine E_iln 1 d_Realm_firstAt_16 rfl rfl ?_
      refine E_jne (tgt := 35) d_Realm_firstAt_17 (by decide) (fun c => ?_) (fun c => ?_)
      · rw [if_neg c] at hq
        refine E_inc (v := 1) (ls' := [(3, .int (x3 + 1)), (0, .ref a0), (1, .int x1), (2, .int x2)]) 3 d_Realm_firstAt_35 rfl (Nat.le_of_ble_eq_true rfl) (by decide) rfl ?_
        refine E_goto (tgt := 2) d_Realm_firstAt_38 (by decide) ?_
        exact E_sub (ks := [1, 2, 3, 0]) rfl <| ih _ _ _ _ _ _ hq
      · rw [if_pos c] at hq
        refine E_aln 0 d_Realm_firstAt_20 rfl rfl ?_
        obtain ⟨v4, ev4, hq⟩ := bd hq
        refine E_gI d_Realm_firstAt_21 lk_Realm_34 rfl ev4 ?_
        refine E_iln 2 d_Realm_firstAt_24 rfl rfl ?_
        refine E_ior d_Realm_firstAt_25 ?_
        refine E_iln 3 d_Realm_firstAt_26 rfl rfl ?_
        refine E_ishr d_Realm_firstAt_27 ?_
        refine E_ic (v := 1) d_Realm_firstAt_28 (by decide) ?_
        refine E_iand d_Realm_firstAt_29 ?_
        refine E_zne (tgt := 35) d_Realm_firstAt_30 (by decide) (fun c => ?_) (fun c => ?_)
        · rw [if_neg c] at hq
          refine E_inc (v := 1) (ls' := [(3, .int (x3 + 1)), (0, .ref a0), (1, .int x1), (2, .int x2)]) 3 d_Realm_firstAt_35 rfl (Nat.le_of_ble_eq_true rfl) (by decide) rfl ?_
          refine E_goto (tgt := 2) d_Realm_firstAt_38 (by decide) ?_
          exact E_sub (ks := [1, 2, 3, 0]) rfl <| ih _ _ _ _ _ _ hq
        · rw [if_pos c] at hq
          refine E_iln 3 d_Realm_firstAt_33 rfl rfl ?_
          exact E_rI d_Realm_firstAt_34 rfl hq
def f_Realm_firstAt (a0 : Nat) (x1 : Int32) (x2 : Int32) (h : PH) : Option (Int32 × PH) :=
  f_Realm_firstAt_2 FU a0 x1 x2 0 h
theorem t_Realm_firstAt {d : Nat} (hd : 0 ≤ d) {a0 : Nat} {x1 : Int32} {x2 : Int32} {h : PH} {r : Int32 × PH} (hq : f_Realm_firstAt a0 x1 x2 h = some r) : E d 0 0 m_Realm_firstAt 0 [(0, .ref a0), (1, .int x1), (2, .int x2)] [] h (PI r) := by
  unfold f_Realm_firstAt at hq
  refine E_ic (v := 0) d_Realm_firstAt_0 (by decide) ?_
  refine E_isn (ls' := [(3, .int 0), (0, .ref a0), (1, .int x1), (2, .int x2)]) d_Realm_firstAt_1 (Nat.le_of_ble_eq_true rfl) rfl ?_
  exact E_sub (ks := [1, 2, 3, 0]) rfl <| t_Realm_firstAt_2 (by omega) _ _ _ _ _ _ _ hq
