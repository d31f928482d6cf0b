def f_Mo_undo_26 : Nat → Nat → Int32 → PH → Option (Int32 × PH)
  | 0, _, _, _ => none
  | n + 1, a0, x1, h =>
    if 79 ≤ x1 then
      rtZ 1 h
    else
      (ldR h 9 a0 1).bind fun v1 =>
      (ldR h 9 a0 2).bind fun v2 =>
      (ldI h 9 a0 3).bind fun v3 =>
      (rdA h v2 ((79 * v3) + x1)).bind fun v4 =>
      (wrA h v1 x1 v4).bind fun h5 =>
      f_Mo_undo_26 n a0 (x1 + 1) h5
theorem t_Mo_undo_26 {d : Nat} (hd : 0 ≤ d) : ∀ (n : Nat) (a0 : Nat) (x1 : Int32) (h : PH) (r : Int32 × PH), f_Mo_undo_26 n a0 x1 h = some r → E d 0 0 m_Mo_undo 26 [(0, .ref a0), (1, .int x1)] [] h (PI r) := by
  intro n
  induction n with
  | zero => intro a0 x1 h r hq; rw [f_Mo_undo_26] at hq; cases hq
  | succ n ih =>
    intro a0 x1 h r hq
    rw [f_Mo_undo_26] at hq
    refine E_iln 1 d_Mo_undo_26 rfl rfl ?_
    refine E_bi (v := 79) d_Mo_undo_27 (by decide) ?_
    refine E_jge (tgt := 58) d_Mo_undo_29 (by decide) (fun c => ?_) (fun c => ?_)
    · rw [if_pos c] at hq
      refine E_ic (v := 1) d_Mo_undo_58 (by decide) ?_
      exact E_rZ d_Mo_undo_59 rfl hq
    · rw [if_neg c] at hq
      refine E_aln 0 d_Mo_undo_32 rfl rfl ?_
      obtain ⟨v1, ev1, hq⟩ := bd hq
      refine E_gR d_Mo_undo_33 lk_Mo_7 rfl ev1 ?_
      refine E_iln 1 d_Mo_undo_36 rfl rfl ?_
      refine E_aln 0 d_Mo_undo_37 rfl rfl ?_
      obtain ⟨v2, ev2, hq⟩ := bd hq
      refine E_gR d_Mo_undo_38 lk_Mo_13 rfl ev2 ?_
      refine E_bi (v := 79) d_Mo_undo_41 (by decide) ?_
      refine E_aln 0 d_Mo_undo_43 rfl rfl ?_
      obtain ⟨v3, ev3, hq⟩ := bd hq
      refine E_gI d_Mo_undo_44 lk_Mo_143 rfl ev3 ?_
      refine E_imul d_Mo_undo_47 ?_
      refine E_iln 1 d_Mo_undo_48 rfl rfl ?_
      refine E_iadd d_Mo_undo_49 ?_
      obtain ⟨v4, ev4, hq⟩ := bd hq
      refine E_ra d_Mo_undo_50 ev4 ?_
      obtain ⟨h5, eh5, hq⟩ := bd hq
      refine E_wa d_Mo_undo_51 eh5 ?_
      refine E_inc (v := 1) (ls' := [(1, .int (x1 + 1)), (0, .ref a0)]) 1 d_Mo_undo_52 rfl (Nat.le_of_ble_eq_true rfl) (by decide) rfl ?_
      refine E_goto (tgt := 26) d_Mo_undo_55 (by decide) ?_
      exact E_sub (ks := [1, 0]) rfl <| ih _ _ _ _ hq
def f_Mo_undo (a0 : Nat) (h : PH) : Option (Int32 × PH) :=
  (stI h 9 a0 0 0).bind fun h1 =>
  (ldI h1 9 a0 3).bind fun v2 =>
  if v2 = 0 then
    rtZ 0 h1
  else
    (ldI h1 9 a0 3).bind fun v3 =>
    (stI h1 9 a0 3 (v3 - 1)).bind fun h4 =>
    f_Mo_undo_26 FU a0 0 h4
theorem t_Mo_undo {d : Nat} (hd : 0 ≤ d) {a0 : Nat} {h : PH} {r : Int32 × PH} (hq : f_Mo_undo a0 h = some r) : E d 0 0 m_Mo_undo 0 [(0, .ref a0)] [] h (PI r) := by
  unfold f_Mo_undo at hq
  refine E_aln 0 d_Mo_undo_0 rfl rfl ?_
  refine E_ic (v := 0) d_Mo_undo_1 (by decide) ?_
  obtain ⟨h1, eh1, hq⟩ := bd hq
  refine E_pI d_Mo_undo_2 lp_Mo_m_140 rfl eh1 ?_
  refine E_aln 0 d_Mo_undo_5 rfl rfl ?_
  obtain ⟨v2, ev2, hq⟩ := bd hq
  refine E_gI d_Mo_undo_6 lk_Mo_143 rfl ev2 ?_
  refine E_zne (tgt := 14) d_Mo_undo_9 (by decide) (fun c => ?_) (fun c => ?_)
  · rw [if_neg c] at hq
    refine E_aln 0 d_Mo_undo_14 rfl rfl ?_
    refine E_aln 0 d_Mo_undo_15 rfl rfl ?_
    obtain ⟨v3, ev3, hq⟩ := bd hq
    refine E_gI d_Mo_undo_16 lk_Mo_143 rfl ev3 ?_
    refine E_ic (v := 1) d_Mo_undo_19 (by decide) ?_
    refine E_isub d_Mo_undo_20 ?_
    obtain ⟨h4, eh4, hq⟩ := bd hq
    refine E_pI d_Mo_undo_21 lp_Mo_m_143 rfl eh4 ?_
    refine E_ic (v := 0) d_Mo_undo_24 (by decide) ?_
    refine E_isn (ls' := [(1, .int 0), (0, .ref a0)]) d_Mo_undo_25 (Nat.le_of_ble_eq_true rfl) rfl ?_
    exact E_sub (ks := [1, 0]) rfl <| t_Mo_undo_26 (by omega) _ _ _ _ _ hq
  · rw [if_pos c] at hq
    refine E_ic (v := 0) d_Mo_undo_12 (by decide) ?_
    exact E_rZ d_Mo_undo_13 rfl hq
def f_Mo_state (a0 : Nat) (x1 : Int32) (h : PH) : Option (Int32 × PH) :=
  (stI h 9 a0 0 0).bind fun h1 =>
  (ldR h1 9 a0 1).bind fun v2 =>
  (rdA h1 v2 1).bind fun v3 =>
  (ldR h1 9 a0 1).bind fun v4 =>
  (wrA h1 v4 1 x1).bind fun h5 =>
  (stI h5 9 a0 3 0).bind fun h6 =>
  some (v3, h6)
theorem t_Mo_state {d : Nat} (hd : 0 ≤ d) {a0 : Nat} {x1 : Int32} {h : PH} {r : Int32 × PH} (hq : f_Mo_state a0 x1 h = some r) : E d 0 0 m_Mo_state 0 [(0, .ref a0), (1, .int x1)] [] h (PI r) := by
  unfold f_Mo_state at hq
  refine E_aln 0 d_Mo_state_0 rfl rfl ?_
  refine E_ic (v := 0) d_Mo_state_1 (by decide) ?_
  obtain ⟨h1, eh1, hq⟩ := bd hq
  refine E_pI d_Mo_state_2 lp_Mo_m_140 rfl eh1 ?_
  refine E_aln 0 d_Mo_state_5 rfl rfl ?_
  obtain ⟨v2, ev2, hq⟩ := bd hq
  refine E_gR d_Mo_state_6 lk_Mo_7 rfl ev2 ?_
  refine E_ic (v := 1) d_Mo_state_9 (by decide) ?_
  obtain ⟨v3, ev3, hq⟩ := bd hq
  refine E_ra d_Mo_state_10 ev3 ?_
  refine E_isn (ls' := [(2, .int v3), (0, .ref a0), (1, .int x1)]) d_Mo_state_11 (Nat.le_of_ble_eq_true rfl) rfl ?_
  refine E_aln 1 d_Mo_state_12 rfl rfl ?_
  obtain ⟨v4, ev4, hq⟩ := bd hq
  refine E_gR d_Mo_state_13 lk_Mo_7 rfl ev4 ?_
  refine E_ic (v := 1) d_Mo_state_16 (by decide) ?_
  refine E_iln 2 d_Mo_state_17 rfl rfl ?_
  obtain ⟨h5, eh5, hq⟩ := bd hq
  refine E_wa d_Mo_state_18 eh5 ?_
  refine E_aln 1 d_Mo_state_19 rfl rfl ?_
  refine E_ic (v := 0) d_Mo_state_20 (by decide) ?_
  obtain ⟨h6, eh6, hq⟩ := bd hq
  refine E_pI d_Mo_state_21 lp_Mo_m_143 rfl eh6 ?_
  refine E_iln 0 d_Mo_state_24 rfl rfl ?_
  exact E_rI d_Mo_state_25 rfl hq
def f_Mo_isIn (a0 : Nat) (x1 : Int32) (x2 : Int32) (x3 : Int32) (h : PH) : Option (Int32 × PH) :=
  if x1 < x2 then
    rtZ 0 h
  else
    if x3 < x1 then
      rtZ 0 h
    else
      rtZ 1 h
theorem t_Mo_isIn {d : Nat} (hd : 0 ≤ d) {a0 : Nat} {x1 : Int32} {x2 : Int32} {x3 : Int32} {h : PH} {r : Int32 × PH} (hq : f_Mo_isIn a0 x1 x2 x3 h = some r) : E d 0 0 m_Mo_isIn 0 [(0, .ref a0), (1, .int x1), (2, .int x2), (3, .int x3)] [] h (PI r) := by
  unfold f_Mo_isIn at hq
  refine E_iln 1 d_Mo_isIn_0 rfl rfl ?_
  refine E_iln 2 d_Mo_isIn_1 rfl rfl ?_
  refine E_jlt (tgt := 14) d_Mo_isIn_2 (by decide) (fun c => ?_) (fun c => ?_)
  · rw [if_pos c] at hq
    refine E_ic (v := 0) d_Mo_isIn_14 (by decide) ?_
    exact E_rZ d_Mo_isIn_15 rfl hq
  · rw [if_neg c] at hq
    refine E_iln 1 d_Mo_isIn_5 rfl rfl ?_
    refine E_iln 3 d_Mo_isIn_6 rfl rfl ?_
    refine E_jgt (tgt := 14) d_Mo_isIn_7 (by decide) (fun c => ?_) (fun c => ?_)
    · rw [if_pos c] at hq
      refine E_ic (v := 0) d_Mo_isIn_14 (by decide) ?_
      exact E_rZ d_Mo_isIn_15 rfl hq
    · rw [if_neg c] at hq
      refine E_ic (v := 1) d_Mo_isIn_10 (by decide) ?_
      refine E_goto (tgt := 15) d_Mo_isIn_11 (by decide) ?_
      exact E_rZ d_Mo_isIn_15 rfl hq
def f_Mo_traveller (a0 : Nat) (x1 : Int32) (x2 : Int32) (x3 : Int32) (h : PH) : Option (Int32 × PH) :=
  (stI h 9 a0 0 0).bind fun h1 =>
  (isO h1 9 a0).bind fun _ =>
  (f_Mo_isIn a0 x1 0 5 h1).bind fun p2 =>
  if p2.1 = 0 then
    some ((-1), p2.2)
  else
    (isO p2.2 9 a0).bind fun _ =>
    (f_Mo_isIn a0 x2 0 9 p2.2).bind fun p4 =>
    if p4.1 = 0 then
      some ((-1), p4.2)
    else
      (isO p4.2 9 a0).bind fun _ =>
      (f_Mo_isIn a0 x3 0 9999 p4.2).bind fun p6 =>
      if p6.1 = 0 then
        some ((-1), p6.2)
      else
        (ldI p6.2 9 a0 6).bind fun v8 =>
        if v8 = 12 then
          some ((-1), p6.2)
        else
          (ldI p6.2 9 a0 6).bind fun v9 =>
          (ldR p6.2 9 a0 8).bind fun v10 =>
          (wrA p6.2 v10 v9 x1).bind fun h11 =>
          (ldR h11 9 a0 9).bind fun v12 =>
          (wrA h11 v12 v9 x2).bind fun h13 =>
          (ldR h13 9 a0 1).bind fun v14 =>
          (wrA h13 v14 (7 + v9) x3).bind fun h15 =>
          (ldR h15 9 a0 1).bind fun v16 =>
          (wrA h15 v16 (19 + v9) 0).bind fun h17 =>
          (ldR h17 9 a0 1).bind fun v18 =>
          (wrA h17 v18 (31 + v9) 0).bind fun h19 =>
          (ldR h19 9 a0 1).bind fun v20 =>
          (wrA h19 v20 (43 + v9) 0).bind fun h21 =>
          (ldR h21 9 a0 1).bind fun v22 =>
          (wrA h21 v22 (55 + v9) 0).bind fun h23 =>
          (stI h23 9 a0 6 (v9 + 1)).bind fun h24 =>
          (stI h24 9 a0 3 0).bind fun h25 =>
          some (v9, h25)
theorem t_Mo_traveller {d : Nat} (hd : 1 ≤ d) {a0 : Nat} {x1 : Int32} {x2 : Int32} {x3 : Int32} {h : PH} {r : Int32 × PH} (hq : f_Mo_traveller a0 x1 x2 x3 h = some r) : E d 0 0 m_Mo_traveller 0 [(0, .ref a0), (1, .int x1), (2, .int x2), (3, .int x3)] [] h (PI r) := by
  unfold f_Mo_traveller at hq
  obtain ⟨d, rfl⟩ : ∃ e, d = e + 1 := ⟨d - 1, by omega⟩
  refine E_aln 0 d_Mo_traveller_0 rfl rfl ?_
  refine E_ic (v := 0) d_Mo_traveller_1 (by decide) ?_
  obtain ⟨h1, eh1, hq⟩ := bd hq
  refine E_pI d_Mo_traveller_2 lp_Mo_m_140 rfl eh1 ?_
  refine E_aln 0 d_Mo_traveller_5 rfl rfl ?_
  refine E_iln 1 d_Mo_traveller_6 rfl rfl ?_
  refine E_ic (v := 0) d_Mo_traveller_7 (by decide) ?_
  refine E_ic (v := 5) d_Mo_traveller_8 (by decide) ?_
  obtain ⟨q3, eq3, hq⟩ := bd hq
  obtain ⟨p2, ep2, hq⟩ := bd hq
  refine E_cV3I d_Mo_traveller_9 ck_Mo_162 rfl rfl eq3 (Nat.le_of_ble_eq_true rfl) (Nat.le_of_ble_eq_true rfl) (t_Mo_isIn (by omega) ep2) ?_
  refine E_zeq (tgt := 47) d_Mo_traveller_12 (by decide) (fun c => ?_) (fun c => ?_)
  · rw [if_pos c] at hq
    refine E_ic (v := (-1)) d_Mo_traveller_47 (by decide) ?_
    exact E_rI d_Mo_traveller_48 rfl hq
  · rw [if_neg c] at hq
    refine E_aln 0 d_Mo_traveller_15 rfl rfl ?_
    refine E_iln 2 d_Mo_traveller_16 rfl rfl ?_
    refine E_ic (v := 0) d_Mo_traveller_17 (by decide) ?_
    refine E_bi (v := 9) d_Mo_traveller_18 (by decide) ?_
    obtain ⟨q5, eq5, hq⟩ := bd hq
    obtain ⟨p4, ep4, hq⟩ := bd hq
    refine E_cV3I d_Mo_traveller_20 ck_Mo_162 rfl rfl eq5 (Nat.le_of_ble_eq_true rfl) (Nat.le_of_ble_eq_true rfl) (t_Mo_isIn (by omega) ep4) ?_
    refine E_zeq (tgt := 47) d_Mo_traveller_23 (by decide) (fun c => ?_) (fun c => ?_)
    · rw [if_pos c] at hq
      refine E_ic (v := (-1)) d_Mo_traveller_47 (by decide) ?_
      exact E_rI d_Mo_traveller_48 rfl hq
    · rw [if_neg c] at hq
      refine E_aln 0 d_Mo_traveller_26 rfl rfl ?_
      refine E_iln 3 d_Mo_traveller_27 rfl rfl ?_
      refine E_ic (v := 0) d_Mo_traveller_28 (by decide) ?_
      refine E_si (v := 9999) d_Mo_traveller_29 (by decide) ?_
      obtain ⟨q7, eq7, hq⟩ := bd hq
      obtain ⟨p6, ep6, hq⟩ := bd hq
      refine E_cV3I d_Mo_traveller_32 ck_Mo_162 rfl rfl eq7 (Nat.le_of_ble_eq_true rfl) (Nat.le_of_ble_eq_true rfl) (t_Mo_isIn (by omega) ep6) ?_
      refine E_zeq (tgt := 47) d_Mo_traveller_35 (by decide) (fun c => ?_) (fun c => ?_)
      · rw [if_pos c] at hq
        refine E_ic (v := (-1)) d_Mo_traveller_47 (by decide) ?_
        exact E_rI d_Mo_traveller_48 rfl hq
      · rw [if_neg c] at hq
        refine E_aln 0 d_Mo_traveller_38 rfl rfl ?_
        obtain ⟨v8, ev8, hq⟩ := bd hq
        refine E_gI d_Mo_traveller_39 lk_Mo_152 rfl ev8 ?_
        refine E_bi (v := 12) d_Mo_traveller_42 (by decide) ?_
        refine E_jne (tgt := 49) d_Mo_traveller_44 (by decide) (fun c => ?_) (fun c => ?_)
        · rw [if_neg c] at hq
          refine E_aln 0 d_Mo_traveller_49 rfl rfl ?_
          obtain ⟨v9, ev9, hq⟩ := bd hq
          refine E_gI d_Mo_traveller_50 lk_Mo_152 rfl ev9 ?_
          refine E_is (ls' := [(4, .int v9), (0, .ref a0), (1, .int x1), (2, .int x2), (3, .int x3)]) d_Mo_traveller_53 (Nat.le_of_ble_eq_true rfl) rfl ?_
          refine E_aln 1 d_Mo_traveller_55 rfl rfl ?_
          obtain ⟨v10, ev10, hq⟩ := bd hq
          refine E_gR d_Mo_traveller_56 lk_Mo_19 rfl ev10 ?_
          refine E_il 0 d_Mo_traveller_59 rfl ?_
          refine E_iln 2 d_Mo_traveller_61 rfl rfl ?_
          obtain ⟨h11, eh11, hq⟩ := bd hq
          refine E_wa d_Mo_traveller_62 eh11 ?_
          refine E_aln 1 d_Mo_traveller_63 rfl rfl ?_
          obtain ⟨v12, ev12, hq⟩ := bd hq
          refine E_gR d_Mo_traveller_64 lk_Mo_22 rfl ev12 ?_
          refine E_il 0 d_Mo_traveller_67 rfl ?_
          refine E_iln 3 d_Mo_traveller_69 rfl rfl ?_
          obtain ⟨h13, eh13, hq⟩ := bd hq
          refine E_wa d_Mo_traveller_70 eh13 ?_
          refine E_aln 1 d_Mo_traveller_71 rfl rfl ?_
          obtain ⟨v14, ev14, hq⟩ := bd hq
          refine E_gR d_Mo_traveller_72 lk_Mo_7 rfl ev14 ?_
          refine E_bi (v := 7) d_Mo_traveller_75 (by decide) ?_
          refine E_il 0 d_Mo_traveller_77 rfl ?_
          refine E_iadd d_Mo_traveller_79 ?_
          refine E_iln 4 d_Mo_traveller_80 rfl rfl ?_
          obtain ⟨h15, eh15, hq⟩ := bd hq
          refine E_wa d_Mo_traveller_81 eh15 ?_
          refine E_aln 1 d_Mo_traveller_82 rfl rfl ?_
          obtain ⟨v16, ev16, hq⟩ := bd hq
          refine E_gR d_Mo_traveller_83 lk_Mo_7 rfl ev16 ?_
          refine E_bi (v := 19) d_Mo_traveller_86 (by decide) ?_
          refine E_il 0 d_Mo_traveller_88 rfl ?_
          refine E_iadd d_Mo_traveller_90 ?_
          refine E_ic (v := 0) d_Mo_traveller_91 (by decide) ?_
          obtain ⟨h17, eh17, hq⟩ := bd hq
          refine E_wa d_Mo_traveller_92 eh17 ?_
          refine E_aln 1 d_Mo_traveller_93 rfl rfl ?_
          obtain ⟨v18, ev18, hq⟩ := bd hq
          refine E_gR d_Mo_traveller_94 lk_Mo_7 rfl ev18 ?_
          refine E_bi (v := 31) d_Mo_traveller_97 (by decide) ?_
          refine E_il 0 d_Mo_traveller_99 rfl ?_
          refine E_iadd d_Mo_traveller_101 ?_
          refine E_ic (v := 0) d_Mo_traveller_102 (by decide) ?_
          obtain ⟨h19, eh19, hq⟩ := bd hq
          refine E_wa d_Mo_traveller_103 eh19 ?_
          refine E_aln 1 d_Mo_traveller_104 rfl rfl ?_
          obtain ⟨v20, ev20, hq⟩ := bd hq
          refine E_gR d_Mo_traveller_105 lk_Mo_7 rfl ev20 ?_
          refine E_bi (v := 43) d_Mo_traveller_108 (by decide) ?_
          refine E_il 0 d_Mo_traveller_110 rfl ?_
          refine E_iadd d_Mo_traveller_112 ?_
          refine E_ic (v := 0) d_Mo_traveller_113 (by decide) ?_
          obtain ⟨h21, eh21, hq⟩ := bd hq
          refine E_wa d_Mo_traveller_114 eh21 ?_
          refine E_aln 1 d_Mo_traveller_115 rfl rfl ?_
          obtain ⟨v22, ev22, hq⟩ := bd hq
          refine E_gR d_Mo_traveller_116 lk_Mo_7 rfl ev22 ?_
          refine E_bi (v := 55) d_Mo_traveller_119 (by decide) ?_
          refine E_il 0 d_Mo_traveller_121 rfl ?_
          refine E_iadd d_Mo_traveller_123 ?_
          refine E_ic (v := 0) d_Mo_traveller_124 (by decide) ?_
          obtain ⟨h23, eh23, hq⟩ := bd hq
          refine E_wa d_Mo_traveller_125 eh23 ?_
          refine E_aln 1 d_Mo_traveller_126 rfl rfl ?_
          refine E_il 0 d_Mo_traveller_127 rfl ?_
          refine E_ic (v := 1) d_Mo_traveller_129 (by decide) ?_
          refine E_iadd d_Mo_traveller_130 ?_
          obtain ⟨h24, eh24, hq⟩ := bd hq
          refine E_pI d_Mo_traveller_131 lp_Mo_m_152 rfl eh24 ?_
          refine E_aln 1 d_Mo_traveller_134 rfl rfl ?_
          refine E_ic (v := 0) d_Mo_traveller_135 (by decide) ?_
          obtain ⟨h25, eh25, hq⟩ := bd hq
          refine E_pI d_Mo_traveller_136 lp_Mo_m_143 rfl eh25 ?_
          refine E_il 0 d_Mo_traveller_139 rfl ?_
          exact E_rI d_Mo_traveller_141 rfl hq
        · rw [if_pos c] at hq
          refine E_ic (v := (-1)) d_Mo_traveller_47 (by decide) ?_
          exact E_rI d_Mo_traveller_48 rfl hq
def f_Mo_isGate (a0 : Nat) (x1 : Int32) (h : PH) : Option (Int32 × PH) :=
  if x1 < 0 then
    rtZ 0 h
  else
    if 4 ≤ x1 then
      rtZ 0 h
    else
      rtZ 1 h
theorem t_Mo_isGate {d : Nat} (hd : 0 ≤ d) {a0 : Nat} {x1 : Int32} {h : PH} {r : Int32 × PH} (hq : f_Mo_isGate a0 x1 h = some r) : E d 0 0 m_Mo_isGate 0 [(0, .ref a0), (1, .int x1)] [] h (PI r) := by
  unfold f_Mo_isGate at hq
  refine E_iln 1 d_Mo_isGate_0 rfl rfl ?_
  refine E_zlt (tgt := 13) d_Mo_isGate_1 (by decide) (fun c => ?_) (fun c => ?_)
  · rw [if_pos c] at hq
    refine E_ic (v := 0) d_Mo_isGate_13 (by decide) ?_
    exact E_rZ d_Mo_isGate_14 rfl hq
  · rw [if_neg c] at hq
    refine E_iln 1 d_Mo_isGate_4 rfl rfl ?_
    refine E_ic (v := 4) d_Mo_isGate_5 (by decide) ?_
    refine E_jge (tgt := 13) d_Mo_isGate_6 (by decide) (fun c => ?_) (fun c => ?_)
    · rw [if_pos c] at hq
      refine E_ic (v := 0) d_Mo_isGate_13 (by decide) ?_
      exact E_rZ d_Mo_isGate_14 rfl hq
    · rw [if_neg c] at hq
      refine E_ic (v := 1) d_Mo_isGate_9 (by decide) ?_
      refine E_goto (tgt := 14) d_Mo_isGate_10 (by decide) ?_
      exact E_rZ d_Mo_isGate_14 rfl hq
def f_Mo_officer (a0 : Nat) (x1 : Int32) (x2 : Int32) (x3 : Int32) (h : PH) : Option (Int32 × PH) :=
  (stI h 9 a0 0 0).bind fun h1 =>
  (isO h1 9 a0).bind fun _ =>
  (f_Mo_isGate a0 x1 h1).bind fun p2 =>
  if p2.1 = 0 then
    some ((-1), p2.2)
  else
    (isO p2.2 9 a0).bind fun _ =>
    (f_Mo_isIn a0 x2 0 9 p2.2).bind fun p4 =>
    if p4.1 = 0 then
      some ((-1), p4.2)
    else
      (isO p4.2 9 a0).bind fun _ =>
      (f_Mo_isIn a0 x3 0 9 p4.2).bind fun p6 =>
      if p6.1 = 0 then
        some ((-1), p6.2)
      else
        (ldI p6.2 9 a0 7).bind fun v8 =>
        if v8 = 6 then
          some ((-1), p6.2)
        else
          (ldR p6.2 9 a0 1).bind fun v9 =>
          (ldI p6.2 9 a0 7).bind fun v10 =>
          (wrA p6.2 v9 (67 + v10) x1).bind fun h11 =>
          (ldR h11 9 a0 1).bind fun v12 =>
          (ldI h11 9 a0 7).bind fun v13 =>
          (wrA h11 v12 (73 + v13) 0).bind fun h14 =>
          (ldR h14 9 a0 10).bind fun v15 =>
          (ldI h14 9 a0 7).bind fun v16 =>
          (wrA h14 v15 v16 x2).bind fun h17 =>
          (ldR h17 9 a0 11).bind fun v18 =>
          (ldI h17 9 a0 7).bind fun v19 =>
          (wrA h17 v18 v19 x3).bind fun h20 =>
          (ldI h20 9 a0 7).bind fun v21 =>
          (stI h20 9 a0 7 (v21 + 1)).bind fun h22 =>
          (stI h22 9 a0 3 0).bind fun h23 =>
          (ldI h23 9 a0 7).bind fun v24 =>
          some ((v24 - 1), h23)
theorem t_Mo_officer {d : Nat} (hd : 1 ≤ d) {a0 : Nat} {x1 : Int32} {x2 : Int32} {x3 : Int32} {h : PH} {r : Int32 × PH} (hq : f_Mo_officer a0 x1 x2 x3 h = some r) : E d 0 0 m_Mo_officer 0 [(0, .ref a0), (1, .int x1), (2, .int x2), (3, .int x3)] [] h (PI r) := by
  unfold f_Mo_officer at hq
  obtain ⟨d, rfl⟩ : ∃ e, d = e + 1 := ⟨d - 1, by omega⟩
  refine E_aln 0 d_Mo_officer_0 rfl rfl ?_
  refine E_ic (v := 0) d_Mo_officer_1 (by decide) ?_
  obtain ⟨h1, eh1, hq⟩ := bd hq
  refine E_pI d_Mo_officer_2 lp_Mo_m_140 rfl eh1 ?_
  refine E_aln 0 d_Mo_officer_5 rfl rfl ?_
  refine E_iln 1 d_Mo_officer_6 rfl rfl ?_
  obtain ⟨q3, eq3, hq⟩ := bd hq
  obtain ⟨p2, ep2, hq⟩ := bd hq
  refine E_cV1I d_Mo_officer_7 ck_Mo_166 rfl rfl eq3 (Nat.le_of_ble_eq_true rfl) (Nat.le_of_ble_eq_true rfl) (t_Mo_isGate (by omega) ep2) ?_
  refine E_zeq (tgt := 44) d_Mo_officer_10 (by decide) (fun c => ?_) (fun c => ?_)
  · rw [if_pos c] at hq
    refine E_ic (v := (-1)) d_Mo_officer_44 (by decide) ?_
    exact E_rI d_Mo_officer_45 rfl hq
  · rw [if_neg c] at hq
    refine E_aln 0 d_Mo_officer_13 rfl rfl ?_
    refine E_iln 2 d_Mo_officer_14 rfl rfl ?_
    refine E_ic (v := 0) d_Mo_officer_15 (by decide) ?_
    refine E_bi (v := 9) d_Mo_officer_16 (by decide) ?_
    obtain ⟨q5, eq5, hq⟩ := bd hq
    obtain ⟨p4, ep4, hq⟩ := bd hq
    refine E_cV3I d_Mo_officer_18 ck_Mo_162 rfl rfl eq5 (Nat.le_of_ble_eq_true rfl) (Nat.le_of_ble_eq_true rfl) (t_Mo_isIn (by omega) ep4) ?_
    refine E_zeq (tgt := 44) d_Mo_officer_21 (by decide) (fun c => ?_) (fun c => ?_)
    · rw [if_pos c] at hq
      refine E_ic (v := (-1)) d_Mo_officer_44 (by decide) ?_
      exact E_rI d_Mo_officer_45 rfl hq
    · rw [if_neg c] at hq
      refine E_aln 0 d_Mo_officer_24 rfl rfl ?_
      refine E_iln 3 d_Mo_officer_25 rfl rfl ?_
      refine E_ic (v := 0) d_Mo_officer_26 (by decide) ?_
      refine E_bi (v := 9) d_Mo_officer_27 (by decide) ?_
      obtain ⟨q7, eq7, hq⟩ := bd hq
      obtain ⟨p6, ep6, hq⟩ := bd hq
      refine E_cV3I d_Mo_officer_29 ck_Mo_162 rfl rfl eq7 (Nat.le_of_ble_eq_true rfl) (Nat.le_of_ble_eq_true rfl) (t_Mo_isIn (by omega) ep6) ?_
      refine E_zeq (tgt := 44) d_Mo_officer_32 (by decide) (fun c => ?_) (fun c => ?_)
      · rw [if_pos c] at hq
        refine E_ic (v := (-1)) d_Mo_officer_44 (by decide) ?_
        exact E_rI d_Mo_officer_45 rfl hq
      · rw [if_neg c] at hq
        refine E_aln 0 d_Mo_officer_35 rfl rfl ?_
        obtain ⟨v8, ev8, hq⟩ := bd hq
        refine E_gI d_Mo_officer_36 lk_Mo_155 rfl ev8 ?_
        refine E_bi (v := 6) d_Mo_officer_39 (by decide) ?_
        refine E_jne (tgt := 46) d_Mo_officer_41 (by decide) (fun c => ?_) (fun c => ?_)
        · rw [if_neg c] at hq
          refine E_aln 0 d_Mo_officer_46 rfl rfl ?_
          obtain ⟨v9, ev9, hq⟩ := bd hq
          refine E_gR d_Mo_officer_47 lk_Mo_7 rfl ev9 ?_
          refine E_bi (v := 67) d_Mo_officer_50 (by decide) ?_
          refine E_aln 0 d_Mo_officer_52 rfl rfl ?_
          obtain ⟨v10, ev10, hq⟩ := bd hq
          refine E_gI d_Mo_officer_53 lk_Mo_155 rfl ev10 ?_
          refine E_iadd d_Mo_officer_56 ?_
          refine E_iln 1 d_Mo_officer_57 rfl rfl ?_
          obtain ⟨h11, eh11, hq⟩ := bd hq
          refine E_wa d_Mo_officer_58 eh11 ?_
          refine E_aln 0 d_Mo_officer_59 rfl rfl ?_
          obtain ⟨v12, ev12, hq⟩ := bd hq
          refine E_gR d_Mo_officer_60 lk_Mo_7 rfl ev12 ?_
          refine E_bi (v := 73) d_Mo_officer_63 (by decide) ?_
          refine E_aln 0 d_Mo_officer_65 rfl rfl ?_
          obtain ⟨v13, ev13, hq⟩ := bd hq
          refine E_gI d_Mo_officer_66 lk_Mo_155 rfl ev13 ?_
          refine E_iadd d_Mo_officer_69 ?_
          refine E_ic (v := 0) d_Mo_officer_70 (by decide) ?_
          obtain ⟨h14, eh14, hq⟩ := bd hq
          refine E_wa d_Mo_officer_71 eh14 ?_
          refine E_aln 0 d_Mo_officer_72 rfl rfl ?_
          obtain ⟨v15, ev15, hq⟩ := bd hq
          refine E_gR d_Mo_officer_73 lk_Mo_25 rfl ev15 ?_
          refine E_aln 0 d_Mo_officer_76 rfl rfl ?_
          obtain ⟨v16, ev16, hq⟩ := bd hq
          refine E_gI d_Mo_officer_77 lk_Mo_155 rfl ev16 ?_
          refine E_iln 2 d_Mo_officer_80 rfl rfl ?_
          obtain ⟨h17, eh17, hq⟩ := bd hq
          refine E_wa d_Mo_officer_81 eh17 ?_
          refine E_aln 0 d_Mo_officer_82 rfl rfl ?_
          obtain ⟨v18, ev18, hq⟩ := bd hq
          refine E_gR d_Mo_officer_83 lk_Mo_28 rfl ev18 ?_
          refine E_aln 0 d_Mo_officer_86 rfl rfl ?_
          obtain ⟨v19, ev19, hq⟩ := bd hq
          refine E_gI d_Mo_officer_87 lk_Mo_155 rfl ev19 ?_
          refine E_iln 3 d_Mo_officer_90 rfl rfl ?_
          obtain ⟨h20, eh20, hq⟩ := bd hq
          refine E_wa d_Mo_officer_91 eh20 ?_
          refine E_aln 0 d_Mo_officer_92 rfl rfl ?_
          refine E_aln 0 d_Mo_officer_93 rfl rfl ?_
          obtain ⟨v21, ev21, hq⟩ := bd hq
          refine E_gI d_Mo_officer_94 lk_Mo_155 rfl ev21 ?_
          refine E_ic (v := 1) d_Mo_officer_97 (by decide) ?_
          refine E_iadd d_Mo_officer_98 ?_
          obtain ⟨h22, eh22, hq⟩ := bd hq
          refine E_pI d_Mo_officer_99 lp_Mo_m_155 rfl eh22 ?_
          refine E_aln 0 d_Mo_officer_102 rfl rfl ?_
          refine E_ic (v := 0) d_Mo_officer_103 (by decide) ?_
          obtain ⟨h23, eh23, hq⟩ := bd hq
          refine E_pI d_Mo_officer_104 lp_Mo_m_143 rfl eh23 ?_
          refine E_aln 0 d_Mo_officer_107 rfl rfl ?_
          obtain ⟨v24, ev24, hq⟩ := bd hq
          refine E_gI d_Mo_officer_108 lk_Mo_155 rfl ev24 ?_
          refine E_ic (v := 1) d_Mo_officer_111 (by decide) ?_
          refine E_isub d_Mo_officer_112 ?_
          exact E_rI d_Mo_officer_113 rfl hq
        · rw [if_pos c] at hq
          refine E_ic (v := (-1)) d_Mo_officer_44 (by decide) ?_
          exact E_rI d_Mo_officer_45 rfl hq
def f_Mo_isTraveller (a0 : Nat) (x1 : Int32) (h : PH) : Option (Int32 × PH) :=
  if x1 < 0 then
    rtZ 0 h
  else
    (ldI h 9 a0 6).bind fun v1 =>
    if v1 ≤ x1 then
      rtZ 0 h
    else
      rtZ 1 h
theorem t_Mo_isTraveller {d : Nat} (hd : 0 ≤ d) {a0 : Nat} {x1 : Int32} {h : PH} {r : Int32 × PH} (hq : f_Mo_isTraveller a0 x1 h = some r) : E d 0 0 m_Mo_isTraveller 0 [(0, .ref a0), (1, .int x1)] [] h (PI r) := by
  unfold f_Mo_isTraveller at hq
  refine E_iln 1 d_Mo_isTraveller_0 rfl rfl ?_
  refine E_zlt (tgt := 16) d_Mo_isTraveller_1 (by decide) (fun c => ?_) (fun c => ?_)
  · rw [if_pos c] at hq
    refine E_ic (v := 0) d_Mo_isTraveller_16 (by decide) ?_
    exact E_rZ d_Mo_isTraveller_17 rfl hq
  · rw [if_neg c] at hq
    refine E_iln 1 d_Mo_isTraveller_4 rfl rfl ?_
    refine E_aln 0 d_Mo_isTraveller_5 rfl rfl ?_
    obtain ⟨v1, ev1, hq⟩ := bd hq
    refine E_gI d_Mo_isTraveller_6 lk_Mo_152 rfl ev1 ?_
    refine E_jge (tgt := 16) d_Mo_isTraveller_9 (by decide) (fun c => ?_) (fun c => ?_)
    · rw [if_pos c] at hq
      refine E_ic (v := 0) d_Mo_isTraveller_16 (by decide) ?_
      exact E_rZ d_Mo_isTraveller_17 rfl hq
    · rw [if_neg c] at hq
      refine E_ic (v := 1) d_Mo_isTraveller_12 (by decide) ?_
      refine E_goto (tgt := 17) d_Mo_isTraveller_13 (by decide) ?_
      exact E_rZ d_Mo_isTraveller_17 rfl hq
def f_Mo_isOfficer (a0 : Nat) (x1 : Int32) (h : PH) : Option (Int32 × PH) :=
  if x1 < 0 then
    rtZ 0 h
  else
    (ldI h 9 a0 7).bind fun v1 =>
    if v1 ≤ x1 then
      rtZ 0 h
    else
      rtZ 1 h
theorem t_Mo_isOfficer {d : Nat} (hd : 0 ≤ d) {a0 : Nat} {x1 : Int32} {h : PH} {r : Int32 × PH} (hq : f_Mo_isOfficer a0 x1 h = some r) : E d 0 0 m_Mo_isOfficer 0 [(0, .ref a0), (1, .int x1)] [] h (PI r) := by
  unfold f_Mo_isOfficer at hq
  refine E_iln 1 d_Mo_isOfficer_0 rfl rfl ?_
  refine E_zlt (tgt := 16) d_Mo_isOfficer_1 (by decide) (fun c => ?_) (fun c => ?_)
  · rw [if_pos c] at hq
    refine E_ic (v := 0) d_Mo_isOfficer_16 (by decide) ?_
    exact E_rZ d_Mo_isOfficer_17 rfl hq
  · rw [if_neg c] at hq
    refine E_iln 1 d_Mo_isOfficer_4 rfl rfl ?_
    refine E_aln 0 d_Mo_isOfficer_5 rfl rfl ?_
    obtain ⟨v1, ev1, hq⟩ := bd hq
    refine E_gI d_Mo_isOfficer_6 lk_Mo_155 rfl ev1 ?_
    refine E_jge (tgt := 16) d_Mo_isOfficer_9 (by decide) (fun c => ?_) (fun c => ?_)
    · rw [if_pos c] at hq
      refine E_ic (v := 0) d_Mo_isOfficer_16 (by decide) ?_
      exact E_rZ d_Mo_isOfficer_17 rfl hq
    · rw [if_neg c] at hq
      refine E_ic (v := 1) d_Mo_isOfficer_12 (by decide) ?_
      refine E_goto (tgt := 17) d_Mo_isOfficer_13 (by decide) ?_
      exact E_rZ d_Mo_isOfficer_17 rfl hq
def f_Mo_canSet_43 (s0 : Int32) (s1 : Int32) (s2 : Int32) (s3 : Nat) (h : PH) : Option (Int32 × PH) :=
  (isO h 9 s3).bind fun _ =>
  (f_Mo_isIn s3 s2 s1 s0 h).bind fun p1 =>
  if p1.1 = 0 then
    rtZ 0 p1.2
  else
    rtZ 1 p1.2
theorem t_Mo_canSet_43 {d : Nat} (hd : 1 ≤ d) {s0 : Int32} {s1 : Int32} {s2 : Int32} {s3 : Nat} {h : PH} {r : Int32 × PH} (hq : f_Mo_canSet_43 s0 s1 s2 s3 h = some r) : E d 0 0 m_Mo_canSet 43 [] [.int s0, .int s1, .int s2, .ref s3] h (PI r) := by
  unfold f_Mo_canSet_43 at hq
  obtain ⟨d, rfl⟩ : ∃ e, d = e + 1 := ⟨d - 1, by omega⟩
  obtain ⟨q2, eq2, hq⟩ := bd hq
  obtain ⟨p1, ep1, hq⟩ := bd hq
  refine E_cV3I d_Mo_canSet_43 ck_Mo_162 rfl rfl eq2 (Nat.le_of_ble_eq_true rfl) (Nat.le_of_ble_eq_true rfl) (t_Mo_isIn (by omega) ep1) ?_
  refine E_zeq (tgt := 53) d_Mo_canSet_46 (by decide) (fun c => ?_) (fun c => ?_)
  · rw [if_pos c] at hq
    refine E_ic (v := 0) d_Mo_canSet_53 (by decide) ?_
    exact E_rZ d_Mo_canSet_54 rfl hq
  · rw [if_neg c] at hq
    refine E_ic (v := 1) d_Mo_canSet_49 (by decide) ?_
    refine E_goto (tgt := 54) d_Mo_canSet_50 (by decide) ?_
    exact E_rZ d_Mo_canSet_54 rfl hq
def f_Mo_canSet (a0 : Nat) (x1 : Int32) (x2 : Int32) (x3 : Int32) (h : PH) : Option (Int32 × PH) :=
  (isO h 9 a0).bind fun _ =>
  (f_Mo_isIn a0 x1 0 2 h).bind fun p1 =>
  if p1.1 = 0 then
    (isO p1.2 9 a0).bind fun _ =>
    (f_Mo_isIn a0 x1 3 4 p1.2).bind fun p3 =>
    if p3.1 = 0 then
      rtZ 0 p3.2
    else
      (isO p3.2 9 a0).bind fun _ =>
      (f_Mo_isOfficer a0 x2 p3.2).bind fun p5 =>
      if p5.1 = 0 then
        rtZ 0 p5.2
      else
        (isO p5.2 9 a0).bind fun _ =>
        (f_Mo_isIn a0 x3 0 9 p5.2).bind fun p7 =>
        if p7.1 = 0 then
          rtZ 0 p7.2
        else
          rtZ 1 p7.2
  else
    (isO p1.2 9 a0).bind fun _ =>
    (f_Mo_isTraveller a0 x2 p1.2).bind fun p9 =>
    if p9.1 = 0 then
      rtZ 0 p9.2
    else
      if x1 = 0 then
        f_Mo_canSet_43 9999 0 x3 a0 p9.2
      else
        if x1 = 1 then
          f_Mo_canSet_43 99 0 x3 a0 p9.2
        else
          f_Mo_canSet_43 9 0 x3 a0 p9.2
theorem t_Mo_canSet {d : Nat} (hd : 1 ≤ d) {a0 : Nat} {x1 : Int32} {x2 : Int32} {x3 : Int32} {h : PH} {r : Int32 × PH} (hq : f_Mo_canSet a0 x1 x2 x3 h = some r) : E d 0 0 m_Mo_canSet 0 [(0, .ref a0), (1, .int x1), (2, .int x2), (3, .int x3)] [] h (PI r) := by
  unfold f_Mo_canSet at hq
  obtain ⟨d, rfl⟩ : ∃ e, d = e + 1 := ⟨d - 1, by omega⟩
  refine E_aln 0 d_Mo_canSet_0 rfl rfl ?_
  refine E_iln 1 d_Mo_canSet_1 rfl rfl ?_
  refine E_ic (v := 0) d_Mo_canSet_2 (by decide) ?_
  refine E_ic (v := 2) d_Mo_canSet_3 (by decide) ?_
  obtain ⟨q2, eq2, hq⟩ := bd hq
  obtain ⟨p1, ep1, hq⟩ := bd hq
  refine E_cV3I d_Mo_canSet_4 ck_Mo_162 rfl rfl eq2 (Nat.le_of_ble_eq_true rfl) (Nat.le_of_ble_eq_true rfl) (t_Mo_isIn (by omega) ep1) ?_
  refine E_zeq (tgt := 55) d_Mo_canSet_7 (by decide) (fun c => ?_) (fun c => ?_)
  · rw [if_pos c] at hq
    refine E_aln 0 d_Mo_canSet_55 rfl rfl ?_
    refine E_iln 1 d_Mo_canSet_56 rfl rfl ?_
    refine E_ic (v := 3) d_Mo_canSet_57 (by decide) ?_
    refine E_ic (v := 4) d_Mo_canSet_58 (by decide) ?_
    obtain ⟨q4, eq4, hq⟩ := bd hq
    obtain ⟨p3, ep3, hq⟩ := bd hq
    refine E_cV3I d_Mo_canSet_59 ck_Mo_162 rfl rfl eq4 (Nat.le_of_ble_eq_true rfl) (Nat.le_of_ble_eq_true rfl) (t_Mo_isIn (by omega) ep3) ?_
    refine E_zeq (tgt := 88) d_Mo_canSet_62 (by decide) (fun c => ?_) (fun c => ?_)
    · rw [if_pos c] at hq
      refine E_ic (v := 0) d_Mo_canSet_88 (by decide) ?_
      exact E_rZ d_Mo_canSet_89 rfl hq
    · rw [if_neg c] at hq
      refine E_aln 0 d_Mo_canSet_65 rfl rfl ?_
      refine E_iln 2 d_Mo_canSet_66 rfl rfl ?_
      obtain ⟨q6, eq6, hq⟩ := bd hq
      obtain ⟨p5, ep5, hq⟩ := bd hq
      refine E_cV1I d_Mo_canSet_67 ck_Mo_173 rfl rfl eq6 (Nat.le_of_ble_eq_true rfl) (Nat.le_of_ble_eq_true rfl) (t_Mo_isOfficer (by omega) ep5) ?_
      refine E_zeq (tgt := 88) d_Mo_canSet_70 (by decide) (fun c => ?_) (fun c => ?_)
      · rw [if_pos c] at hq
        refine E_ic (v := 0) d_Mo_canSet_88 (by decide) ?_
        exact E_rZ d_Mo_canSet_89 rfl hq
      · rw [if_neg c] at hq
        refine E_aln 0 d_Mo_canSet_73 rfl rfl ?_
        refine E_iln 3 d_Mo_canSet_74 rfl rfl ?_
        refine E_ic (v := 0) d_Mo_canSet_75 (by decide) ?_
        refine E_bi (v := 9) d_Mo_canSet_76 (by decide) ?_
        obtain ⟨q8, eq8, hq⟩ := bd hq
        obtain ⟨p7, ep7, hq⟩ := bd hq
        refine E_cV3I d_Mo_canSet_78 ck_Mo_162 rfl rfl eq8 (Nat.le_of_ble_eq_true rfl) (Nat.le_of_ble_eq_true rfl) (t_Mo_isIn (by omega) ep7) ?_
        refine E_zeq (tgt := 88) d_Mo_canSet_81 (by decide) (fun c => ?_) (fun c => ?_)
        · rw [if_pos c] at hq
          refine E_ic (v := 0) d_Mo_canSet_88 (by decide) ?_
          exact E_rZ d_Mo_canSet_89 rfl hq
        · rw [if_neg c] at hq
          refine E_ic (v := 1) d_Mo_canSet_84 (by decide) ?_
          refine E_goto (tgt := 89) d_Mo_canSet_85 (by decide) ?_
          exact E_rZ d_Mo_canSet_89 rfl hq
  · rw [if_neg c] at hq
    refine E_aln 0 d_Mo_canSet_10 rfl rfl ?_
    refine E_iln 2 d_Mo_canSet_11 rfl rfl ?_
    obtain ⟨q10, eq10, hq⟩ := bd hq
    obtain ⟨p9, ep9, hq⟩ := bd hq
    refine E_cV1I d_Mo_canSet_12 ck_Mo_170 rfl rfl eq10 (Nat.le_of_ble_eq_true rfl) (Nat.le_of_ble_eq_true rfl) (t_Mo_isTraveller (by omega) ep9) ?_
    refine E_zeq (tgt := 53) d_Mo_canSet_15 (by decide) (fun c => ?_) (fun c => ?_)
    · rw [if_pos c] at hq
      refine E_ic (v := 0) d_Mo_canSet_53 (by decide) ?_
      exact E_rZ d_Mo_canSet_54 rfl hq
    · rw [if_neg c] at hq
      refine E_aln 0 d_Mo_canSet_18 rfl rfl ?_
      refine E_iln 3 d_Mo_canSet_19 rfl rfl ?_
      refine E_ic (v := 0) d_Mo_canSet_20 (by decide) ?_
      refine E_iln 1 d_Mo_canSet_21 rfl rfl ?_
      refine E_zne (tgt := 31) d_Mo_canSet_22 (by decide) (fun c => ?_) (fun c => ?_)
      · rw [if_neg c] at hq
        refine E_iln 1 d_Mo_canSet_31 rfl rfl ?_
        refine E_ic (v := 1) d_Mo_canSet_32 (by decide) ?_
        refine E_jne (tgt := 41) d_Mo_canSet_33 (by decide) (fun c => ?_) (fun c => ?_)
        · rw [if_neg c] at hq
          refine E_bi (v := 9) d_Mo_canSet_41 (by decide) ?_
          exact E_sub (ks := []) rfl <| t_Mo_canSet_43 (by omega) hq
        · rw [if_pos c] at hq
          refine E_bi (v := 99) d_Mo_canSet_36 (by decide) ?_
          refine E_goto (tgt := 43) d_Mo_canSet_38 (by decide) ?_
          exact E_sub (ks := []) rfl <| t_Mo_canSet_43 (by omega) hq
      · rw [if_pos c] at hq
        refine E_si (v := 9999) d_Mo_canSet_25 (by decide) ?_
        refine E_goto (tgt := 43) d_Mo_canSet_28 (by decide) ?_
        exact E_sub (ks := []) rfl <| t_Mo_canSet_43 (by omega) hq
def f_Mo_set_85 (a0 : Nat) (h : PH) : Option (Int32 × PH) :=
  (stI h 9 a0 3 0).bind fun h1 =>
  rtZ 1 h1
theorem t_Mo_set_85 {d : Nat} (hd : 2 ≤ d) {a0 : Nat} {h : PH} {r : Int32 × PH} (hq : f_Mo_set_85 a0 h = some r) : E d 0 0 m_Mo_set 85 [(0, .ref a0)] [] h (PI r) := by
  unfold f_Mo_set_85 at hq
  obtain ⟨d, rfl⟩ : ∃ e, d = e + 1 := ⟨d - 1, by omega⟩
  refine E_aln 0 d_Mo_set_85 rfl rfl ?_
  refine E_ic (v := 0) d_Mo_set_86 (by decide) ?_
  obtain ⟨h1, eh1, hq⟩ := bd hq
  refine E_pI d_Mo_set_87 lp_Mo_m_143 rfl eh1 ?_
  refine E_ic (v := 1) d_Mo_set_90 (by decide) ?_
  exact E_rZ d_Mo_set_91 rfl hq
def f_Mo_set_73 (a0 : Nat) (x1 : Int32) (x2 : Int32) (x3 : Int32) (h : PH) : Option (Int32 × PH) :=
  if x1 = 4 then
    (ldR h 9 a0 11).bind fun v1 =>
    (wrA h v1 x2 x3).bind fun h2 =>
    f_Mo_set_85 a0 h2
  else
    f_Mo_set_85 a0 h
theorem t_Mo_set_73 {d : Nat} (hd : 2 ≤ d) {a0 : Nat} {x1 : Int32} {x2 : Int32} {x3 : Int32} {h : PH} {r : Int32 × PH} (hq : f_Mo_set_73 a0 x1 x2 x3 h = some r) : E d 0 0 m_Mo_set 73 [(0, .ref a0), (1, .int x1), (2, .int x2), (3, .int x3)] [] h (PI r) := by
  unfold f_Mo_set_73 at hq
  obtain ⟨d, rfl⟩ : ∃ e, d = e + 1 := ⟨d - 1, by omega⟩
  refine E_iln 1 d_Mo_set_73 rfl rfl ?_
  refine E_ic (v := 4) d_Mo_set_74 (by decide) ?_
  refine E_jne (tgt := 85) d_Mo_set_75 (by decide) (fun c => ?_) (fun c => ?_)
  · rw [if_neg c] at hq
    exact E_sub (ks := [0]) rfl <| t_Mo_set_85 (by omega) hq
  · rw [if_pos c] at hq
    refine E_aln 0 d_Mo_set_78 rfl rfl ?_
    obtain ⟨v1, ev1, hq⟩ := bd hq
    refine E_gR d_Mo_set_79 lk_Mo_28 rfl ev1 ?_
    refine E_iln 2 d_Mo_set_82 rfl rfl ?_
    refine E_iln 3 d_Mo_set_83 rfl rfl ?_
    obtain ⟨h2, eh2, hq⟩ := bd hq
    refine E_wa d_Mo_set_84 eh2 ?_
    exact E_sub (ks := [0]) rfl <| t_Mo_set_85 (by omega) hq
def f_Mo_set_58 (a0 : Nat) (x1 : Int32) (x2 : Int32) (x3 : Int32) (h : PH) : Option (Int32 × PH) :=
  if x1 = 3 then
    (ldR h 9 a0 1).bind fun v1 =>
    (wrA h v1 (73 + x2) x3).bind fun h2 =>
    f_Mo_set_73 a0 x1 x2 x3 h2
  else
    f_Mo_set_73 a0 x1 x2 x3 h
theorem t_Mo_set_58 {d : Nat} (hd : 2 ≤ d) {a0 : Nat} {x1 : Int32} {x2 : Int32} {x3 : Int32} {h : PH} {r : Int32 × PH} (hq : f_Mo_set_58 a0 x1 x2 x3 h = some r) : E d 0 0 m_Mo_set 58 [(0, .ref a0), (1, .int x1), (2, .int x2), (3, .int x3)] [] h (PI r) := by
  unfold f_Mo_set_58 at hq
  obtain ⟨d, rfl⟩ : ∃ e, d = e + 1 := ⟨d - 1, by omega⟩
  refine E_iln 1 d_Mo_set_58 rfl rfl ?_
  refine E_ic (v := 3) d_Mo_set_59 (by decide) ?_
  refine E_jne (tgt := 73) d_Mo_set_60 (by decide) (fun c => ?_) (fun c => ?_)
  · rw [if_neg c] at hq
    exact t_Mo_set_73 (by omega) hq
  · rw [if_pos c] at hq
    refine E_aln 0 d_Mo_set_63 rfl rfl ?_
    obtain ⟨v1, ev1, hq⟩ := bd hq
    refine E_gR d_Mo_set_64 lk_Mo_7 rfl ev1 ?_
    refine E_bi (v := 73) d_Mo_set_67 (by decide) ?_
    refine E_iln 2 d_Mo_set_69 rfl rfl ?_
    refine E_iadd d_Mo_set_70 ?_
    refine E_iln 3 d_Mo_set_71 rfl rfl ?_
    obtain ⟨h2, eh2, hq⟩ := bd hq
    refine E_wa d_Mo_set_72 eh2 ?_
    exact t_Mo_set_73 (by omega) hq
def f_Mo_set_46 (a0 : Nat) (x1 : Int32) (x2 : Int32) (x3 : Int32) (h : PH) : Option (Int32 × PH) :=
  if x1 = 2 then
    (ldR h 9 a0 9).bind fun v1 =>
    (wrA h v1 x2 x3).bind fun h2 =>
    f_Mo_set_58 a0 x1 x2 x3 h2
  else
    f_Mo_set_58 a0 x1 x2 x3 h
theorem t_Mo_set_46 {d : Nat} (hd : 2 ≤ d) {a0 : Nat} {x1 : Int32} {x2 : Int32} {x3 : Int32} {h : PH} {r : Int32 × PH} (hq : f_Mo_set_46 a0 x1 x2 x3 h = some r) : E d 0 0 m_Mo_set 46 [(0, .ref a0), (1, .int x1), (2, .int x2), (3, .int x3)] [] h (PI r) := by
  unfold f_Mo_set_46 at hq
  obtain ⟨d, rfl⟩ : ∃ e, d = e + 1 := ⟨d - 1, by omega⟩
  refine E_iln 1 d_Mo_set_46 rfl rfl ?_
  refine E_ic (v := 2) d_Mo_set_47 (by decide) ?_
  refine E_jne (tgt := 58) d_Mo_set_48 (by decide) (fun c => ?_) (fun c => ?_)
  · rw [if_neg c] at hq
    exact t_Mo_set_58 (by omega) hq
  · rw [if_pos c] at hq
    refine E_aln 0 d_Mo_set_51 rfl rfl ?_
    obtain ⟨v1, ev1, hq⟩ := bd hq
    refine E_gR d_Mo_set_52 lk_Mo_22 rfl ev1 ?_
    refine E_iln 2 d_Mo_set_55 rfl rfl ?_
    refine E_iln 3 d_Mo_set_56 rfl rfl ?_
    obtain ⟨h2, eh2, hq⟩ := bd hq
    refine E_wa d_Mo_set_57 eh2 ?_
    exact t_Mo_set_58 (by omega) hq
def f_Mo_set_31 (a0 : Nat) (x1 : Int32) (x2 : Int32) (x3 : Int32) (h : PH) : Option (Int32 × PH) :=
  if x1 = 1 then
    (ldR h 9 a0 1).bind fun v1 =>
    (wrA h v1 (19 + x2) x3).bind fun h2 =>
    f_Mo_set_46 a0 x1 x2 x3 h2
  else
    f_Mo_set_46 a0 x1 x2 x3 h
theorem t_Mo_set_31 {d : Nat} (hd : 2 ≤ d) {a0 : Nat} {x1 : Int32} {x2 : Int32} {x3 : Int32} {h : PH} {r : Int32 × PH} (hq : f_Mo_set_31 a0 x1 x2 x3 h = some r) : E d 0 0 m_Mo_set 31 [(0, .ref a0), (1, .int x1), (2, .int x2), (3, .int x3)] [] h (PI r) := by
  unfold f_Mo_set_31 at hq
  obtain ⟨d, rfl⟩ : ∃ e, d = e + 1 := ⟨d - 1, by omega⟩
  refine E_iln 1 d_Mo_set_31 rfl rfl ?_
  refine E_ic (v := 1) d_Mo_set_32 (by decide) ?_
  refine E_jne (tgt := 46) d_Mo_set_33 (by decide) (fun c => ?_) (fun c => ?_)
  · rw [if_neg c] at hq
    exact t_Mo_set_46 (by omega) hq
  · rw [if_pos c] at hq
    refine E_aln 0 d_Mo_set_36 rfl rfl ?_
    obtain ⟨v1, ev1, hq⟩ := bd hq
    refine E_gR d_Mo_set_37 lk_Mo_7 rfl ev1 ?_
    refine E_bi (v := 19) d_Mo_set_40 (by decide) ?_
    refine E_iln 2 d_Mo_set_42 rfl rfl ?_
    refine E_iadd d_Mo_set_43 ?_
    refine E_iln 3 d_Mo_set_44 rfl rfl ?_
    obtain ⟨h2, eh2, hq⟩ := bd hq
    refine E_wa d_Mo_set_45 eh2 ?_
    exact t_Mo_set_46 (by omega) hq
def f_Mo_set (a0 : Nat) (x1 : Int32) (x2 : Int32) (x3 : Int32) (h : PH) : Option (Int32 × PH) :=
  (stI h 9 a0 0 0).bind fun h1 =>
  (isO h1 9 a0).bind fun _ =>
  (f_Mo_canSet a0 x1 x2 x3 h1).bind fun p2 =>
  if p2.1 = 0 then
    rtZ 0 p2.2
  else
    if x1 = 0 then
      (ldR p2.2 9 a0 1).bind fun v4 =>
      (wrA p2.2 v4 (7 + x2) x3).bind fun h5 =>
      f_Mo_set_31 a0 x1 x2 x3 h5
    else
      f_Mo_set_31 a0 x1 x2 x3 p2.2
theorem t_Mo_set {d : Nat} (hd : 2 ≤ d) {a0 : Nat} {x1 : Int32} {x2 : Int32} {x3 : Int32} {h : PH} {r : Int32 × PH} (hq : f_Mo_set a0 x1 x2 x3 h = some r) : E d 0 0 m_Mo_set 0 [(0, .ref a0), (1, .int x1), (2, .int x2), (3, .int x3)] [] h (PI r) := by
  unfold f_Mo_set at hq
  obtain ⟨d, rfl⟩ : ∃ e, d = e + 1 := ⟨d - 1, by omega⟩
  refine E_aln 0 d_Mo_set_0 rfl rfl ?_
  refine E_ic (v := 0) d_Mo_set_1 (by decide) ?_
  obtain ⟨h1, eh1, hq⟩ := bd hq
  refine E_pI d_Mo_set_2 lp_Mo_m_140 rfl eh1 ?_
  refine E_aln 0 d_Mo_set_5 rfl rfl ?_
  refine E_iln 1 d_Mo_set_6 rfl rfl ?_
  refine E_iln 2 d_Mo_set_7 rfl rfl ?_
  refine E_iln 3 d_Mo_set_8 rfl rfl ?_
  obtain ⟨q3, eq3, hq⟩ := bd hq
  obtain ⟨p2, ep2, hq⟩ := bd hq
  refine E_cV3I d_Mo_set_9 ck_Mo_176 rfl rfl eq3 (Nat.le_of_ble_eq_true rfl) (Nat.le_of_ble_eq_true rfl) (t_Mo_canSet (by omega) ep2) ?_
  refine E_zne (tgt := 17) d_Mo_set_12 (by decide) (fun c => ?_) (fun c => ?_)
  · rw [if_neg c] at hq
    refine E_iln 1 d_Mo_set_17 rfl rfl ?_
    refine E_zne (tgt := 31) d_Mo_set_18 (by decide) (fun c => ?_) (fun c => ?_)
    · rw [if_neg c] at hq
      exact t_Mo_set_31 (by omega) hq
    · rw [if_pos c] at hq
      refine E_aln 0 d_Mo_set_21 rfl rfl ?_
      obtain ⟨v4, ev4, hq⟩ := bd hq
      refine E_gR d_Mo_set_22 lk_Mo_7 rfl ev4 ?_
      refine E_bi (v := 7) d_Mo_set_25 (by decide) ?_
      refine E_iln 2 d_Mo_set_27 rfl rfl ?_
      refine E_iadd d_Mo_set_28 ?_
      refine E_iln 3 d_Mo_set_29 rfl rfl ?_
      obtain ⟨h5, eh5, hq⟩ := bd hq
      refine E_wa d_Mo_set_30 eh5 ?_
      exact t_Mo_set_31 (by omega) hq
  · rw [if_pos c] at hq
    refine E_ic (v := 0) d_Mo_set_15 (by decide) ?_
    exact E_rZ d_Mo_set_16 rfl hq
def f_Mo_types_3 : Nat → Nat → Int32 → Int32 → PH → Option (PH)
  | 0, _, _, _, _ => none
  | n + 1, a0, x1, x2, h =>
    if x2 < 0 then
      some h
    else
      (ldR h 9 a0 13).bind fun v1 =>
      (ldI h 9 a0 14).bind fun v2 =>
      (wrA h v1 v2 ((jshr x1 x2) &&& 255)).bind fun h3 =>
      (ldI h3 9 a0 14).bind fun v4 =>
      (stI h3 9 a0 14 (v4 + 1)).bind fun h5 =>
      f_Mo_types_3 n a0 x1 (x2 + (-8)) h5
theorem t_Mo_types_3 {d : Nat} (hd : 0 ≤ d) : ∀ (n : Nat) (a0 : Nat) (x1 : Int32) (x2 : Int32) (h : PH) (r : PH), f_Mo_types_3 n a0 x1 x2 h = some r → E d 0 0 m_Mo_types 3 [(0, .ref a0), (1, .int x1), (2, .int x2)] [] h (PV r) := by
  intro n
  induction n with
  | zero => intro a0 x1 x2 h r hq; rw [f_Mo_types_3] at hq; cases hq
  | succ n ih =>
    intro a0 x1 x2 h r hq
    rw [f_Mo_types_3] at hq
    refine E_iln 2 d_Mo_types_3 rfl rfl ?_
    refine E_zlt (tgt := 39) d_Mo_types_4 (by decide) (fun c => ?_) (fun c => ?_)
    · rw [if_pos c] at hq
      exact E_rV d_Mo_types_39 rfl hq
    · rw [if_neg c] at hq
      refine E_aln 0 d_Mo_types_7 rfl rfl ?_
      obtain ⟨v1, ev1, hq⟩ := bd hq
      refine E_gR d_Mo_types_8 lk_Mo_34 rfl ev1 ?_
      refine E_aln 0 d_Mo_types_11 rfl rfl ?_
      obtain ⟨v2, ev2, hq⟩ := bd hq
      refine E_gI d_Mo_types_12 lk_Mo_179 rfl ev2 ?_
      refine E_iln 1 d_Mo_types_15 rfl rfl ?_
      refine E_iln 2 d_Mo_types_16 rfl rfl ?_
      refine E_ishr d_Mo_types_17 ?_
      refine E_si (v := 255) d_Mo_types_18 (by decide) ?_
      refine E_iand d_Mo_types_21 ?_
      obtain ⟨h3, eh3, hq⟩ := bd hq
      refine E_wa d_Mo_types_22 eh3 ?_
      refine E_aln 0 d_Mo_types_23 rfl rfl ?_
      refine E_aln 0 d_Mo_types_24 rfl rfl ?_
      obtain ⟨v4, ev4, hq⟩ := bd hq
      refine E_gI d_Mo_types_25 lk_Mo_179 rfl ev4 ?_
      refine E_ic (v := 1) d_Mo_types_28 (by decide) ?_
      refine E_iadd d_Mo_types_29 ?_
      obtain ⟨h5, eh5, hq⟩ := bd hq
      refine E_pI d_Mo_types_30 lp_Mo_m_179 rfl eh5 ?_
      refine E_inc (v := (-8)) (ls' := [(2, .int (x2 + (-8))), (0, .ref a0), (1, .int x1)]) 2 d_Mo_types_33 rfl (Nat.le_of_ble_eq_true rfl) (by decide) rfl ?_
      refine E_goto (tgt := 3) d_Mo_types_36 (by decide) ?_
      exact E_sub (ks := [1, 2, 0]) rfl <| ih _ _ _ _ _ hq
def f_Mo_types (a0 : Nat) (x1 : Int32) (h : PH) : Option (PH) :=
  f_Mo_types_3 FU a0 x1 24 h
theorem t_Mo_types {d : Nat} (hd : 0 ≤ d) {a0 : Nat} {x1 : Int32} {h : PH} {r : PH} (hq : f_Mo_types a0 x1 h = some r) : E d 0 0 m_Mo_types 0 [(0, .ref a0), (1, .int x1)] [] h (PV r) := by
  unfold f_Mo_types at hq
  refine E_bi (v := 24) d_Mo_types_0 (by decide) ?_
  refine E_isn (ls' := [(2, .int 24), (0, .ref a0), (1, .int x1)]) d_Mo_types_2 (Nat.le_of_ble_eq_true rfl) rfl ?_
  exact E_sub (ks := [1, 2, 0]) rfl <| t_Mo_types_3 (by omega) _ _ _ _ _ _ hq
def f_Mo_feed (a0 : Nat) (x1 : Int32) (x2 : Int32) (x3 : Int32) (x4 : Int32) (x5 : Int32) (h : PH) : Option (Int32 × PH) :=
  (stI h 9 a0 0 0).bind fun h1 =>
  (ldI h1 9 a0 14).bind fun v2 =>
  if v2 ≤ 380 then
    (isO h1 9 a0).bind fun _ =>
    (f_Mo_types a0 x1 h1).bind fun h3 =>
    (isO h3 9 a0).bind fun _ =>
    (f_Mo_types a0 x2 h3).bind fun h5 =>
    (isO h5 9 a0).bind fun _ =>
    (f_Mo_types a0 x3 h5).bind fun h7 =>
    (isO h7 9 a0).bind fun _ =>
    (f_Mo_types a0 x4 h7).bind fun h9 =>
    (isO h9 9 a0).bind fun _ =>
    (f_Mo_types a0 x5 h9).bind fun h11 =>
    (ldI h11 9 a0 14).bind fun v13 =>
    some (v13, h11)
  else
    some ((-1), h1)
theorem t_Mo_feed {d : Nat} (hd : 1 ≤ d) {a0 : Nat} {x1 : Int32} {x2 : Int32} {x3 : Int32} {x4 : Int32} {x5 : Int32} {h : PH} {r : Int32 × PH} (hq : f_Mo_feed a0 x1 x2 x3 x4 x5 h = some r) : E d 0 0 m_Mo_feed 0 [(0, .ref a0), (1, .int x1), (2, .int x2), (3, .int x3), (4, .int x4), (5, .int x5)] [] h (PI r) := by
  unfold f_Mo_feed at hq
  obtain ⟨d, rfl⟩ : ∃ e, d = e + 1 := ⟨d - 1, by omega⟩
  refine E_aln 0 d_Mo_feed_0 rfl rfl ?_
  refine E_ic (v := 0) d_Mo_feed_1 (by decide) ?_
  obtain ⟨h1, eh1, hq⟩ := bd hq
  refine E_pI d_Mo_feed_2 lp_Mo_m_140 rfl eh1 ?_
  refine E_aln 0 d_Mo_feed_5 rfl rfl ?_
  obtain ⟨v2, ev2, hq⟩ := bd hq
  refine E_gI d_Mo_feed_6 lk_Mo_179 rfl ev2 ?_
  refine E_si (v := 380) d_Mo_feed_9 (by decide) ?_
  refine E_jle (tgt := 17) d_Mo_feed_12 (by decide) (fun c => ?_) (fun c => ?_)
  · rw [if_pos c] at hq
    refine E_aln 0 d_Mo_feed_17 rfl rfl ?_
    refine E_iln 1 d_Mo_feed_18 rfl rfl ?_
    obtain ⟨q4, eq4, hq⟩ := bd hq
    obtain ⟨h3, eh3, hq⟩ := bd hq
    refine E_cV1V d_Mo_feed_19 ck_Mo_182 rfl rfl eq4 (Nat.le_of_ble_eq_true rfl) (Nat.le_of_ble_eq_true rfl) (t_Mo_types (by omega) eh3) ?_
    refine E_aln 0 d_Mo_feed_22 rfl rfl ?_
    refine E_iln 2 d_Mo_feed_23 rfl rfl ?_
    obtain ⟨q6, eq6, hq⟩ := bd hq
    obtain ⟨h5, eh5, hq⟩ := bd hq
    refine E_cV1V d_Mo_feed_24 ck_Mo_182 rfl rfl eq6 (Nat.le_of_ble_eq_true rfl) (Nat.le_of_ble_eq_true rfl) (t_Mo_types (by omega) eh5) ?_
    refine E_aln 0 d_Mo_feed_27 rfl rfl ?_
    refine E_iln 3 d_Mo_feed_28 rfl rfl ?_
    obtain ⟨q8, eq8, hq⟩ := bd hq
    obtain ⟨h7, eh7, hq⟩ := bd hq
    refine E_cV1V d_Mo_feed_29 ck_Mo_182 rfl rfl eq8 (Nat.le_of_ble_eq_true rfl) (Nat.le_of_ble_eq_true rfl) (t_Mo_types (by omega) eh7) ?_
    refine E_aln 0 d_Mo_feed_32 rfl rfl ?_
    refine E_il 4 d_Mo_feed_33 rfl ?_
    obtain ⟨q10, eq10, hq⟩ := bd hq
    obtain ⟨h9, eh9, hq⟩ := bd hq
    refine E_cV1V d_Mo_feed_35 ck_Mo_182 rfl rfl eq10 (Nat.le_of_ble_eq_true rfl) (Nat.le_of_ble_eq_true rfl) (t_Mo_types (by omega) eh9) ?_
    refine E_aln 0 d_Mo_feed_38 rfl rfl ?_
    refine E_il 5 d_Mo_feed_39 rfl ?_
    obtain ⟨q12, eq12, hq⟩ := bd hq
    obtain ⟨h11, eh11, hq⟩ := bd hq
    refine E_cV1V d_Mo_feed_41 ck_Mo_182 rfl rfl eq12 (Nat.le_of_ble_eq_true rfl) (Nat.le_of_ble_eq_true rfl) (t_Mo_types (by omega) eh11) ?_
    refine E_aln 0 d_Mo_feed_44 rfl rfl ?_
    obtain ⟨v13, ev13, hq⟩ := bd hq
    refine E_gI d_Mo_feed_45 lk_Mo_179 rfl ev13 ?_
    exact E_rI d_Mo_feed_48 rfl hq
  · rw [if_neg c] at hq
    refine E_ic (v := (-1)) d_Mo_feed_15 (by decide) ?_
    exact E_rI d_Mo_feed_16 rfl hq
def f_Mo_end (a0 : Nat) (x1 : Int32) (h : PH) : Option (Int32 × PH) :=
  (stI h 9 a0 0 0).bind fun h1 =>
  (ldI h1 9 a0 14).bind fun v2 =>
  (isO h1 9 a0).bind fun _ =>
  (f_Mo_isIn a0 x1 0 v2 h1).bind fun p3 =>
  if p3.1 = 0 then
    rtZ 0 p3.2
  else
    (stI p3.2 9 a0 14 x1).bind fun h5 =>
    rtZ 1 h5
theorem t_Mo_end {d : Nat} (hd : 1 ≤ d) {a0 : Nat} {x1 : Int32} {h : PH} {r : Int32 × PH} (hq : f_Mo_end a0 x1 h = some r) : E d 0 0 m_Mo_end 0 [(0, .ref a0), (1, .int x1)] [] h (PI r) := by
  unfold f_Mo_end at hq
  obtain ⟨d, rfl⟩ : ∃ e, d = e + 1 := ⟨d - 1, by omega⟩
  refine E_aln 0 d_Mo_end_0 rfl rfl ?_
  refine E_ic (v := 0) d_Mo_end_1 (by decide) ?_
  obtain ⟨h1, eh1, hq⟩ := bd hq
  refine E_pI d_Mo_end_2 lp_Mo_m_140 rfl eh1 ?_
  refine E_aln 0 d_Mo_end_5 rfl rfl ?_
  refine E_iln 1 d_Mo_end_6 rfl rfl ?_
  refine E_ic (v := 0) d_Mo_end_7 (by decide) ?_
  refine E_aln 0 d_Mo_end_8 rfl rfl ?_
  obtain ⟨v2, ev2, hq⟩ := bd hq
  refine E_gI d_Mo_end_9 lk_Mo_179 rfl ev2 ?_
  obtain ⟨q4, eq4, hq⟩ := bd hq
  obtain ⟨p3, ep3, hq⟩ := bd hq
  refine E_cV3I d_Mo_end_12 ck_Mo_162 rfl rfl eq4 (Nat.le_of_ble_eq_true rfl) (Nat.le_of_ble_eq_true rfl) (t_Mo_isIn (by omega) ep3) ?_
  refine E_zne (tgt := 20) d_Mo_end_15 (by decide) (fun c => ?_) (fun c => ?_)
  · rw [if_neg c] at hq
    refine E_aln 0 d_Mo_end_20 rfl rfl ?_
    refine E_iln 1 d_Mo_end_21 rfl rfl ?_
    obtain ⟨h5, eh5, hq⟩ := bd hq
    refine E_pI d_Mo_end_22 lp_Mo_m_179 rfl eh5 ?_
    refine E_ic (v := 1) d_Mo_end_25 (by decide) ?_
    exact E_rZ d_Mo_end_26 rfl hq
  · rw [if_pos c] at hq
    refine E_ic (v := 0) d_Mo_end_18 (by decide) ?_
    exact E_rZ d_Mo_end_19 rfl hq
def f_Mo_raw (a0 : Nat) (x1 : Int32) (h : PH) : Option (Int32 × PH) :=
  (ldI h 9 a0 14).bind fun v1 =>
  if v1 ≤ x1 then
    some ((-1), h)
  else
    (ldR h 9 a0 13).bind fun v2 =>
    (rdA h v2 x1).bind fun v3 =>
    some (v3, h)
theorem t_Mo_raw {d : Nat} (hd : 0 ≤ d) {a0 : Nat} {x1 : Int32} {h : PH} {r : Int32 × PH} (hq : f_Mo_raw a0 x1 h = some r) : E d 0 0 m_Mo_raw 0 [(0, .ref a0), (1, .int x1)] [] h (PI r) := by
  unfold f_Mo_raw at hq
  refine E_iln 1 d_Mo_raw_0 rfl rfl ?_
  refine E_aln 0 d_Mo_raw_1 rfl rfl ?_
  obtain ⟨v1, ev1, hq⟩ := bd hq
  refine E_gI d_Mo_raw_2 lk_Mo_179 rfl ev1 ?_
  refine E_jge (tgt := 17) d_Mo_raw_5 (by decide) (fun c => ?_) (fun c => ?_)
  · rw [if_pos c] at hq
    refine E_ic (v := (-1)) d_Mo_raw_17 (by decide) ?_
    exact E_rI d_Mo_raw_18 rfl hq
  · rw [if_neg c] at hq
    refine E_aln 0 d_Mo_raw_8 rfl rfl ?_
    obtain ⟨v2, ev2, hq⟩ := bd hq
    refine E_gR d_Mo_raw_9 lk_Mo_34 rfl ev2 ?_
    refine E_iln 1 d_Mo_raw_12 rfl rfl ?_
    obtain ⟨v3, ev3, hq⟩ := bd hq
    refine E_ra d_Mo_raw_13 ev3 ?_
    refine E_goto (tgt := 18) d_Mo_raw_14 (by decide) ?_
    exact E_rI d_Mo_raw_18 rfl hq
def f_Mo_isLetter_24 (h : PH) : Option (Int32 × PH) :=
  rtZ 1 h
theorem t_Mo_isLetter_24 {d : Nat} (hd : 1 ≤ d) {h : PH} {r : Int32 × PH} (hq : f_Mo_isLetter_24 h = some r) : E d 0 0 m_Mo_isLetter 24 [] [] h (PI r) := by
  unfold f_Mo_isLetter_24 at hq
  obtain ⟨d, rfl⟩ : ∃ e, d = e + 1 := ⟨d - 1, by omega⟩
  refine E_ic (v := 1) d_Mo_isLetter_24 (by decide) ?_
  refine E_goto (tgt := 29) d_Mo_isLetter_25 (by decide) ?_
  exact E_rZ d_Mo_isLetter_29 rfl hq
def f_Mo_isLetter (a0 : Nat) (x1 : Int32) (h : PH) : Option (Int32 × PH) :=
  (isO h 9 a0).bind fun _ =>
  (f_Mo_isIn a0 x1 97 122 h).bind fun p1 =>
  if p1.1 = 0 then
    (isO p1.2 9 a0).bind fun _ =>
    (f_Mo_isIn a0 x1 65 90 p1.2).bind fun p3 =>
    if p3.1 = 0 then
      rtZ 0 p3.2
    else
      f_Mo_isLetter_24  p3.2
  else
    f_Mo_isLetter_24  p1.2
theorem t_Mo_isLetter {d : Nat} (hd : 1 ≤ d) {a0 : Nat} {x1 : Int32} {h : PH} {r : Int32 × PH} (hq : f_Mo_isLetter a0 x1 h = some r) : E d 0 0 m_Mo_isLetter 0 [(0, .ref a0), (1, .int x1)] [] h (PI r) := by
  unfold f_Mo_isLetter at hq
  obtain ⟨d, rfl⟩ : ∃ e, d = e + 1 := ⟨d - 1, by omega⟩
  refine E_aln 0 d_Mo_isLetter_0 rfl rfl ?_
  refine E_iln 1 d_Mo_isLetter_1 rfl rfl ?_
  refine E_bi (v := 97) d_Mo_isLetter_2 (by decide) ?_
  refine E_bi (v := 122) d_Mo_isLetter_4 (by decide) ?_
  obtain ⟨q2, eq2, hq⟩ := bd hq
  obtain ⟨p1, ep1, hq⟩ := bd hq
  refine E_cV3I d_Mo_isLetter_6 ck_Mo_162 rfl rfl eq2 (Nat.le_of_ble_eq_true rfl) (Nat.le_of_ble_eq_true rfl) (t_Mo_isIn (by omega) ep1) ?_
  refine E_zne (tgt := 24) d_Mo_isLetter_9 (by decide) (fun c => ?_) (fun c => ?_)
  · rw [if_neg c] at hq
    exact E_sub (ks := []) rfl <| t_Mo_isLetter_24 (by omega) hq
  · rw [if_pos c] at hq
    refine E_aln 0 d_Mo_isLetter_12 rfl rfl ?_
    refine E_iln 1 d_Mo_isLetter_13 rfl rfl ?_
    refine E_bi (v := 65) d_Mo_isLetter_14 (by decide) ?_
    refine E_bi (v := 90) d_Mo_isLetter_16 (by decide) ?_
    obtain ⟨q4, eq4, hq⟩ := bd hq
    obtain ⟨p3, ep3, hq⟩ := bd hq
    refine E_cV3I d_Mo_isLetter_18 ck_Mo_162 rfl rfl eq4 (Nat.le_of_ble_eq_true rfl) (Nat.le_of_ble_eq_true rfl) (t_Mo_isIn (by omega) ep3) ?_
    refine E_zeq (tgt := 28) d_Mo_isLetter_21 (by decide) (fun c => ?_) (fun c => ?_)
    · rw [if_pos c] at hq
      refine E_ic (v := 0) d_Mo_isLetter_28 (by decide) ?_
      exact E_rZ d_Mo_isLetter_29 rfl hq
    · rw [if_neg c] at hq
      exact E_sub (ks := []) rfl <| t_Mo_isLetter_24 (by omega) hq
def f_Mo_wordAt_94 (k5 : Nat → Int32 → Int32 → Int32 → Int32 → PH → Option (Int32 × PH)) : Nat → Nat → Int32 → Int32 → Int32 → Int32 → PH → Option (Int32 × PH)
  | 0, _, _, _, _, _, _ => none
  | n + 1, a0, x1, x2, x3, x4, h =>
    (ldR h 9 a0 19).bind fun v1 =>
    (rdA h v1 x4).bind fun v2 =>
    if v2 = 32 then
      k5 a0 x1 x2 x3 x4 h
    else
      f_Mo_wordAt_94 k5 n a0 x1 x2 x3 (x4 + 1) h
theorem t_Mo_wordAt_94 {d : Nat} (hd : 0 ≤ d) {k5 : Nat → Int32 → Int32 → Int32 → Int32 → PH → Option (Int32 × PH)} (hk5 : ∀ (a0 : Nat) (x1 : Int32) (x2 : Int32) (x3 : Int32) (x4 : Int32) (h : PH) (r : Int32 × PH), k5 a0 x1 x2 x3 x4 h = some r → E d 0 0 m_Mo_wordAt 5 [(0, .ref a0), (1, .int x1), (2, .int x2), (3, .int x3), (4, .int x4)] [] h (PI r)) : ∀ (n : Nat) (a0 : Nat) (x1 : Int32) (x2 : Int32) (x3 : Int32) (x4 : Int32) (h : PH) (r : Int32 × PH), f_Mo_wordAt_94 k5 n a0 x1 x2 x3 x4 h = some r → E d 0 0 m_Mo_wordAt 94 [(0, .ref a0), (1, .int x1), (2, .int x2), (3, .int x3), (4, .int x4)] [] h (PI r) := by
  intro n
  induction n with
  | zero => intro a0 x1 x2 x3 x4 h r hq; rw [f_Mo_wordAt_94] at hq; cases hq
  | succ n ih =>
    intro a0 x1 x2 x3 x4 h r hq
    rw [f_Mo_wordAt_94] at hq
    refine E_aln 0 d_Mo_wordAt_94 rfl rfl ?_
    obtain ⟨v1, ev1, hq⟩ := bd hq
    refine E_gR d_Mo_wordAt_95 lk_Mo_37 rfl ev1 ?_
    refine E_il 4 d_Mo_wordAt_98 rfl ?_
    obtain ⟨v2, ev2, hq⟩ := bd hq
    refine E_ra d_Mo_wordAt_100 ev2 ?_
    refine E_bi (v := 32) d_Mo_wordAt_101 (by decide) ?_
    refine E_jeq (tgt := 115) d_Mo_wordAt_103 (by decide) (fun c => ?_) (fun c => ?_)
    · rw [if_pos c] at hq
      refine E_goto (tgt := 5) d_Mo_wordAt_115 (by decide) ?_
      exact hk5 _ _ _ _ _ _ _ hq
    · rw [if_neg c] at hq
      refine E_il 4 d_Mo_wordAt_106 rfl ?_
      refine E_ic (v := 1) d_Mo_wordAt_108 (by decide) ?_
      refine E_iadd d_Mo_wordAt_109 ?_
      refine E_is (ls' := [(4, .int (x4 + 1)), (0, .ref a0), (1, .int x1), (2, .int x2), (3, .int x3)]) d_Mo_wordAt_110 (Nat.le_of_ble_eq_true rfl) rfl ?_
      refine E_goto (tgt := 94) d_Mo_wordAt_112 (by decide) ?_
      exact E_sub (ks := [1, 2, 3, 4, 0]) rfl <| ih _ _ _ _ _ _ _ hq
def f_Mo_wordAt_88 (k5 : Nat → Int32 → Int32 → Int32 → Int32 → PH → Option (Int32 × PH)) (a0 : Nat) (x1 : Int32) (x2 : Int32) (x3 : Int32) (x4 : Int32) (h : PH) : Option (Int32 × PH) :=
  f_Mo_wordAt_94 k5 FU a0 x1 x2 x3 (x4 + 1) h
theorem t_Mo_wordAt_88 {d : Nat} (hd : 0 ≤ d) {k5 : Nat → Int32 → Int32 → Int32 → Int32 → PH → Option (Int32 × PH)} (hk5 : ∀ (a0 : Nat) (x1 : Int32) (x2 : Int32) (x3 : Int32) (x4 : Int32) (h : PH) (r : Int32 × PH), k5 a0 x1 x2 x3 x4 h = some r → E d 0 0 m_Mo_wordAt 5 [(0, .ref a0), (1, .int x1), (2, .int x2), (3, .int x3), (4, .int x4)] [] h (PI r)) {a0 : Nat} {x1 : Int32} {x2 : Int32} {x3 : Int32} {x4 : Int32} {h : PH} {r : Int32 × PH} (hq : f_Mo_wordAt_88 k5 a0 x1 x2 x3 x4 h = some r) : E d 0 0 m_Mo_wordAt 88 [(0, .ref a0), (1, .int x1), (2, .int x2), (3, .int x3), (4, .int x4)] [] h (PI r) := by
  unfold f_Mo_wordAt_88 at hq
  refine E_il 4 d_Mo_wordAt_88 rfl ?_
  refine E_ic (v := 1) d_Mo_wordAt_90 (by decide) ?_
  refine E_iadd d_Mo_wordAt_91 ?_
  refine E_is (ls' := [(4, .int (x4 + 1)), (0, .ref a0), (1, .int x1), (2, .int x2), (3, .int x3)]) d_Mo_wordAt_92 (Nat.le_of_ble_eq_true rfl) rfl ?_
  exact E_sub (ks := [1, 2, 3, 4, 0]) rfl <| t_Mo_wordAt_94 (by omega) hk5 _ _ _ _ _ _ _ _ hq
def f_Mo_wordAt_61 (k5 : Nat → Int32 → Int32 → Int32 → Int32 → PH → Option (Int32 × PH)) (a0 : Nat) (x1 : Int32) (x2 : Int32) (x3 : Int32) (x4 : Int32) (x5 : Int32) (h : PH) : Option (Int32 × PH) :=
  if (x1 + x5) = x2 then
    (ldR h 9 a0 19).bind fun v1 =>
    (rdA h v1 ((x4 + 1) + x5)).bind fun v2 =>
    if v2 = 32 then
      some (x3, h)
    else
      f_Mo_wordAt_88 k5 a0 x1 x2 x3 x4 h
  else
    f_Mo_wordAt_88 k5 a0 x1 x2 x3 x4 h
theorem t_Mo_wordAt_61 {d : Nat} (hd : 0 ≤ d) {k5 : Nat → Int32 → Int32 → Int32 → Int32 → PH → Option (Int32 × PH)} (hk5 : ∀ (a0 : Nat) (x1 : Int32) (x2 : Int32) (x3 : Int32) (x4 : Int32) (h : PH) (r : Int32 × PH), k5 a0 x1 x2 x3 x4 h = some r → E d 0 0 m_Mo_wordAt 5 [(0, .ref a0), (1, .int x1), (2, .int x2), (3, .int x3), (4, .int x4)] [] h (PI r)) {a0 : Nat} {x1 : Int32} {x2 : Int32} {x3 : Int32} {x4 : Int32} {x5 : Int32} {h : PH} {r : Int32 × PH} (hq : f_Mo_wordAt_61 k5 a0 x1 x2 x3 x4 x5 h = some r) : E d 0 0 m_Mo_wordAt 61 [(0, .ref a0), (1, .int x1), (2, .int x2), (3, .int x3), (4, .int x4), (5, .int x5)] [] h (PI r) := by
  unfold f_Mo_wordAt_61 at hq
  refine E_iln 1 d_Mo_wordAt_61 rfl rfl ?_
  refine E_il 5 d_Mo_wordAt_62 rfl ?_
  refine E_iadd d_Mo_wordAt_64 ?_
  refine E_iln 2 d_Mo_wordAt_65 rfl rfl ?_
  refine E_jne (tgt := 88) d_Mo_wordAt_66 (by decide) (fun c => ?_) (fun c => ?_)
  · rw [if_neg c] at hq
    exact E_sub (ks := [0, 1, 2, 3, 4]) rfl <| t_Mo_wordAt_88 (by omega) hk5 hq
  · rw [if_pos c] at hq
    refine E_aln 0 d_Mo_wordAt_69 rfl rfl ?_
    obtain ⟨v1, ev1, hq⟩ := bd hq
    refine E_gR d_Mo_wordAt_70 lk_Mo_37 rfl ev1 ?_
    refine E_il 4 d_Mo_wordAt_73 rfl ?_
    refine E_ic (v := 1) d_Mo_wordAt_75 (by decide) ?_
    refine E_iadd d_Mo_wordAt_76 ?_
    refine E_il 5 d_Mo_wordAt_77 rfl ?_
    refine E_iadd d_Mo_wordAt_79 ?_
    obtain ⟨v2, ev2, hq⟩ := bd hq
    refine E_ra d_Mo_wordAt_80 ev2 ?_
    refine E_bi (v := 32) d_Mo_wordAt_81 (by decide) ?_
    refine E_jne (tgt := 88) d_Mo_wordAt_83 (by decide) (fun c => ?_) (fun c => ?_)
    · rw [if_neg c] at hq
      exact E_sub (ks := [0, 1, 2, 3, 4]) rfl <| t_Mo_wordAt_88 (by omega) hk5 hq
    · rw [if_pos c] at hq
      refine E_iln 3 d_Mo_wordAt_86 rfl rfl ?_
      exact E_rI d_Mo_wordAt_87 rfl hq
def f_Mo_wordAt_20 (k5 : Nat → Int32 → Int32 → Int32 → Int32 → PH → Option (Int32 × PH)) : Nat → Nat → Int32 → Int32 → Int32 → Int32 → Int32 → PH → Option (Int32 × PH)
  | 0, _, _, _, _, _, _, _ => none
  | n + 1, a0, x1, x2, x3, x4, x5, h =>
    if x2 ≤ (x1 + x5) then
      f_Mo_wordAt_61 k5 a0 x1 x2 x3 x4 x5 h
    else
      (ldR h 9 a0 19).bind fun v1 =>
      (rdA h v1 ((x4 + 1) + x5)).bind fun v2 =>
      (ldR h 9 a0 13).bind fun v3 =>
      (rdA h v3 (x1 + x5)).bind fun v4 =>
      if v2 = v4 then
        f_Mo_wordAt_20 k5 n a0 x1 x2 x3 x4 (x5 + 1) h
      else
        f_Mo_wordAt_61 k5 a0 x1 x2 x3 x4 x5 h
theorem t_Mo_wordAt_20 {d : Nat} (hd : 0 ≤ d) {k5 : Nat → Int32 → Int32 → Int32 → Int32 → PH → Option (Int32 × PH)} (hk5 : ∀ (a0 : Nat) (x1 : Int32) (x2 : Int32) (x3 : Int32) (x4 : Int32) (h : PH) (r : Int32 × PH), k5 a0 x1 x2 x3 x4 h = some r → E d 0 0 m_Mo_wordAt 5 [(0, .ref a0), (1, .int x1), (2, .int x2), (3, .int x3), (4, .int x4)] [] h (PI r)) : ∀ (n : Nat) (a0 : Nat) (x1 : Int32) (x2 : Int32) (x3 : Int32) (x4 : Int32) (x5 : Int32) (h : PH) (r : Int32 × PH), f_Mo_wordAt_20 k5 n a0 x1 x2 x3 x4 x5 h = some r → E d 0 0 m_Mo_wordAt 20 [(0, .ref a0), (1, .int x1), (2, .int x2), (3, .int x3), (4, .int x4), (5, .int x5)] [] h (PI r) := by
  intro n
  induction n with
  | zero => intro a0 x1 x2 x3 x4 x5 h r hq; rw [f_Mo_wordAt_20] at hq; cases hq
  | succ n ih =>
    intro a0 x1 x2 x3 x4 x5 h r hq
    rw [f_Mo_wordAt_20] at hq
    refine E_iln 1 d_Mo_wordAt_20 rfl rfl ?_
    refine E_il 5 d_Mo_wordAt_21 rfl ?_
    refine E_iadd d_Mo_wordAt_23 ?_
    refine E_iln 2 d_Mo_wordAt_24 rfl rfl ?_
    refine E_jge (tgt := 61) d_Mo_wordAt_25 (by decide) (fun c => ?_) (fun c => ?_)
    · rw [if_pos c] at hq
      exact t_Mo_wordAt_61 (by omega) hk5 hq
    · rw [if_neg c] at hq
      refine E_aln 0 d_Mo_wordAt_28 rfl rfl ?_
      obtain ⟨v1, ev1, hq⟩ := bd hq
      refine E_gR d_Mo_wordAt_29 lk_Mo_37 rfl ev1 ?_
      refine E_il 4 d_Mo_wordAt_32 rfl ?_
      refine E_ic (v := 1) d_Mo_wordAt_34 (by decide) ?_
      refine E_iadd d_Mo_wordAt_35 ?_
      refine E_il 5 d_Mo_wordAt_36 rfl ?_
      refine E_iadd d_Mo_wordAt_38 ?_
      obtain ⟨v2, ev2, hq⟩ := bd hq
      refine E_ra d_Mo_wordAt_39 ev2 ?_
      refine E_aln 0 d_Mo_wordAt_40 rfl rfl ?_
      obtain ⟨v3, ev3, hq⟩ := bd hq
      refine E_gR d_Mo_wordAt_41 lk_Mo_34 rfl ev3 ?_
      refine E_iln 1 d_Mo_wordAt_44 rfl rfl ?_
      refine E_il 5 d_Mo_wordAt_45 rfl ?_
      refine E_iadd d_Mo_wordAt_47 ?_
      obtain ⟨v4, ev4, hq⟩ := bd hq
      refine E_ra d_Mo_wordAt_48 ev4 ?_
      refine E_jne (tgt := 61) d_Mo_wordAt_49 (by decide) (fun c => ?_) (fun c => ?_)
      · rw [if_neg c] at hq
        exact t_Mo_wordAt_61 (by omega) hk5 hq
      · rw [if_pos c] at hq
        refine E_il 5 d_Mo_wordAt_52 rfl ?_
        refine E_ic (v := 1) d_Mo_wordAt_54 (by decide) ?_
        refine E_iadd d_Mo_wordAt_55 ?_
        refine E_is (ls' := [(5, .int (x5 + 1)), (0, .ref a0), (1, .int x1), (2, .int x2), (3, .int x3), (4, .int x4)]) d_Mo_wordAt_56 (Nat.le_of_ble_eq_true rfl) rfl ?_
        refine E_goto (tgt := 20) d_Mo_wordAt_58 (by decide) ?_
        exact E_sub (ks := [1, 2, 3, 4, 5, 0]) rfl <| ih _ _ _ _ _ _ _ _ hq
def f_Mo_wordAt_5 : Nat → Nat → Int32 → Int32 → Int32 → Int32 → PH → Option (Int32 × PH)
  | 0, _, _, _, _, _, _ => none
  | n + 1, a0, x1, x2, x3, x4, h =>
    if 143 ≤ x4 then
      some ((-1), h)
    else
      f_Mo_wordAt_20 (fun a0 x1 x2 x3 x4 h => f_Mo_wordAt_5 n a0 x1 x2 x3 x4 h) FU a0 x1 x2 (x3 + 1) x4 0 h
theorem t_Mo_wordAt_5 {d : Nat} (hd : 0 ≤ d) : ∀ (n : Nat) (a0 : Nat) (x1 : Int32) (x2 : Int32) (x3 : Int32) (x4 : Int32) (h : PH) (r : Int32 × PH), f_Mo_wordAt_5 n a0 x1 x2 x3 x4 h = some r → E d 0 0 m_Mo_wordAt 5 [(0, .ref a0), (1, .int x1), (2, .int x2), (3, .int x3), (4, .int x4)] [] h (PI r) := by
  intro n
  induction n with
  | zero => intro a0 x1 x2 x3 x4 h r hq; rw [f_Mo_wordAt_5] at hq; cases hq
  | succ n ih =>
    intro a0 x1 x2 x3 x4 h r hq
    rw [f_Mo_wordAt_5] at hq
    refine E_il 4 d_Mo_wordAt_5 rfl ?_
    refine E_si (v := 143) d_Mo_wordAt_7 (by decide) ?_
    refine E_jge (tgt := 118) d_Mo_wordAt_10 (by decide) (fun c => ?_) (fun c => ?_)
    · rw [if_pos c] at hq
      refine E_ic (v := (-1)) d_Mo_wordAt_118 (by decide) ?_
      exact E_rI d_Mo_wordAt_119 rfl hq
    · rw [if_neg c] at hq
      refine E_ic (v := 0) d_Mo_wordAt_13 (by decide) ?_
      refine E_is (ls' := [(5, .int 0), (0, .ref a0), (1, .int x1), (2, .int x2), (3, .int x3), (4, .int x4)]) d_Mo_wordAt_14 (Nat.le_of_ble_eq_true rfl) rfl ?_
      refine E_iln 4 d_Mo_wordAt_16 rfl rfl ?_
      refine E_ic (v := 1) d_Mo_wordAt_17 (by decide) ?_
      refine E_iadd d_Mo_wordAt_18 ?_
      refine E_isn (ls' := [(3, .int (x3 + 1)), (5, .int 0), (0, .ref a0), (1, .int x1), (2, .int x2), (4, .int x4)]) d_Mo_wordAt_19 (Nat.le_of_ble_eq_true rfl) rfl ?_
      exact E_sub (ks := [2, 3, 4, 0, 5, 1]) rfl <| t_Mo_wordAt_20 (by omega) ih _ _ _ _ _ _ _ _ _ hq
def f_Mo_wordAt (a0 : Nat) (x1 : Int32) (x2 : Int32) (h : PH) : Option (Int32 × PH) :=
  f_Mo_wordAt_5 FU a0 x1 x2 (-1) 0 h
theorem t_Mo_wordAt {d : Nat} (hd : 0 ≤ d) {a0 : Nat} {x1 : Int32} {x2 : Int32} {h : PH} {r : Int32 × PH} (hq : f_Mo_wordAt a0 x1 x2 h = some r) : E d 0 0 m_Mo_wordAt 0 [(0, .ref a0), (1, .int x1), (2, .int x2)] [] h (PI r) := by
  unfold f_Mo_wordAt at hq
  refine E_ic (v := (-1)) d_Mo_wordAt_0 (by decide) ?_
  refine E_isn (ls' := [(3, .int (-1)), (0, .ref a0), (1, .int x1), (2, .int x2)]) d_Mo_wordAt_1 (Nat.le_of_ble_eq_true rfl) rfl ?_
  refine E_ic (v := 0) d_Mo_wordAt_2 (by decide) ?_
  refine E_is (ls' := [(4, .int 0), (3, .int (-1)), (0, .ref a0), (1, .int x1), (2, .int x2)]) d_Mo_wordAt_3 (Nat.le_of_ble_eq_true rfl) rfl ?_
  exact E_sub (ks := [2, 3, 4, 1, 0]) rfl <| t_Mo_wordAt_5 (by omega) _ _ _ _ _ _ _ _ hq
def f_Mo_isDigit (a0 : Nat) (x1 : Int32) (h : PH) : Option (Int32 × PH) :=
  (isO h 9 a0).bind fun _ =>
  (f_Mo_isIn a0 x1 48 57 h).bind fun p1 =>
  rtZ p1.1 p1.2
theorem t_Mo_isDigit {d : Nat} (hd : 1 ≤ d) {a0 : Nat} {x1 : Int32} {h : PH} {r : Int32 × PH} (hq : f_Mo_isDigit a0 x1 h = some r) : E d 0 0 m_Mo_isDigit 0 [(0, .ref a0), (1, .int x1)] [] h (PI r) := by
  unfold f_Mo_isDigit at hq
  obtain ⟨d, rfl⟩ : ∃ e, d = e + 1 := ⟨d - 1, by omega⟩
  refine E_aln 0 d_Mo_isDigit_0 rfl rfl ?_
  refine E_iln 1 d_Mo_isDigit_1 rfl rfl ?_
  refine E_bi (v := 48) d_Mo_isDigit_2 (by decide) ?_
  refine E_bi (v := 57) d_Mo_isDigit_4 (by decide) ?_
  obtain ⟨q2, eq2, hq⟩ := bd hq
  obtain ⟨p1, ep1, hq⟩ := bd hq
  refine E_cV3I d_Mo_isDigit_6 ck_Mo_162 rfl rfl eq2 (Nat.le_of_ble_eq_true rfl) (Nat.le_of_ble_eq_true rfl) (t_Mo_isIn (by omega) ep1) ?_
  exact E_rZ d_Mo_isDigit_9 rfl hq
def f_Mo_isMarkSign_60 (h : PH) : Option (Int32 × PH) :=
  rtZ 1 h
theorem t_Mo_isMarkSign_60 {d : Nat} (hd : 0 ≤ d) {h : PH} {r : Int32 × PH} (hq : f_Mo_isMarkSign_60 h = some r) : E d 0 0 m_Mo_isMarkSign 60 [] [] h (PI r) := by
  unfold f_Mo_isMarkSign_60 at hq
  refine E_ic (v := 1) d_Mo_isMarkSign_60 (by decide) ?_
  refine E_goto (tgt := 65) d_Mo_isMarkSign_61 (by decide) ?_
  exact E_rZ d_Mo_isMarkSign_65 rfl hq
def f_Mo_isMarkSign (a0 : Nat) (x1 : Int32) (h : PH) : Option (Int32 × PH) :=
  if x1 = 59 then
    f_Mo_isMarkSign_60  h
  else
    if x1 = 43 then
      f_Mo_isMarkSign_60  h
    else
      if x1 = 45 then
        f_Mo_isMarkSign_60  h
      else
        if x1 = 42 then
          f_Mo_isMarkSign_60  h
        else
          if x1 = 47 then
            f_Mo_isMarkSign_60  h
          else
            if x1 = 40 then
              f_Mo_isMarkSign_60  h
            else
              if x1 = 41 then
                f_Mo_isMarkSign_60  h
              else
                if x1 = 60 then
                  f_Mo_isMarkSign_60  h
                else
                  if x1 = 61 then
                    f_Mo_isMarkSign_60  h
                  else
                    if x1 = 62 then
                      f_Mo_isMarkSign_60  h
                    else
                      rtZ 0 h
theorem t_Mo_isMarkSign {d : Nat} (hd : 0 ≤ d) {a0 : Nat} {x1 : Int32} {h : PH} {r : Int32 × PH} (hq : f_Mo_isMarkSign a0 x1 h = some r) : E d 0 0 m_Mo_isMarkSign 0 [(0, .ref a0), (1, .int x1)] [] h (PI r) := by
  unfold f_Mo_isMarkSign at hq
  refine E_iln 1 d_Mo_isMarkSign_0 rfl rfl ?_
  refine E_bi (v := 59) d_Mo_isMarkSign_1 (by decide) ?_
  refine E_jeq (tgt := 60) d_Mo_isMarkSign_3 (by decide) (fun c => ?_) (fun c => ?_)
  · rw [if_pos c] at hq
    exact E_sub (ks := []) rfl <| t_Mo_isMarkSign_60 (by omega) hq
  · rw [if_neg c] at hq
    refine E_iln 1 d_Mo_isMarkSign_6 rfl rfl ?_
    refine E_bi (v := 43) d_Mo_isMarkSign_7 (by decide) ?_
    refine E_jeq (tgt := 60) d_Mo_isMarkSign_9 (by decide) (fun c => ?_) (fun c => ?_)
    · rw [if_pos c] at hq
      exact E_sub (ks := []) rfl <| t_Mo_isMarkSign_60 (by omega) hq
    · rw [if_neg c] at hq
      refine E_iln 1 d_Mo_isMarkSign_12 rfl rfl ?_
      refine E_bi (v := 45) d_Mo_isMarkSign_13 (by decide) ?_
      refine E_jeq (tgt := 60) d_Mo_isMarkSign_15 (by decide) (fun c => ?_) (fun c => ?_)
      · rw [if_pos c] at hq
        exact E_sub (ks := []) rfl <| t_Mo_isMarkSign_60 (by omega) hq
      · rw [if_neg c] at hq
        refine E_iln 1 d_Mo_isMarkSign_18 rfl rfl ?_
        refine E_bi (v := 42) d_Mo_isMarkSign_19 (by decide) ?_
        refine E_jeq (tgt := 60) d_Mo_isMarkSign_21 (by decide) (fun c => ?_) (fun c => ?_)
        · rw [if_pos c] at hq
          exact E_sub (ks := []) rfl <| t_Mo_isMarkSign_60 (by omega) hq
        · rw [if_neg c] at hq
          refine E_iln 1 d_Mo_isMarkSign_24 rfl rfl ?_
          refine E_bi (v := 47) d_Mo_isMarkSign_25 (by decide) ?_
          refine E_jeq (tgt := 60) d_Mo_isMarkSign_27 (by decide) (fun c => ?_) (fun c => ?_)
          · rw [if_pos c] at hq
            exact E_sub (ks := []) rfl <| t_Mo_isMarkSign_60 (by omega) hq
          · rw [if_neg c] at hq
            refine E_iln 1 d_Mo_isMarkSign_30 rfl rfl ?_
            refine E_bi (v := 40) d_Mo_isMarkSign_31 (by decide) ?_
            refine E_jeq (tgt := 60) d_Mo_isMarkSign_33 (by decide) (fun c => ?_) (fun c => ?_)
            · rw [if_pos c] at hq
              exact E_sub (ks := []) rfl <| t_Mo_isMarkSign_60 (by omega) hq
            · rw [if_neg c] at hq
              refine E_iln 1 d_Mo_isMarkSign_36 rfl rfl ?_
              refine E_bi (v := 41) d_Mo_isMarkSign_37 (by decide) ?_
              refine E_jeq (tgt := 60) d_Mo_isMarkSign_39 (by decide) (fun c => ?_) (fun c => ?_)
              · rw [if_pos c] at hq
                exact E_sub (ks := []) rfl <| t_Mo_isMarkSign_60 (by omega) hq
              · rw [if_neg c] at hq
                refine E_iln 1 d_Mo_isMarkSign_42 rfl rfl ?_
                refine E_bi (v := 60) d_Mo_isMarkSign_43 (by decide) ?_
                refine E_jeq (tgt := 60) d_Mo_isMarkSign_45 (by decide) (fun c => ?_) (fun c => ?_)
                · rw [if_pos c] at hq
                  exact E_sub (ks := []) rfl <| t_Mo_isMarkSign_60 (by omega) hq
                · rw [if_neg c] at hq
                  refine E_iln 1 d_Mo_isMarkSign_48 rfl rfl ?_
                  refine E_bi (v := 61) d_Mo_isMarkSign_49 (by decide) ?_
                  refine E_jeq (tgt := 60) d_Mo_isMarkSign_51 (by decide) (fun c => ?_) (fun c => ?_)
                  · rw [if_pos c] at hq
                    exact E_sub (ks := []) rfl <| t_Mo_isMarkSign_60 (by omega) hq
                  · rw [if_neg c] at hq
                    refine E_iln 1 d_Mo_isMarkSign_54 rfl rfl ?_
                    refine E_bi (v := 62) d_Mo_isMarkSign_55 (by decide) ?_
                    refine E_jne (tgt := 64) d_Mo_isMarkSign_57 (by decide) (fun c => ?_) (fun c => ?_)
                    · rw [if_neg c] at hq
                      refine E_ic (v := 0) d_Mo_isMarkSign_64 (by decide) ?_
                      exact E_rZ d_Mo_isMarkSign_65 rfl hq
                    · rw [if_pos c] at hq
                      exact E_sub (ks := []) rfl <| t_Mo_isMarkSign_60 (by omega) hq
def f_Mo_reads_26 (k0 : Nat → PH → Option (PH)) (a0 : Nat) (h : PH) : Option (PH) :=
  (ldI h 9 a0 15).bind fun v1 =>
  (stI h 9 a0 15 (v1 + 1)).bind fun h2 =>
  k0 a0 h2
theorem t_Mo_reads_26 {d : Nat} (hd : 2 ≤ d) {k0 : Nat → PH → Option (PH)} (hk0 : ∀ (a0 : Nat) (h : PH) (r : PH), k0 a0 h = some r → E d 0 0 m_Mo_reads 0 [(0, .ref a0)] [] h (PV r)) {a0 : Nat} {h : PH} {r : PH} (hq : f_Mo_reads_26 k0 a0 h = some r) : E d 0 0 m_Mo_reads 26 [(0, .ref a0)] [] h (PV r) := by
  unfold f_Mo_reads_26 at hq
  obtain ⟨d, rfl⟩ : ∃ e, d = e + 1 := ⟨d - 1, by omega⟩
  refine E_aln 0 d_Mo_reads_26 rfl rfl ?_
  refine E_aln 0 d_Mo_reads_27 rfl rfl ?_
  obtain ⟨v1, ev1, hq⟩ := bd hq
  refine E_gI d_Mo_reads_28 lk_Mo_186 rfl ev1 ?_
  refine E_ic (v := 1) d_Mo_reads_31 (by decide) ?_
  refine E_iadd d_Mo_reads_32 ?_
  obtain ⟨h2, eh2, hq⟩ := bd hq
  refine E_pI d_Mo_reads_33 lp_Mo_m_186 rfl eh2 ?_
  refine E_goto (tgt := 0) d_Mo_reads_36 (by decide) ?_
  exact hk0 _ _ _ hq
def f_Mo_reads_223 (k171 : Nat → PH → Option (PH)) (a0 : Nat) (s0 : Int32) (s1 : Nat) (h : PH) : Option (PH) :=
  (stI h 9 s1 18 s0).bind fun h1 =>
  (ldI h1 9 a0 15).bind fun v2 =>
  (stI h1 9 a0 15 (v2 + 1)).bind fun h3 =>
  k171 a0 h3
theorem t_Mo_reads_223 {d : Nat} (hd : 2 ≤ d) {k171 : Nat → PH → Option (PH)} (hk171 : ∀ (a0 : Nat) (h : PH) (r : PH), k171 a0 h = some r → E d 0 0 m_Mo_reads 171 [(0, .ref a0)] [] h (PV r)) {a0 : Nat} {s0 : Int32} {s1 : Nat} {h : PH} {r : PH} (hq : f_Mo_reads_223 k171 a0 s0 s1 h = some r) : E d 0 0 m_Mo_reads 223 [(0, .ref a0)] [.int s0, .ref s1] h (PV r) := by
  unfold f_Mo_reads_223 at hq
  obtain ⟨d, rfl⟩ : ∃ e, d = e + 1 := ⟨d - 1, by omega⟩
  obtain ⟨h1, eh1, hq⟩ := bd hq
  refine E_pI d_Mo_reads_223 lp_Mo_m_199 rfl eh1 ?_
  refine E_aln 0 d_Mo_reads_226 rfl rfl ?_
  refine E_aln 0 d_Mo_reads_227 rfl rfl ?_
  obtain ⟨v2, ev2, hq⟩ := bd hq
  refine E_gI d_Mo_reads_228 lk_Mo_186 rfl ev2 ?_
  refine E_ic (v := 1) d_Mo_reads_231 (by decide) ?_
  refine E_iadd d_Mo_reads_232 ?_
  obtain ⟨h3, eh3, hq⟩ := bd hq
  refine E_pI d_Mo_reads_233 lp_Mo_m_186 rfl eh3 ?_
  refine E_goto (tgt := 171) d_Mo_reads_236 (by decide) ?_
  exact hk171 _ _ _ hq
def f_Mo_reads_171 : Nat → Nat → PH → Option (PH)
  | 0, _, _ => none
  | n + 1, a0, h =>
    (ldI h 9 a0 15).bind fun v1 =>
    (isO h 9 a0).bind fun _ =>
    (f_Mo_raw a0 v1 h).bind fun p2 =>
    (isO p2.2 9 a0).bind fun _ =>
    (f_Mo_isDigit a0 p2.1 p2.2).bind fun p4 =>
    if p4.1 = 0 then
      (ldI p4.2 9 a0 15).bind fun v6 =>
      (ldI p4.2 9 a0 16).bind fun v7 =>
      if 5 ≤ (v6 - v7) then
        some p4.2
      else
        (stI p4.2 9 a0 17 3).bind fun h8 =>
        some h8
    else
      (ldI p4.2 9 a0 18).bind fun v9 =>
      if 10000 ≤ v9 then
        (ldI p4.2 9 a0 18).bind fun v10 =>
        f_Mo_reads_223 (fun a0 h => f_Mo_reads_171 n a0 h) a0 v10 a0 p4.2
      else
        (ldI p4.2 9 a0 18).bind fun v11 =>
        (ldI p4.2 9 a0 15).bind fun v12 =>
        (isO p4.2 9 a0).bind fun _ =>
        (f_Mo_raw a0 v12 p4.2).bind fun p13 =>
        f_Mo_reads_223 (fun a0 h => f_Mo_reads_171 n a0 h) a0 (((10 * v11) + p13.1) - 48) a0 p13.2
theorem t_Mo_reads_171 {d : Nat} (hd : 2 ≤ d) : ∀ (n : Nat) (a0 : Nat) (h : PH) (r : PH), f_Mo_reads_171 n a0 h = some r → E d 0 0 m_Mo_reads 171 [(0, .ref a0)] [] h (PV r) := by
  intro n
  induction n with
  | zero => intro a0 h r hq; rw [f_Mo_reads_171] at hq; cases hq
  | succ n ih =>
    intro a0 h r hq
    rw [f_Mo_reads_171] at hq
    obtain ⟨d, rfl⟩ : ∃ e, d = e + 1 := ⟨d - 1, by omega⟩
    refine E_aln 0 d_Mo_reads_171 rfl rfl ?_
    refine E_aln 0 d_Mo_reads_172 rfl rfl ?_
    refine E_aln 0 d_Mo_reads_173 rfl rfl ?_
    obtain ⟨v1, ev1, hq⟩ := bd hq
    refine E_gI d_Mo_reads_174 lk_Mo_186 rfl ev1 ?_
    obtain ⟨q3, eq3, hq⟩ := bd hq
    obtain ⟨p2, ep2, hq⟩ := bd hq
    refine E_cV1I d_Mo_reads_177 ck_Mo_189 rfl rfl eq3 (Nat.le_of_ble_eq_true rfl) (Nat.le_of_ble_eq_true rfl) (t_Mo_raw (by omega) ep2) ?_
    obtain ⟨q5, eq5, hq⟩ := bd hq
    obtain ⟨p4, ep4, hq⟩ := bd hq
    refine E_cV1I d_Mo_reads_180 ck_Mo_209 rfl rfl eq5 (Nat.le_of_ble_eq_true rfl) (Nat.le_of_ble_eq_true rfl) (t_Mo_isDigit (by omega) ep4) ?_
    refine E_zeq (tgt := 239) d_Mo_reads_183 (by decide) (fun c => ?_) (fun c => ?_)
    · rw [if_pos c] at hq
      refine E_aln 0 d_Mo_reads_239 rfl rfl ?_
      obtain ⟨v6, ev6, hq⟩ := bd hq
      refine E_gI d_Mo_reads_240 lk_Mo_186 rfl ev6 ?_
      refine E_aln 0 d_Mo_reads_243 rfl rfl ?_
      obtain ⟨v7, ev7, hq⟩ := bd hq
      refine E_gI d_Mo_reads_244 lk_Mo_193 rfl ev7 ?_
      refine E_isub d_Mo_reads_247 ?_
      refine E_ic (v := 5) d_Mo_reads_248 (by decide) ?_
      refine E_jge (tgt := 273) d_Mo_reads_249 (by decide) (fun c => ?_) (fun c => ?_)
      · rw [if_pos c] at hq
        exact E_rV d_Mo_reads_273 rfl hq
      · rw [if_neg c] at hq
        refine E_aln 0 d_Mo_reads_252 rfl rfl ?_
        refine E_ic (v := 3) d_Mo_reads_253 (by decide) ?_
        obtain ⟨h8, eh8, hq⟩ := bd hq
        refine E_pI d_Mo_reads_254 lp_Mo_m_196 rfl eh8 ?_
        refine E_goto (tgt := 273) d_Mo_reads_257 (by decide) ?_
        exact E_rV d_Mo_reads_273 rfl hq
    · rw [if_neg c] at hq
      refine E_aln 0 d_Mo_reads_186 rfl rfl ?_
      refine E_aln 0 d_Mo_reads_187 rfl rfl ?_
      obtain ⟨v9, ev9, hq⟩ := bd hq
      refine E_gI d_Mo_reads_188 lk_Mo_199 rfl ev9 ?_
      refine E_si (v := 10000) d_Mo_reads_191 (by decide) ?_
      refine E_jge (tgt := 219) d_Mo_reads_194 (by decide) (fun c => ?_) (fun c => ?_)
      · rw [if_pos c] at hq
        refine E_aln 0 d_Mo_reads_219 rfl rfl ?_
        obtain ⟨v10, ev10, hq⟩ := bd hq
        refine E_gI d_Mo_reads_220 lk_Mo_199 rfl ev10 ?_
        exact t_Mo_reads_223 (by omega) ih hq
      · rw [if_neg c] at hq
        refine E_bi (v := 10) d_Mo_reads_197 (by decide) ?_
        refine E_aln 0 d_Mo_reads_199 rfl rfl ?_
        obtain ⟨v11, ev11, hq⟩ := bd hq
        refine E_gI d_Mo_reads_200 lk_Mo_199 rfl ev11 ?_
        refine E_imul d_Mo_reads_203 ?_
        refine E_aln 0 d_Mo_reads_204 rfl rfl ?_
        refine E_aln 0 d_Mo_reads_205 rfl rfl ?_
        obtain ⟨v12, ev12, hq⟩ := bd hq
        refine E_gI d_Mo_reads_206 lk_Mo_186 rfl ev12 ?_
        obtain ⟨q14, eq14, hq⟩ := bd hq
        obtain ⟨p13, ep13, hq⟩ := bd hq
        refine E_cV1I d_Mo_reads_209 ck_Mo_189 rfl rfl eq14 (Nat.le_of_ble_eq_true rfl) (Nat.le_of_ble_eq_true rfl) (t_Mo_raw (by omega) ep13) ?_
        refine E_iadd d_Mo_reads_212 ?_
        refine E_bi (v := 48) d_Mo_reads_213 (by decide) ?_
        refine E_isub d_Mo_reads_215 ?_
        refine E_goto (tgt := 223) d_Mo_reads_216 (by decide) ?_
        exact t_Mo_reads_223 (by omega) ih hq
def f_Mo_reads_95 : Nat → Nat → PH → Option (PH)
  | 0, _, _ => none
  | n + 1, a0, h =>
    (ldI h 9 a0 15).bind fun v1 =>
    (isO h 9 a0).bind fun _ =>
    (f_Mo_raw a0 v1 h).bind fun p2 =>
    (isO p2.2 9 a0).bind fun _ =>
    (f_Mo_isLetter a0 p2.1 p2.2).bind fun p4 =>
    if p4.1 = 0 then
      (ldI p4.2 9 a0 16).bind fun v6 =>
      (ldI p4.2 9 a0 15).bind fun v7 =>
      (isO p4.2 9 a0).bind fun _ =>
      (f_Mo_wordAt a0 v6 v7 p4.2).bind fun p8 =>
      (stI p8.2 9 a0 18 p8.1).bind fun h10 =>
      (ldI h10 9 a0 18).bind fun v11 =>
      if v11 = (-1) then
        some h10
      else
        (stI h10 9 a0 17 2).bind fun h12 =>
        some h12
    else
      (ldI p4.2 9 a0 15).bind fun v13 =>
      (stI p4.2 9 a0 15 (v13 + 1)).bind fun h14 =>
      f_Mo_reads_95 n a0 h14
theorem t_Mo_reads_95 {d : Nat} (hd : 2 ≤ d) : ∀ (n : Nat) (a0 : Nat) (h : PH) (r : PH), f_Mo_reads_95 n a0 h = some r → E d 0 0 m_Mo_reads 95 [(0, .ref a0)] [] h (PV r) := by
  intro n
  induction n with
  | zero => intro a0 h r hq; rw [f_Mo_reads_95] at hq; cases hq
  | succ n ih =>
    intro a0 h r hq
    rw [f_Mo_reads_95] at hq
    obtain ⟨d, rfl⟩ : ∃ e, d = e + 1 := ⟨d - 1, by omega⟩
    refine E_aln 0 d_Mo_reads_95 rfl rfl ?_
    refine E_aln 0 d_Mo_reads_96 rfl rfl ?_
    refine E_aln 0 d_Mo_reads_97 rfl rfl ?_
    obtain ⟨v1, ev1, hq⟩ := bd hq
    refine E_gI d_Mo_reads_98 lk_Mo_186 rfl ev1 ?_
    obtain ⟨q3, eq3, hq⟩ := bd hq
    obtain ⟨p2, ep2, hq⟩ := bd hq
    refine E_cV1I d_Mo_reads_101 ck_Mo_189 rfl rfl eq3 (Nat.le_of_ble_eq_true rfl) (Nat.le_of_ble_eq_true rfl) (t_Mo_raw (by omega) ep2) ?_
    obtain ⟨q5, eq5, hq⟩ := bd hq
    obtain ⟨p4, ep4, hq⟩ := bd hq
    refine E_cV1I d_Mo_reads_104 ck_Mo_202 rfl rfl eq5 (Nat.le_of_ble_eq_true rfl) (Nat.le_of_ble_eq_true rfl) (t_Mo_isLetter (by omega) ep4) ?_
    refine E_zeq (tgt := 123) d_Mo_reads_107 (by decide) (fun c => ?_) (fun c => ?_)
    · rw [if_pos c] at hq
      refine E_aln 0 d_Mo_reads_123 rfl rfl ?_
      refine E_aln 0 d_Mo_reads_124 rfl rfl ?_
      refine E_aln 0 d_Mo_reads_125 rfl rfl ?_
      obtain ⟨v6, ev6, hq⟩ := bd hq
      refine E_gI d_Mo_reads_126 lk_Mo_193 rfl ev6 ?_
      refine E_aln 0 d_Mo_reads_129 rfl rfl ?_
      obtain ⟨v7, ev7, hq⟩ := bd hq
      refine E_gI d_Mo_reads_130 lk_Mo_186 rfl ev7 ?_
      obtain ⟨q9, eq9, hq⟩ := bd hq
      obtain ⟨p8, ep8, hq⟩ := bd hq
      refine E_cV2I d_Mo_reads_133 ck_Mo_205 rfl rfl eq9 (Nat.le_of_ble_eq_true rfl) (Nat.le_of_ble_eq_true rfl) (t_Mo_wordAt (by omega) ep8) ?_
      obtain ⟨h10, eh10, hq⟩ := bd hq
      refine E_pI d_Mo_reads_136 lp_Mo_m_199 rfl eh10 ?_
      refine E_aln 0 d_Mo_reads_139 rfl rfl ?_
      obtain ⟨v11, ev11, hq⟩ := bd hq
      refine E_gI d_Mo_reads_140 lk_Mo_199 rfl ev11 ?_
      refine E_ic (v := (-1)) d_Mo_reads_143 (by decide) ?_
      refine E_jeq (tgt := 273) d_Mo_reads_144 (by decide) (fun c => ?_) (fun c => ?_)
      · rw [if_pos c] at hq
        exact E_rV d_Mo_reads_273 rfl hq
      · rw [if_neg c] at hq
        refine E_aln 0 d_Mo_reads_147 rfl rfl ?_
        refine E_ic (v := 2) d_Mo_reads_148 (by decide) ?_
        obtain ⟨h12, eh12, hq⟩ := bd hq
        refine E_pI d_Mo_reads_149 lp_Mo_m_196 rfl eh12 ?_
        refine E_goto (tgt := 273) d_Mo_reads_152 (by decide) ?_
        exact E_rV d_Mo_reads_273 rfl hq
    · rw [if_neg c] at hq
      refine E_aln 0 d_Mo_reads_110 rfl rfl ?_
      refine E_aln 0 d_Mo_reads_111 rfl rfl ?_
      obtain ⟨v13, ev13, hq⟩ := bd hq
      refine E_gI d_Mo_reads_112 lk_Mo_186 rfl ev13 ?_
      refine E_ic (v := 1) d_Mo_reads_115 (by decide) ?_
      refine E_iadd d_Mo_reads_116 ?_
      obtain ⟨h14, eh14, hq⟩ := bd hq
      refine E_pI d_Mo_reads_117 lp_Mo_m_186 rfl eh14 ?_
      refine E_goto (tgt := 95) d_Mo_reads_120 (by decide) ?_
      exact ih _ _ _ hq
def f_Mo_reads_0 : Nat → Nat → PH → Option (PH)
  | 0, _, _ => none
  | n + 1, a0, h =>
    (ldI h 9 a0 15).bind fun v1 =>
    (isO h 9 a0).bind fun _ =>
    (f_Mo_raw a0 v1 h).bind fun p2 =>
    if p2.1 = 32 then
      f_Mo_reads_26 (fun a0 h => f_Mo_reads_0 n a0 h) a0 p2.2
    else
      (ldI p2.2 9 a0 15).bind fun v4 =>
      (isO p2.2 9 a0).bind fun _ =>
      (f_Mo_raw a0 v4 p2.2).bind fun p5 =>
      if p5.1 = 10 then
        f_Mo_reads_26 (fun a0 h => f_Mo_reads_0 n a0 h) a0 p5.2
      else
        (ldI p5.2 9 a0 15).bind fun v7 =>
        (stI p5.2 9 a0 16 v7).bind fun h8 =>
        (stI h8 9 a0 17 1).bind fun h9 =>
        (ldI h9 9 a0 15).bind fun v10 =>
        (isO h9 9 a0).bind fun _ =>
        (f_Mo_raw a0 v10 h9).bind fun p11 =>
        if p11.1 = (-1) then
          (stI p11.2 9 a0 17 0).bind fun h24 =>
          some h24
        else
          (ldI p11.2 9 a0 15).bind fun v13 =>
          (stI p11.2 9 a0 15 (v13 + 1)).bind fun h14 =>
          (stI h14 9 a0 18 p11.1).bind fun h15 =>
          (isO h15 9 a0).bind fun _ =>
          (f_Mo_isLetter a0 p11.1 h15).bind fun p16 =>
          if p16.1 = 0 then
            (isO p16.2 9 a0).bind fun _ =>
            (f_Mo_isDigit a0 p11.1 p16.2).bind fun p18 =>
            if p18.1 = 0 then
              (isO p18.2 9 a0).bind fun _ =>
              (f_Mo_isMarkSign a0 p11.1 p18.2).bind fun p20 =>
              if p20.1 = 0 then
                some p20.2
              else
                (stI p20.2 9 a0 17 4).bind fun h22 =>
                some h22
            else
              (stI p18.2 9 a0 18 (p11.1 - 48)).bind fun h23 =>
              f_Mo_reads_171 FU a0 h23
          else
            f_Mo_reads_95 FU a0 p16.2
theorem t_Mo_reads_0 {d : Nat} (hd : 2 ≤ d) : ∀ (n : Nat) (a0 : Nat) (h : PH) (r : PH), f_Mo_reads_0 n a0 h = some r → E d 0 0 m_Mo_reads 0 [(0, .ref a0)] [] h (PV r) := by
  intro n
  induction n with
  | zero => intro a0 h r hq; rw [f_Mo_reads_0] at hq; cases hq
  | succ n ih =>
    intro a0 h r hq
    rw [f_Mo_reads_0] at hq
    obtain ⟨d, rfl⟩ : ∃ e, d = e + 1 := ⟨d - 1, by omega⟩
    refine E_aln 0 d_Mo_reads_0 rfl rfl ?_
    refine E_aln 0 d_Mo_reads_1 rfl rfl ?_
    obtain ⟨v1, ev1, hq⟩ := bd hq
    refine E_gI d_Mo_reads_2 lk_Mo_186 rfl ev1 ?_
    obtain ⟨q3, eq3, hq⟩ := bd hq
    obtain ⟨p2, ep2, hq⟩ := bd hq
    refine E_cV1I d_Mo_reads_5 ck_Mo_189 rfl rfl eq3 (Nat.le_of_ble_eq_true rfl) (Nat.le_of_ble_eq_true rfl) (t_Mo_raw (by omega) ep2) ?_
    refine E_bi (v := 32) d_Mo_reads_8 (by decide) ?_
    refine E_jeq (tgt := 26) d_Mo_reads_10 (by decide) (fun c => ?_) (fun c => ?_)
    · rw [if_pos c] at hq
      exact t_Mo_reads_26 (by omega) ih hq
    · rw [if_neg c] at hq
      refine E_aln 0 d_Mo_reads_13 rfl rfl ?_
      refine E_aln 0 d_Mo_reads_14 rfl rfl ?_
      obtain ⟨v4, ev4, hq⟩ := bd hq
      refine E_gI d_Mo_reads_15 lk_Mo_186 rfl ev4 ?_
      obtain ⟨q6, eq6, hq⟩ := bd hq
      obtain ⟨p5, ep5, hq⟩ := bd hq
      refine E_cV1I d_Mo_reads_18 ck_Mo_189 rfl rfl eq6 (Nat.le_of_ble_eq_true rfl) (Nat.le_of_ble_eq_true rfl) (t_Mo_raw (by omega) ep5) ?_
      refine E_bi (v := 10) d_Mo_reads_21 (by decide) ?_
      refine E_jne (tgt := 39) d_Mo_reads_23 (by decide) (fun c => ?_) (fun c => ?_)
      · rw [if_neg c] at hq
        refine E_aln 0 d_Mo_reads_39 rfl rfl ?_
        refine E_aln 0 d_Mo_reads_40 rfl rfl ?_
        obtain ⟨v7, ev7, hq⟩ := bd hq
        refine E_gI d_Mo_reads_41 lk_Mo_186 rfl ev7 ?_
        obtain ⟨h8, eh8, hq⟩ := bd hq
        refine E_pI d_Mo_reads_44 lp_Mo_m_193 rfl eh8 ?_
        refine E_aln 0 d_Mo_reads_47 rfl rfl ?_
        refine E_ic (v := 1) d_Mo_reads_48 (by decide) ?_
        obtain ⟨h9, eh9, hq⟩ := bd hq
        refine E_pI d_Mo_reads_49 lp_Mo_m_196 rfl eh9 ?_
        refine E_aln 0 d_Mo_reads_52 rfl rfl ?_
        refine E_aln 0 d_Mo_reads_53 rfl rfl ?_
        obtain ⟨v10, ev10, hq⟩ := bd hq
        refine E_gI d_Mo_reads_54 lk_Mo_186 rfl ev10 ?_
        obtain ⟨q12, eq12, hq⟩ := bd hq
        obtain ⟨p11, ep11, hq⟩ := bd hq
        refine E_cV1I d_Mo_reads_57 ck_Mo_189 rfl rfl eq12 (Nat.le_of_ble_eq_true rfl) (Nat.le_of_ble_eq_true rfl) (t_Mo_raw (by omega) ep11) ?_
        refine E_isn (ls' := [(1, .int p11.1), (0, .ref a0)]) d_Mo_reads_60 (Nat.le_of_ble_eq_true rfl) rfl ?_
        refine E_iln 0 d_Mo_reads_61 rfl rfl ?_
        refine E_ic (v := (-1)) d_Mo_reads_62 (by decide) ?_
        refine E_jne (tgt := 72) d_Mo_reads_63 (by decide) (fun c => ?_) (fun c => ?_)
        · rw [if_neg c] at hq
          refine E_aln 1 d_Mo_reads_72 rfl rfl ?_
          refine E_aln 1 d_Mo_reads_73 rfl rfl ?_
          obtain ⟨v13, ev13, hq⟩ := bd hq
          refine E_gI d_Mo_reads_74 lk_Mo_186 rfl ev13 ?_
          refine E_ic (v := 1) d_Mo_reads_77 (by decide) ?_
          refine E_iadd d_Mo_reads_78 ?_
          obtain ⟨h14, eh14, hq⟩ := bd hq
          refine E_pI d_Mo_reads_79 lp_Mo_m_186 rfl eh14 ?_
          refine E_aln 1 d_Mo_reads_82 rfl rfl ?_
          refine E_iln 0 d_Mo_reads_83 rfl rfl ?_
          obtain ⟨h15, eh15, hq⟩ := bd hq
          refine E_pI d_Mo_reads_84 lp_Mo_m_199 rfl eh15 ?_
          refine E_aln 1 d_Mo_reads_87 rfl rfl ?_
          refine E_iln 0 d_Mo_reads_88 rfl rfl ?_
          obtain ⟨q17, eq17, hq⟩ := bd hq
          obtain ⟨p16, ep16, hq⟩ := bd hq
          refine E_cV1I d_Mo_reads_89 ck_Mo_202 rfl rfl eq17 (Nat.le_of_ble_eq_true rfl) (Nat.le_of_ble_eq_true rfl) (t_Mo_isLetter (by omega) ep16) ?_
          refine E_zeq (tgt := 155) d_Mo_reads_92 (by decide) (fun c => ?_) (fun c => ?_)
          · rw [if_pos c] at hq
            refine E_aln 1 d_Mo_reads_155 rfl rfl ?_
            refine E_iln 0 d_Mo_reads_156 rfl rfl ?_
            obtain ⟨q19, eq19, hq⟩ := bd hq
            obtain ⟨p18, ep18, hq⟩ := bd hq
            refine E_cV1I d_Mo_reads_157 ck_Mo_209 rfl rfl eq19 (Nat.le_of_ble_eq_true rfl) (Nat.le_of_ble_eq_true rfl) (t_Mo_isDigit (by omega) ep18) ?_
            refine E_zeq (tgt := 260) d_Mo_reads_160 (by decide) (fun c => ?_) (fun c => ?_)
            · rw [if_pos c] at hq
              refine E_aln 1 d_Mo_reads_260 rfl rfl ?_
              refine E_iln 0 d_Mo_reads_261 rfl rfl ?_
              obtain ⟨q21, eq21, hq⟩ := bd hq
              obtain ⟨p20, ep20, hq⟩ := bd hq
              refine E_cV1I d_Mo_reads_262 ck_Mo_212 rfl rfl eq21 (Nat.le_of_ble_eq_true rfl) (Nat.le_of_ble_eq_true rfl) (t_Mo_isMarkSign (by omega) ep20) ?_
              refine E_zeq (tgt := 273) d_Mo_reads_265 (by decide) (fun c => ?_) (fun c => ?_)
              · rw [if_pos c] at hq
                exact E_rV d_Mo_reads_273 rfl hq
              · rw [if_neg c] at hq
                refine E_aln 1 d_Mo_reads_268 rfl rfl ?_
                refine E_ic (v := 4) d_Mo_reads_269 (by decide) ?_
                obtain ⟨h22, eh22, hq⟩ := bd hq
                refine E_pI d_Mo_reads_270 lp_Mo_m_196 rfl eh22 ?_
                exact E_rV d_Mo_reads_273 rfl hq
            · rw [if_neg c] at hq
              refine E_aln 1 d_Mo_reads_163 rfl rfl ?_
              refine E_iln 0 d_Mo_reads_164 rfl rfl ?_
              refine E_bi (v := 48) d_Mo_reads_165 (by decide) ?_
              refine E_isub d_Mo_reads_167 ?_
              obtain ⟨h23, eh23, hq⟩ := bd hq
              refine E_pI d_Mo_reads_168 lp_Mo_m_199 rfl eh23 ?_
              exact E_sub (ks := [1]) rfl <| t_Mo_reads_171 (by omega) _ _ _ _ hq
          · rw [if_neg c] at hq
            exact E_sub (ks := [1]) rfl <| t_Mo_reads_95 (by omega) _ _ _ _ hq
        · rw [if_pos c] at hq
          refine E_aln 1 d_Mo_reads_66 rfl rfl ?_
          refine E_ic (v := 0) d_Mo_reads_67 (by decide) ?_
          obtain ⟨h24, eh24, hq⟩ := bd hq
          refine E_pI d_Mo_reads_68 lp_Mo_m_196 rfl eh24 ?_
          exact E_rV d_Mo_reads_71 rfl hq
      · rw [if_pos c] at hq
        exact t_Mo_reads_26 (by omega) ih hq
def f_Mo_reads (a0 : Nat) (h : PH) : Option (PH) :=
  f_Mo_reads_0 FU a0 h
theorem t_Mo_reads {d : Nat} (hd : 2 ≤ d) {a0 : Nat} {h : PH} {r : PH} (hq : f_Mo_reads a0 h = some r) : E d 0 0 m_Mo_reads 0 [(0, .ref a0)] [] h (PV r) := by
  unfold f_Mo_reads at hq
  obtain ⟨d, rfl⟩ : ∃ e, d = e + 1 := ⟨d - 1, by omega⟩
  exact t_Mo_reads_0 (by omega) _ _ _ _ hq
def f_Mo_isWord (a0 : Nat) (x1 : Int32) (h : PH) : Option (Int32 × PH) :=
  (ldI h 9 a0 17).bind fun v1 =>
  if v1 = 2 then
    (ldI h 9 a0 18).bind fun v2 =>
    if v2 = x1 then
      rtZ 1 h
    else
      rtZ 0 h
  else
    rtZ 0 h
theorem t_Mo_isWord {d : Nat} (hd : 0 ≤ d) {a0 : Nat} {x1 : Int32} {h : PH} {r : Int32 × PH} (hq : f_Mo_isWord a0 x1 h = some r) : E d 0 0 m_Mo_isWord 0 [(0, .ref a0), (1, .int x1)] [] h (PI r) := by
  unfold f_Mo_isWord at hq
  refine E_aln 0 d_Mo_isWord_0 rfl rfl ?_
  obtain ⟨v1, ev1, hq⟩ := bd hq
  refine E_gI d_Mo_isWord_1 lk_Mo_196 rfl ev1 ?_
  refine E_ic (v := 2) d_Mo_isWord_4 (by decide) ?_
  refine E_jne (tgt := 20) d_Mo_isWord_5 (by decide) (fun c => ?_) (fun c => ?_)
  · rw [if_neg c] at hq
    refine E_ic (v := 0) d_Mo_isWord_20 (by decide) ?_
    exact E_rZ d_Mo_isWord_21 rfl hq
  · rw [if_pos c] at hq
    refine E_aln 0 d_Mo_isWord_8 rfl rfl ?_
    obtain ⟨v2, ev2, hq⟩ := bd hq
    refine E_gI d_Mo_isWord_9 lk_Mo_199 rfl ev2 ?_
    refine E_iln 1 d_Mo_isWord_12 rfl rfl ?_
    refine E_jne (tgt := 20) d_Mo_isWord_13 (by decide) (fun c => ?_) (fun c => ?_)
    · rw [if_neg c] at hq
      refine E_ic (v := 0) d_Mo_isWord_20 (by decide) ?_
      exact E_rZ d_Mo_isWord_21 rfl hq
    · rw [if_pos c] at hq
      refine E_ic (v := 1) d_Mo_isWord_16 (by decide) ?_
      refine E_goto (tgt := 21) d_Mo_isWord_17 (by decide) ?_
      exact E_rZ d_Mo_isWord_21 rfl hq
def f_Mo_errs (a0 : Nat) (x1 : Int32) (h : PH) : Option (Int32 × PH) :=
  (stI h 9 a0 32 x1).bind fun h1 =>
  (ldI h1 9 a0 16).bind fun v2 =>
  (stI h1 9 a0 33 v2).bind fun h3 =>
  some ((-1), h3)
theorem t_Mo_errs {d : Nat} (hd : 0 ≤ d) {a0 : Nat} {x1 : Int32} {h : PH} {r : Int32 × PH} (hq : f_Mo_errs a0 x1 h = some r) : E d 0 0 m_Mo_errs 0 [(0, .ref a0), (1, .int x1)] [] h (PI r) := by
  unfold f_Mo_errs at hq
  refine E_aln 0 d_Mo_errs_0 rfl rfl ?_
  refine E_iln 1 d_Mo_errs_1 rfl rfl ?_
  obtain ⟨h1, eh1, hq⟩ := bd hq
  refine E_pI d_Mo_errs_2 lp_Mo_m_215 rfl eh1 ?_
  refine E_aln 0 d_Mo_errs_5 rfl rfl ?_
  refine E_aln 0 d_Mo_errs_6 rfl rfl ?_
  obtain ⟨v2, ev2, hq⟩ := bd hq
  refine E_gI d_Mo_errs_7 lk_Mo_193 rfl ev2 ?_
  obtain ⟨h3, eh3, hq⟩ := bd hq
  refine E_pI d_Mo_errs_10 lp_Mo_m_218 rfl eh3 ?_
  refine E_ic (v := (-1)) d_Mo_errs_13 (by decide) ?_
  exact E_rI d_Mo_errs_14 rfl hq
def f_Mo_readNumber (a0 : Nat) (x1 : Int32) (x2 : Int32) (h : PH) : Option (Int32 × PH) :=
  (ldI h 9 a0 17).bind fun v1 =>
  if v1 = 3 then
    (ldI h 9 a0 18).bind fun v2 =>
    (isO h 9 a0).bind fun _ =>
    (f_Mo_isIn a0 v2 x1 x2 h).bind fun p3 =>
    if p3.1 = 0 then
      (isO p3.2 9 a0).bind fun _ =>
      (f_Mo_errs a0 2 p3.2).bind fun p8 =>
      some (p8.1, p8.2)
    else
      (ldI p3.2 9 a0 18).bind fun v5 =>
      (isO p3.2 9 a0).bind fun _ =>
      (f_Mo_reads a0  p3.2).bind fun h6 =>
      some (v5, h6)
  else
    (isO h 9 a0).bind fun _ =>
    (f_Mo_errs a0 1 h).bind fun p10 =>
    some (p10.1, p10.2)
theorem t_Mo_readNumber {d : Nat} (hd : 3 ≤ d) {a0 : Nat} {x1 : Int32} {x2 : Int32} {h : PH} {r : Int32 × PH} (hq : f_Mo_readNumber a0 x1 x2 h = some r) : E d 0 0 m_Mo_readNumber 0 [(0, .ref a0), (1, .int x1), (2, .int x2)] [] h (PI r) := by
  unfold f_Mo_readNumber at hq
  obtain ⟨d, rfl⟩ : ∃ e, d = e + 1 := ⟨d - 1, by omega⟩
  refine E_aln 0 d_Mo_readNumber_0 rfl rfl ?_
  obtain ⟨v1, ev1, hq⟩ := bd hq
  refine E_gI d_Mo_readNumber_1 lk_Mo_196 rfl ev1 ?_
  refine E_ic (v := 3) d_Mo_readNumber_4 (by decide) ?_
  refine E_jeq (tgt := 14) d_Mo_readNumber_5 (by decide) (fun c => ?_) (fun c => ?_)
  · rw [if_pos c] at hq
    refine E_aln 0 d_Mo_readNumber_14 rfl rfl ?_
    refine E_aln 0 d_Mo_readNumber_15 rfl rfl ?_
    obtain ⟨v2, ev2, hq⟩ := bd hq
    refine E_gI d_Mo_readNumber_16 lk_Mo_199 rfl ev2 ?_
    refine E_iln 1 d_Mo_readNumber_19 rfl rfl ?_
    refine E_iln 2 d_Mo_readNumber_20 rfl rfl ?_
    obtain ⟨q4, eq4, hq⟩ := bd hq
    obtain ⟨p3, ep3, hq⟩ := bd hq
    refine E_cV3I d_Mo_readNumber_21 ck_Mo_162 rfl rfl eq4 (Nat.le_of_ble_eq_true rfl) (Nat.le_of_ble_eq_true rfl) (t_Mo_isIn (by omega) ep3) ?_
    refine E_zne (tgt := 33) d_Mo_readNumber_24 (by decide) (fun c => ?_) (fun c => ?_)
    · rw [if_neg c] at hq
      refine E_aln 0 d_Mo_readNumber_33 rfl rfl ?_
      obtain ⟨v5, ev5, hq⟩ := bd hq
      refine E_gI d_Mo_readNumber_34 lk_Mo_199 rfl ev5 ?_
      refine E_isn (ls' := [(3, .int v5), (0, .ref a0), (1, .int x1), (2, .int x2)]) d_Mo_readNumber_37 (Nat.le_of_ble_eq_true rfl) rfl ?_
      refine E_aln 1 d_Mo_readNumber_38 rfl rfl ?_
      obtain ⟨q7, eq7, hq⟩ := bd hq
      obtain ⟨h6, eh6, hq⟩ := bd hq
      refine E_cV0V d_Mo_readNumber_39 ck_Mo_234 rfl rfl eq7 (Nat.le_of_ble_eq_true rfl) (Nat.le_of_ble_eq_true rfl) (t_Mo_reads (by omega) eh6) ?_
      refine E_iln 0 d_Mo_readNumber_42 rfl rfl ?_
      exact E_rI d_Mo_readNumber_43 rfl hq
    · rw [if_pos c] at hq
      refine E_aln 0 d_Mo_readNumber_27 rfl rfl ?_
      refine E_ic (v := 2) d_Mo_readNumber_28 (by decide) ?_
      obtain ⟨q9, eq9, hq⟩ := bd hq
      obtain ⟨p8, ep8, hq⟩ := bd hq
      refine E_cV1I d_Mo_readNumber_29 ck_Mo_227 rfl rfl eq9 (Nat.le_of_ble_eq_true rfl) (Nat.le_of_ble_eq_true rfl) (t_Mo_errs (by omega) ep8) ?_
      exact E_rI d_Mo_readNumber_32 rfl hq
  · rw [if_neg c] at hq
    refine E_aln 0 d_Mo_readNumber_8 rfl rfl ?_
    refine E_ic (v := 1) d_Mo_readNumber_9 (by decide) ?_
    obtain ⟨q11, eq11, hq⟩ := bd hq
    obtain ⟨p10, ep10, hq⟩ := bd hq
    refine E_cV1I d_Mo_readNumber_10 ck_Mo_227 rfl rfl eq11 (Nat.le_of_ble_eq_true rfl) (Nat.le_of_ble_eq_true rfl) (t_Mo_errs (by omega) ep10) ?_
    exact E_rI d_Mo_readNumber_13 rfl hq
def f_Mo_readTold (a0 : Nat) (x1 : Int32) (x2 : Int32) (x3 : Int32) (h : PH) : Option (Int32 × PH) :=
  (isO h 9 a0).bind fun _ =>
  (f_Mo_isWord a0 x1 h).bind fun p1 =>
  if p1.1 = 0 then
    (isO p1.2 9 a0).bind fun _ =>
    (f_Mo_errs a0 1 p1.2).bind fun p7 =>
    some (p7.1, p7.2)
  else
    (isO p1.2 9 a0).bind fun _ =>
    (f_Mo_reads a0  p1.2).bind fun h3 =>
    (isO h3 9 a0).bind fun _ =>
    (f_Mo_readNumber a0 x2 x3 h3).bind fun p5 =>
    some (p5.1, p5.2)
theorem t_Mo_readTold {d : Nat} (hd : 4 ≤ d) {a0 : Nat} {x1 : Int32} {x2 : Int32} {x3 : Int32} {h : PH} {r : Int32 × PH} (hq : f_Mo_readTold a0 x1 x2 x3 h = some r) : E d 0 0 m_Mo_readTold 0 [(0, .ref a0), (1, .int x1), (2, .int x2), (3, .int x3)] [] h (PI r) := by
  unfold f_Mo_readTold at hq
  obtain ⟨d, rfl⟩ : ∃ e, d = e + 1 := ⟨d - 1, by omega⟩
  refine E_aln 0 d_Mo_readTold_0 rfl rfl ?_
  refine E_iln 1 d_Mo_readTold_1 rfl rfl ?_
  obtain ⟨q2, eq2, hq⟩ := bd hq
  obtain ⟨p1, ep1, hq⟩ := bd hq
  refine E_cV1I d_Mo_readTold_2 ck_Mo_256 rfl rfl eq2 (Nat.le_of_ble_eq_true rfl) (Nat.le_of_ble_eq_true rfl) (t_Mo_isWord (by omega) ep1) ?_
  refine E_zne (tgt := 14) d_Mo_readTold_5 (by decide) (fun c => ?_) (fun c => ?_)
  · rw [if_neg c] at hq
    refine E_aln 0 d_Mo_readTold_14 rfl rfl ?_
    obtain ⟨q4, eq4, hq⟩ := bd hq
    obtain ⟨h3, eh3, hq⟩ := bd hq
    refine E_cV0V d_Mo_readTold_15 ck_Mo_234 rfl rfl eq4 (Nat.le_of_ble_eq_true rfl) (Nat.le_of_ble_eq_true rfl) (t_Mo_reads (by omega) eh3) ?_
    refine E_aln 0 d_Mo_readTold_18 rfl rfl ?_
    refine E_iln 2 d_Mo_readTold_19 rfl rfl ?_
    refine E_iln 3 d_Mo_readTold_20 rfl rfl ?_
    obtain ⟨q6, eq6, hq⟩ := bd hq
    obtain ⟨p5, ep5, hq⟩ := bd hq
    refine E_cV2I d_Mo_readTold_21 ck_Mo_278 rfl rfl eq6 (Nat.le_of_ble_eq_true rfl) (Nat.le_of_ble_eq_true rfl) (t_Mo_readNumber (by omega) ep5) ?_
    exact E_rI d_Mo_readTold_24 rfl hq
  · rw [if_pos c] at hq
    refine E_aln 0 d_Mo_readTold_8 rfl rfl ?_
    refine E_ic (v := 1) d_Mo_readTold_9 (by decide) ?_
    obtain ⟨q8, eq8, hq⟩ := bd hq
    obtain ⟨p7, ep7, hq⟩ := bd hq
    refine E_cV1I d_Mo_readTold_10 ck_Mo_227 rfl rfl eq8 (Nat.le_of_ble_eq_true rfl) (Nat.le_of_ble_eq_true rfl) (t_Mo_errs (by omega) ep7) ?_
    exact E_rI d_Mo_readTold_13 rfl hq
def f_Mo_isSign (a0 : Nat) (x1 : Int32) (h : PH) : Option (Int32 × PH) :=
  (ldI h 9 a0 17).bind fun v1 =>
  if v1 = 4 then
    (ldI h 9 a0 18).bind fun v2 =>
    if v2 = x1 then
      rtZ 1 h
    else
      rtZ 0 h
  else
    rtZ 0 h
theorem t_Mo_isSign {d : Nat} (hd : 0 ≤ d) {a0 : Nat} {x1 : Int32} {h : PH} {r : Int32 × PH} (hq : f_Mo_isSign a0 x1 h = some r) : E d 0 0 m_Mo_isSign 0 [(0, .ref a0), (1, .int x1)] [] h (PI r) := by
  unfold f_Mo_isSign at hq
  refine E_aln 0 d_Mo_isSign_0 rfl rfl ?_
  obtain ⟨v1, ev1, hq⟩ := bd hq
  refine E_gI d_Mo_isSign_1 lk_Mo_196 rfl ev1 ?_
  refine E_ic (v := 4) d_Mo_isSign_4 (by decide) ?_
  refine E_jne (tgt := 20) d_Mo_isSign_5 (by decide) (fun c => ?_) (fun c => ?_)
  · rw [if_neg c] at hq
    refine E_ic (v := 0) d_Mo_isSign_20 (by decide) ?_
    exact E_rZ d_Mo_isSign_21 rfl hq
  · rw [if_pos c] at hq
    refine E_aln 0 d_Mo_isSign_8 rfl rfl ?_
    obtain ⟨v2, ev2, hq⟩ := bd hq
    refine E_gI d_Mo_isSign_9 lk_Mo_199 rfl ev2 ?_
    refine E_iln 1 d_Mo_isSign_12 rfl rfl ?_
    refine E_jne (tgt := 20) d_Mo_isSign_13 (by decide) (fun c => ?_) (fun c => ?_)
    · rw [if_neg c] at hq
      refine E_ic (v := 0) d_Mo_isSign_20 (by decide) ?_
      exact E_rZ d_Mo_isSign_21 rfl hq
    · rw [if_pos c] at hq
      refine E_ic (v := 1) d_Mo_isSign_16 (by decide) ?_
      refine E_goto (tgt := 21) d_Mo_isSign_17 (by decide) ?_
      exact E_rZ d_Mo_isSign_21 rfl hq
def f_Mo_readMark (a0 : Nat) (x1 : Int32) (h : PH) : Option (Int32 × PH) :=
  (isO h 9 a0).bind fun _ =>
  (f_Mo_isSign a0 x1 h).bind fun p1 =>
  if p1.1 = 0 then
    (isO p1.2 9 a0).bind fun _ =>
    (f_Mo_errs a0 1 p1.2).bind fun p5 =>
    some (p5.1, p5.2)
  else
    (isO p1.2 9 a0).bind fun _ =>
    (f_Mo_reads a0  p1.2).bind fun h3 =>
    some (0, h3)
theorem t_Mo_readMark {d : Nat} (hd : 3 ≤ d) {a0 : Nat} {x1 : Int32} {h : PH} {r : Int32 × PH} (hq : f_Mo_readMark a0 x1 h = some r) : E d 0 0 m_Mo_readMark 0 [(0, .ref a0), (1, .int x1)] [] h (PI r) := by
  unfold f_Mo_readMark at hq
  obtain ⟨d, rfl⟩ : ∃ e, d = e + 1 := ⟨d - 1, by omega⟩
  refine E_aln 0 d_Mo_readMark_0 rfl rfl ?_
  refine E_iln 1 d_Mo_readMark_1 rfl rfl ?_
  obtain ⟨q2, eq2, hq⟩ := bd hq
  obtain ⟨p1, ep1, hq⟩ := bd hq
  refine E_cV1I d_Mo_readMark_2 ck_Mo_241 rfl rfl eq2 (Nat.le_of_ble_eq_true rfl) (Nat.le_of_ble_eq_true rfl) (t_Mo_isSign (by omega) ep1) ?_
  refine E_zne (tgt := 14) d_Mo_readMark_5 (by decide) (fun c => ?_) (fun c => ?_)
  · rw [if_neg c] at hq
    refine E_aln 0 d_Mo_readMark_14 rfl rfl ?_
    obtain ⟨q4, eq4, hq⟩ := bd hq
    obtain ⟨h3, eh3, hq⟩ := bd hq
    refine E_cV0V d_Mo_readMark_15 ck_Mo_234 rfl rfl eq4 (Nat.le_of_ble_eq_true rfl) (Nat.le_of_ble_eq_true rfl) (t_Mo_reads (by omega) eh3) ?_
    refine E_ic (v := 0) d_Mo_readMark_18 (by decide) ?_
    exact E_rI d_Mo_readMark_19 rfl hq
  · rw [if_pos c] at hq
    refine E_aln 0 d_Mo_readMark_8 rfl rfl ?_
    refine E_ic (v := 1) d_Mo_readMark_9 (by decide) ?_
    obtain ⟨q6, eq6, hq⟩ := bd hq
    obtain ⟨p5, ep5, hq⟩ := bd hq
    refine E_cV1I d_Mo_readMark_10 ck_Mo_227 rfl rfl eq6 (Nat.le_of_ble_eq_true rfl) (Nat.le_of_ble_eq_true rfl) (t_Mo_errs (by omega) ep5) ?_
    exact E_rI d_Mo_readMark_13 rfl hq
def f_Mo_readKinLine_62 (a0 : Nat) (x1 : Int32) (h : PH) : Option (Int32 × PH) :=
  (ldI h 9 a0 6).bind fun v1 =>
  (isO h 9 a0).bind fun _ =>
  (f_Mo_readNumber a0 0 (v1 - 1) h).bind fun p2 =>
  if p2.1 = (-1) then
    some ((-1), p2.2)
  else
    (ldR p2.2 9 a0 37).bind fun v4 =>
    (ldR p2.2 9 a0 37).bind fun v5 =>
    (rdA p2.2 v5 (12 + x1)).bind fun v6 =>
    (wrA p2.2 v4 (12 + x1) (v6 ||| (jshl 1 p2.1))).bind fun h7 =>
    (ldR h7 9 a0 37).bind fun v8 =>
    (ldR h7 9 a0 37).bind fun v9 =>
    (rdA h7 v9 (12 + p2.1)).bind fun v10 =>
    (wrA h7 v8 (12 + p2.1) (v10 ||| (jshl 1 x1))).bind fun h11 =>
    (isO h11 9 a0).bind fun _ =>
    (f_Mo_readMark a0 59 h11).bind fun p12 =>
    some (p12.1, p12.2)
theorem t_Mo_readKinLine_62 {d : Nat} (hd : 5 ≤ d) {a0 : Nat} {x1 : Int32} {h : PH} {r : Int32 × PH} (hq : f_Mo_readKinLine_62 a0 x1 h = some r) : E d 0 0 m_Mo_readKinLine 62 [(0, .ref a0), (1, .int x1)] [] h (PI r) := by
  unfold f_Mo_readKinLine_62 at hq
  obtain ⟨d, rfl⟩ : ∃ e, d = e + 1 := ⟨d - 1, by omega⟩
  refine E_aln 0 d_Mo_readKinLine_62 rfl rfl ?_
  refine E_ic (v := 0) d_Mo_readKinLine_63 (by decide) ?_
  refine E_aln 0 d_Mo_readKinLine_64 rfl rfl ?_
  obtain ⟨v1, ev1, hq⟩ := bd hq
  refine E_gI d_Mo_readKinLine_65 lk_Mo_152 rfl ev1 ?_
  refine E_ic (v := 1) d_Mo_readKinLine_68 (by decide) ?_
  refine E_isub d_Mo_readKinLine_69 ?_
  obtain ⟨q3, eq3, hq⟩ := bd hq
  obtain ⟨p2, ep2, hq⟩ := bd hq
  refine E_cV2I d_Mo_readKinLine_70 ck_Mo_278 rfl rfl eq3 (Nat.le_of_ble_eq_true rfl) (Nat.le_of_ble_eq_true rfl) (t_Mo_readNumber (by omega) ep2) ?_
  refine E_isn (ls' := [(2, .int p2.1), (0, .ref a0), (1, .int x1)]) d_Mo_readKinLine_73 (Nat.le_of_ble_eq_true rfl) rfl ?_
  refine E_iln 0 d_Mo_readKinLine_74 rfl rfl ?_
  refine E_ic (v := (-1)) d_Mo_readKinLine_75 (by decide) ?_
  refine E_jne (tgt := 81) d_Mo_readKinLine_76 (by decide) (fun c => ?_) (fun c => ?_)
  · rw [if_neg c] at hq
    refine E_aln 1 d_Mo_readKinLine_81 rfl rfl ?_
    obtain ⟨v4, ev4, hq⟩ := bd hq
    refine E_gR d_Mo_readKinLine_82 lk_Mo_68 rfl ev4 ?_
    refine E_bi (v := 12) d_Mo_readKinLine_85 (by decide) ?_
    refine E_iln 2 d_Mo_readKinLine_87 rfl rfl ?_
    refine E_iadd d_Mo_readKinLine_88 ?_
    refine E_aln 1 d_Mo_readKinLine_89 rfl rfl ?_
    obtain ⟨v5, ev5, hq⟩ := bd hq
    refine E_gR d_Mo_readKinLine_90 lk_Mo_68 rfl ev5 ?_
    refine E_bi (v := 12) d_Mo_readKinLine_93 (by decide) ?_
    refine E_iln 2 d_Mo_readKinLine_95 rfl rfl ?_
    refine E_iadd d_Mo_readKinLine_96 ?_
    obtain ⟨v6, ev6, hq⟩ := bd hq
    refine E_ra d_Mo_readKinLine_97 ev6 ?_
    refine E_ic (v := 1) d_Mo_readKinLine_98 (by decide) ?_
    refine E_iln 0 d_Mo_readKinLine_99 rfl rfl ?_
    refine E_ishl d_Mo_readKinLine_100 ?_
    refine E_ior d_Mo_readKinLine_101 ?_
    obtain ⟨h7, eh7, hq⟩ := bd hq
    refine E_wa d_Mo_readKinLine_102 eh7 ?_
    refine E_aln 1 d_Mo_readKinLine_103 rfl rfl ?_
    obtain ⟨v8, ev8, hq⟩ := bd hq
    refine E_gR d_Mo_readKinLine_104 lk_Mo_68 rfl ev8 ?_
    refine E_bi (v := 12) d_Mo_readKinLine_107 (by decide) ?_
    refine E_iln 0 d_Mo_readKinLine_109 rfl rfl ?_
    refine E_iadd d_Mo_readKinLine_110 ?_
    refine E_aln 1 d_Mo_readKinLine_111 rfl rfl ?_
    obtain ⟨v9, ev9, hq⟩ := bd hq
    refine E_gR d_Mo_readKinLine_112 lk_Mo_68 rfl ev9 ?_
    refine E_bi (v := 12) d_Mo_readKinLine_115 (by decide) ?_
    refine E_iln 0 d_Mo_readKinLine_117 rfl rfl ?_
    refine E_iadd d_Mo_readKinLine_118 ?_
    obtain ⟨v10, ev10, hq⟩ := bd hq
    refine E_ra d_Mo_readKinLine_119 ev10 ?_
    refine E_ic (v := 1) d_Mo_readKinLine_120 (by decide) ?_
    refine E_iln 2 d_Mo_readKinLine_121 rfl rfl ?_
    refine E_ishl d_Mo_readKinLine_122 ?_
    refine E_ior d_Mo_readKinLine_123 ?_
    obtain ⟨h11, eh11, hq⟩ := bd hq
    refine E_wa d_Mo_readKinLine_124 eh11 ?_
    refine E_aln 1 d_Mo_readKinLine_125 rfl rfl ?_
    refine E_bi (v := 59) d_Mo_readKinLine_126 (by decide) ?_
    obtain ⟨q13, eq13, hq⟩ := bd hq
    obtain ⟨p12, ep12, hq⟩ := bd hq
    refine E_cV1I d_Mo_readKinLine_128 ck_Mo_285 rfl rfl eq13 (Nat.le_of_ble_eq_true rfl) (Nat.le_of_ble_eq_true rfl) (t_Mo_readMark (by omega) ep12) ?_
    exact E_rI d_Mo_readKinLine_131 rfl hq
  · rw [if_pos c] at hq
    refine E_ic (v := (-1)) d_Mo_readKinLine_79 (by decide) ?_
    exact E_rI d_Mo_readKinLine_80 rfl hq
def f_Mo_readKinLine (a0 : Nat) (h : PH) : Option (Int32 × PH) :=
  (ldI h 9 a0 6).bind fun v1 =>
  (isO h 9 a0).bind fun _ =>
  (f_Mo_readTold a0 17 0 (v1 - 1) h).bind fun p2 =>
  if p2.1 = (-1) then
    some ((-1), p2.2)
  else
    (isO p2.2 9 a0).bind fun _ =>
    (f_Mo_isWord a0 18 p2.2).bind fun p4 =>
    if p4.1 = 0 then
      (isO p4.2 9 a0).bind fun _ =>
      (f_Mo_errs a0 1 p4.2).bind fun p12 =>
      some (p12.1, p12.2)
    else
      (isO p4.2 9 a0).bind fun _ =>
      (f_Mo_reads a0  p4.2).bind fun h6 =>
      (ldI h6 9 a0 17).bind fun v8 =>
      if v8 = 3 then
        (ldI h6 9 a0 18).bind fun v9 =>
        if v9 = p2.1 then
          (isO h6 9 a0).bind fun _ =>
          (f_Mo_errs a0 2 h6).bind fun p10 =>
          some (p10.1, p10.2)
        else
          f_Mo_readKinLine_62 a0 p2.1 h6
      else
        f_Mo_readKinLine_62 a0 p2.1 h6
theorem t_Mo_readKinLine {d : Nat} (hd : 5 ≤ d) {a0 : Nat} {h : PH} {r : Int32 × PH} (hq : f_Mo_readKinLine a0 h = some r) : E d 0 0 m_Mo_readKinLine 0 [(0, .ref a0)] [] h (PI r) := by
  unfold f_Mo_readKinLine at hq
  obtain ⟨d, rfl⟩ : ∃ e, d = e + 1 := ⟨d - 1, by omega⟩
  refine E_aln 0 d_Mo_readKinLine_0 rfl rfl ?_
  refine E_bi (v := 17) d_Mo_readKinLine_1 (by decide) ?_
  refine E_ic (v := 0) d_Mo_readKinLine_3 (by decide) ?_
  refine E_aln 0 d_Mo_readKinLine_4 rfl rfl ?_
  obtain ⟨v1, ev1, hq⟩ := bd hq
  refine E_gI d_Mo_readKinLine_5 lk_Mo_152 rfl ev1 ?_
  refine E_ic (v := 1) d_Mo_readKinLine_8 (by decide) ?_
  refine E_isub d_Mo_readKinLine_9 ?_
  obtain ⟨q3, eq3, hq⟩ := bd hq
  obtain ⟨p2, ep2, hq⟩ := bd hq
  refine E_cV3I d_Mo_readKinLine_10 ck_Mo_281 rfl rfl eq3 (Nat.le_of_ble_eq_true rfl) (Nat.le_of_ble_eq_true rfl) (t_Mo_readTold (by omega) ep2) ?_
  refine E_isn (ls' := [(1, .int p2.1), (0, .ref a0)]) d_Mo_readKinLine_13 (Nat.le_of_ble_eq_true rfl) rfl ?_
  refine E_iln 0 d_Mo_readKinLine_14 rfl rfl ?_
  refine E_ic (v := (-1)) d_Mo_readKinLine_15 (by decide) ?_
  refine E_jne (tgt := 21) d_Mo_readKinLine_16 (by decide) (fun c => ?_) (fun c => ?_)
  · rw [if_neg c] at hq
    refine E_aln 1 d_Mo_readKinLine_21 rfl rfl ?_
    refine E_bi (v := 18) d_Mo_readKinLine_22 (by decide) ?_
    obtain ⟨q5, eq5, hq⟩ := bd hq
    obtain ⟨p4, ep4, hq⟩ := bd hq
    refine E_cV1I d_Mo_readKinLine_24 ck_Mo_256 rfl rfl eq5 (Nat.le_of_ble_eq_true rfl) (Nat.le_of_ble_eq_true rfl) (t_Mo_isWord (by omega) ep4) ?_
    refine E_zne (tgt := 36) d_Mo_readKinLine_27 (by decide) (fun c => ?_) (fun c => ?_)
    · rw [if_neg c] at hq
      refine E_aln 1 d_Mo_readKinLine_36 rfl rfl ?_
      obtain ⟨q7, eq7, hq⟩ := bd hq
      obtain ⟨h6, eh6, hq⟩ := bd hq
      refine E_cV0V d_Mo_readKinLine_37 ck_Mo_234 rfl rfl eq7 (Nat.le_of_ble_eq_true rfl) (Nat.le_of_ble_eq_true rfl) (t_Mo_reads (by omega) eh6) ?_
      refine E_aln 1 d_Mo_readKinLine_40 rfl rfl ?_
      obtain ⟨v8, ev8, hq⟩ := bd hq
      refine E_gI d_Mo_readKinLine_41 lk_Mo_196 rfl ev8 ?_
      refine E_ic (v := 3) d_Mo_readKinLine_44 (by decide) ?_
      refine E_jne (tgt := 62) d_Mo_readKinLine_45 (by decide) (fun c => ?_) (fun c => ?_)
      · rw [if_neg c] at hq
        exact E_sub (ks := [1, 0]) rfl <| t_Mo_readKinLine_62 (by omega) hq
      · rw [if_pos c] at hq
        refine E_aln 1 d_Mo_readKinLine_48 rfl rfl ?_
        obtain ⟨v9, ev9, hq⟩ := bd hq
        refine E_gI d_Mo_readKinLine_49 lk_Mo_199 rfl ev9 ?_
        refine E_iln 0 d_Mo_readKinLine_52 rfl rfl ?_
        refine E_jne (tgt := 62) d_Mo_readKinLine_53 (by decide) (fun c => ?_) (fun c => ?_)
        · rw [if_neg c] at hq
          exact E_sub (ks := [1, 0]) rfl <| t_Mo_readKinLine_62 (by omega) hq
        · rw [if_pos c] at hq
          refine E_aln 1 d_Mo_readKinLine_56 rfl rfl ?_
          refine E_ic (v := 2) d_Mo_readKinLine_57 (by decide) ?_
          obtain ⟨q11, eq11, hq⟩ := bd hq
          obtain ⟨p10, ep10, hq⟩ := bd hq
          refine E_cV1I d_Mo_readKinLine_58 ck_Mo_227 rfl rfl eq11 (Nat.le_of_ble_eq_true rfl) (Nat.le_of_ble_eq_true rfl) (t_Mo_errs (by omega) ep10) ?_
          exact E_rI d_Mo_readKinLine_61 rfl hq
    · rw [if_pos c] at hq
      refine E_aln 1 d_Mo_readKinLine_30 rfl rfl ?_
      refine E_ic (v := 1) d_Mo_readKinLine_31 (by decide) ?_
      obtain ⟨q13, eq13, hq⟩ := bd hq
      obtain ⟨p12, ep12, hq⟩ := bd hq
      refine E_cV1I d_Mo_readKinLine_32 ck_Mo_227 rfl rfl eq13 (Nat.le_of_ble_eq_true rfl) (Nat.le_of_ble_eq_true rfl) (t_Mo_errs (by omega) ep12) ?_
      exact E_rI d_Mo_readKinLine_35 rfl hq
  · rw [if_pos c] at hq
    refine E_ic (v := (-1)) d_Mo_readKinLine_19 (by decide) ?_
    exact E_rI d_Mo_readKinLine_20 rfl hq
